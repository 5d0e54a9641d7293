
set_option maxHeartbeats 4000000 in
theorem readYear_ok {o_yearClauses : Int32} {o_length : Nat} {o_faultPlace : Int32} {o_faultNumber : Int32} {o_at : Nat} {o_numberPlace : Nat} {o_bytes : Nat → Int32} {c0 : Int32} {c1 : Nat} {c2 : Nat} {c3 : Int32} {c4 : Int32} {c5 : Int32} (hu : S_X3_readYear o_yearClauses o_length o_faultPlace o_faultNumber o_at o_numberPlace o_bytes = (c0, c1, c2, c3, c4, c5)) (hat : o_at ≤ o_length) : o_at ≤ c1 ∧ c1 ≤ o_length := by
  unfold S_X3_readYear at hu
  generalize hu_14 : (S_X3_number (1 : Int32) (99 : Int32) o_faultNumber o_length o_faultPlace o_at o_numberPlace o_bytes) = u_14 at hu
  obtain ⟨r14_r, r14_o_at, r14_o_numberPlace, r14_o_faultNumber, r14_o_faultPlace⟩ := u_14
  obtain ⟨hpa_14, hpb_14⟩ := number_ok hu_14 (by omega)
  have hu : K_X3_readYear_14 o_yearClauses o_length o_bytes r14_r r14_o_at r14_o_numberPlace r14_o_faultNumber r14_o_faultPlace = _ := hu
  unfold K_X3_readYear_14 at hu
  generalize hu_19 : (S_X3_endClause r14_o_faultNumber o_length r14_o_faultPlace r14_o_at o_bytes) = u_19 at hu
  obtain ⟨r19_o_at, r19_o_faultNumber, r19_o_faultPlace⟩ := u_19
  obtain ⟨hpa_19, hpb_19⟩ := endClause_ok hu_19 (by omega)
  have hu : K_X3_readYear_19 o_yearClauses r14_r r14_o_numberPlace r19_o_at r19_o_faultNumber r19_o_faultPlace = _ := hu
  unfold K_X3_readYear_19 at hu
  cases hu
  exact ⟨by omega, by omega⟩

set_option maxHeartbeats 4000000 in
theorem readBridge_ok {o_otherClauses : Int32} {o_length : Nat} {o_faultPlace : Int32} {o_faultNumber : Int32} {o_at : Nat} {o_numberPlace : Nat} {o_bytes : Nat → Int32} {x1_bridges : Nat} {x1_forgets : Nat → Int32} {c0 : Int32} {c1 : Nat} {c2 : Nat} {c3 : Int32} {c4 : Int32} {c5 : Nat → Int32} {c6 : Nat} (hu : S_X3_readBridge o_otherClauses o_length o_faultPlace o_faultNumber o_at o_numberPlace o_bytes x1_bridges x1_forgets = (c0, c1, c2, c3, c4, c5, c6)) (hat : o_at ≤ o_length) (hbr : x1_bridges ≤ 5) : o_at ≤ c1 ∧ c1 ≤ o_length ∧ c6 ≤ 5 := by
  unfold S_X3_readBridge at hu
  generalize hu_14 : (S_X3_number (0 : Int32) (9 : Int32) o_faultNumber o_length o_faultPlace o_at o_numberPlace o_bytes) = u_14 at hu
  obtain ⟨r14_r, r14_o_at, r14_o_numberPlace, r14_o_faultNumber, r14_o_faultPlace⟩ := u_14
  obtain ⟨hpa_14, hpb_14⟩ := number_ok hu_14 (by omega)
  have hu : K_X3_readBridge_14 o_otherClauses o_length o_bytes x1_bridges x1_forgets r14_r r14_o_at r14_o_numberPlace r14_o_faultNumber r14_o_faultPlace = _ := hu
  unfold K_X3_readBridge_14 at hu
  generalize hu_19 : (S_X3_endClause r14_o_faultNumber o_length r14_o_faultPlace r14_o_at o_bytes) = u_19 at hu
  obtain ⟨r19_o_at, r19_o_faultNumber, r19_o_faultPlace⟩ := u_19
  obtain ⟨hpa_19, hpb_19⟩ := endClause_ok hu_19 (by omega)
  have hu : K_X3_readBridge_19 o_otherClauses r14_r r14_o_numberPlace x1_bridges x1_forgets r19_o_at r19_o_faultNumber r19_o_faultPlace = _ := hu
  unfold K_X3_readBridge_19 at hu
  generalize hu_24 : (S_X1_addBridge r14_r x1_bridges x1_forgets) = u_24 at hu
  obtain ⟨r24_o_forgets, r24_o_bridges⟩ := u_24
  have hu : K_X3_readBridge_24 o_otherClauses r14_o_numberPlace r19_o_at r19_o_faultNumber r19_o_faultPlace r24_o_forgets r24_o_bridges = _ := hu
  unfold K_X3_readBridge_24 at hu
  cases hu
  refine ⟨by omega, by omega, ?_⟩; unfold S_X1_addBridge at hu_24; split at hu_24 <;> cases hu_24 <;> omega

set_option maxHeartbeats 4000000 in
theorem readMan_ok {o_otherClauses : Int32} {o_length : Nat} {o_faultPlace : Int32} {o_faultNumber : Int32} {o_at : Nat} {o_numberPlace : Nat} {o_bytes : Nat → Int32} {x1_men : Nat} {x1_weight : Nat → Int32} {x1_chance : Nat → Int32} {x1_knowsAtFirst : Nat → Int32} {c0 : Int32} {c1 : Nat} {c2 : Nat} {c3 : Int32} {c4 : Int32} {c5 : Nat → Int32} {c6 : Nat → Int32} {c7 : Nat → Int32} {c8 : Nat} (hu : S_X3_readMan o_otherClauses o_length o_faultPlace o_faultNumber o_at o_numberPlace o_bytes x1_men x1_weight x1_chance x1_knowsAtFirst = (c0, c1, c2, c3, c4, c5, c6, c7, c8)) (hat : o_at ≤ o_length) (hmen : x1_men ≤ 6) : o_at ≤ c1 ∧ c1 ≤ o_length ∧ c8 ≤ 6 := by
  unfold S_X3_readMan at hu
  generalize hu_15 : (S_X3_number (1 : Int32) (999 : Int32) o_faultNumber o_length o_faultPlace o_at o_numberPlace o_bytes) = u_15 at hu
  obtain ⟨r15_r, r15_o_at, r15_o_numberPlace, r15_o_faultNumber, r15_o_faultPlace⟩ := u_15
  obtain ⟨hpa_15, hpb_15⟩ := number_ok hu_15 (by omega)
  have hu : K_X3_readMan_15 o_otherClauses o_length o_bytes x1_men x1_weight x1_chance x1_knowsAtFirst r15_r r15_o_at r15_o_numberPlace r15_o_faultNumber r15_o_faultPlace = _ := hu
  unfold K_X3_readMan_15 at hu
  generalize hu_23 : (S_X3_number (0 : Int32) (100 : Int32) r15_o_faultNumber o_length r15_o_faultPlace r15_o_at r15_o_numberPlace o_bytes) = u_23 at hu
  obtain ⟨r23_r, r23_o_at, r23_o_numberPlace, r23_o_faultNumber, r23_o_faultPlace⟩ := u_23
  obtain ⟨hpa_23, hpb_23⟩ := number_ok hu_23 (by omega)
  have hu : K_X3_readMan_23 o_otherClauses o_length o_bytes r15_r x1_men x1_weight x1_chance x1_knowsAtFirst r23_r r23_o_at r23_o_numberPlace r23_o_faultNumber r23_o_faultPlace = _ := hu
  unfold K_X3_readMan_23 at hu
  generalize hu_28 : (S_X3_endClause r23_o_faultNumber o_length r23_o_faultPlace r23_o_at o_bytes) = u_28 at hu
  obtain ⟨r28_o_at, r28_o_faultNumber, r28_o_faultPlace⟩ := u_28
  obtain ⟨hpa_28, hpb_28⟩ := endClause_ok hu_28 (by omega)
  have hu : K_X3_readMan_28 o_otherClauses r15_r r23_r r23_o_numberPlace x1_men x1_weight x1_chance x1_knowsAtFirst r28_o_at r28_o_faultNumber r28_o_faultPlace = _ := hu
  unfold K_X3_readMan_28 at hu
  generalize hu_34 : (S_X1_addMan r15_r r23_r x1_men x1_weight x1_chance x1_knowsAtFirst) = u_34 at hu
  obtain ⟨r34_o_weight, r34_o_chance, r34_o_knowsAtFirst, r34_o_men⟩ := u_34
  have hu : K_X3_readMan_34 o_otherClauses r23_o_numberPlace r28_o_at r28_o_faultNumber r28_o_faultPlace r34_o_weight r34_o_chance r34_o_knowsAtFirst r34_o_men = _ := hu
  unfold K_X3_readMan_34 at hu
  cases hu
  refine ⟨by omega, by omega, ?_⟩; unfold S_X1_addMan at hu_34; split at hu_34 <;> cases hu_34 <;> omega

set_option maxHeartbeats 4000000 in
theorem readOx_ok {o_otherClauses : Int32} {o_length : Nat} {o_faultPlace : Int32} {o_faultNumber : Int32} {o_at : Nat} {o_numberPlace : Nat} {o_bytes : Nat → Int32} {x1_oxen : Nat} {x1_oxWeight : Nat → Int32} {x1_oxPrice : Nat → Int32} {c0 : Int32} {c1 : Nat} {c2 : Nat} {c3 : Int32} {c4 : Int32} {c5 : Nat → Int32} {c6 : Nat → Int32} {c7 : Nat} (hu : S_X3_readOx o_otherClauses o_length o_faultPlace o_faultNumber o_at o_numberPlace o_bytes x1_oxen x1_oxWeight x1_oxPrice = (c0, c1, c2, c3, c4, c5, c6, c7)) (hat : o_at ≤ o_length) (hox : x1_oxen ≤ 5) : o_at ≤ c1 ∧ c1 ≤ o_length ∧ c7 ≤ 5 := by
  unfold S_X3_readOx at hu
  generalize hu_15 : (S_X3_number (1 : Int32) (999 : Int32) o_faultNumber o_length o_faultPlace o_at o_numberPlace o_bytes) = u_15 at hu
  obtain ⟨r15_r, r15_o_at, r15_o_numberPlace, r15_o_faultNumber, r15_o_faultPlace⟩ := u_15
  obtain ⟨hpa_15, hpb_15⟩ := number_ok hu_15 (by omega)
  have hu : K_X3_readOx_15 o_otherClauses o_length o_bytes x1_oxen x1_oxWeight x1_oxPrice r15_r r15_o_at r15_o_numberPlace r15_o_faultNumber r15_o_faultPlace = _ := hu
  unfold K_X3_readOx_15 at hu
  generalize hu_24 : (S_X3_number (0 : Int32) (999 : Int32) r15_o_faultNumber o_length r15_o_faultPlace r15_o_at r15_o_numberPlace o_bytes) = u_24 at hu
  obtain ⟨r24_r, r24_o_at, r24_o_numberPlace, r24_o_faultNumber, r24_o_faultPlace⟩ := u_24
  obtain ⟨hpa_24, hpb_24⟩ := number_ok hu_24 (by omega)
  have hu : K_X3_readOx_24 o_otherClauses o_length o_bytes r15_r x1_oxen x1_oxWeight x1_oxPrice r24_r r24_o_at r24_o_numberPlace r24_o_faultNumber r24_o_faultPlace = _ := hu
  unfold K_X3_readOx_24 at hu
  generalize hu_29 : (S_X3_endClause r24_o_faultNumber o_length r24_o_faultPlace r24_o_at o_bytes) = u_29 at hu
  obtain ⟨r29_o_at, r29_o_faultNumber, r29_o_faultPlace⟩ := u_29
  obtain ⟨hpa_29, hpb_29⟩ := endClause_ok hu_29 (by omega)
  have hu : K_X3_readOx_29 o_otherClauses r15_r r24_r r24_o_numberPlace x1_oxen x1_oxWeight x1_oxPrice r29_o_at r29_o_faultNumber r29_o_faultPlace = _ := hu
  unfold K_X3_readOx_29 at hu
  generalize hu_35 : (S_X1_addOx r15_r r24_r x1_oxen x1_oxWeight x1_oxPrice) = u_35 at hu
  obtain ⟨r35_o_oxWeight, r35_o_oxPrice, r35_o_oxen⟩ := u_35
  have hu : K_X3_readOx_35 o_otherClauses r24_o_numberPlace r29_o_at r29_o_faultNumber r29_o_faultPlace r35_o_oxWeight r35_o_oxPrice r35_o_oxen = _ := hu
  unfold K_X3_readOx_35 at hu
  cases hu
  refine ⟨by omega, by omega, ?_⟩; unfold S_X1_addOx at hu_35; split at hu_35 <;> cases hu_35 <;> omega
