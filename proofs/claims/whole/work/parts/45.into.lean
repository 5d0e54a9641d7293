/-! what reading a clause keeps -/
theorem ite_or {α : Type} {p : Prop} [Decidable p] {a b c : α} (h : (if p then a else b) = c) : (p ∧ a = c) ∨ (¬ p ∧ b = c) := by
  by_cases q : p
  · rw [if_pos q] at h; exact Or.inl ⟨q, h⟩
  · rw [if_neg q] at h; exact Or.inr ⟨q, h⟩
set_option maxHeartbeats 4000000 in
theorem readClause_ok {o_at : Nat} {o_length : Nat} {o_faultPlace : Int32} {o_faultNumber : Int32} {o_numberPlace : Nat} {o_yearClauses : Int32} {o_knowsClauses : Int32} {o_otherClauses : Int32} {o_bytes : Nat → Int32} {x1_year : Int32} {x1_bridges : Nat} {x1_men : Nat} {x1_oxen : Nat} {x1_forgets : Nat → Int32} {x1_weight : Nat → Int32} {x1_chance : Nat → Int32} {x1_knowsAtFirst : Nat → Int32} {x1_oxWeight : Nat → Int32} {x1_oxPrice : Nat → Int32} {c0 : Nat} {c1 : Int32} {c2 : Nat} {c3 : Int32} {c4 : Int32} {c5 : Int32} {c6 : Int32} {c7 : Nat → Int32} {c8 : Nat} {c9 : Nat → Int32} {c10 : Nat → Int32} {c11 : Nat → Int32} {c12 : Nat} {c13 : Int32} {c14 : Nat → Int32} {c15 : Nat → Int32} {c16 : Nat} (hu : S_X3_readClause o_at o_length o_faultPlace o_faultNumber o_numberPlace o_yearClauses o_knowsClauses o_otherClauses o_bytes x1_year x1_bridges x1_men x1_oxen x1_forgets x1_weight x1_chance x1_knowsAtFirst x1_oxWeight x1_oxPrice = (c0, c1, c2, c3, c4, c5, c6, c7, c8, c9, c10, c11, c12, c13, c14, c15, c16)) (hlen : o_length ≤ 500) (hat : o_at ≤ o_length) (hbr : x1_bridges ≤ 5) (hmen : x1_men ≤ 6) (hox : x1_oxen ≤ 5) : o_at ≤ c0 ∧ c0 ≤ o_length ∧ c8 ≤ 5 ∧ c12 ≤ 6 ∧ c16 ≤ 5 := by
  unfold S_X3_readClause at hu
  have he := endOfWord_ok (o_bytes := o_bytes) hat
  generalize S_X3_endOfWord o_at o_length o_bytes = en at hu he
  generalize S_X3_clauseOf o_at en o_length o_bytes = cl at hu
  generalize S_X3_whyNot cl o_otherClauses o_yearClauses o_knowsClauses x1_bridges x1_men x1_oxen = wn at hu
  obtain ⟨he1, he2⟩ := he
  rcases ite_or hu with ⟨c_1, hu⟩ | ⟨c_1, hu⟩
  · skip
    rcases ite_or hu with ⟨c_2, hu⟩ | ⟨c_2, hu⟩
    · generalize hu_78 : (S_X3_readYear o_yearClauses o_length o_faultPlace o_faultNumber en o_numberPlace o_bytes) = u_78 at hu
      obtain ⟨r78_o_yearClauses, r78_o_at, r78_o_numberPlace, r78_o_faultNumber, r78_o_faultPlace, r78_x1_year⟩ := u_78
      obtain ⟨hpa_78, hpb_78⟩ := readYear_ok hu_78 (by omega)
      have hu : K_X3_readClause_78 o_knowsClauses o_otherClauses x1_bridges x1_men x1_oxen x1_forgets x1_weight x1_chance x1_knowsAtFirst x1_oxWeight x1_oxPrice r78_o_yearClauses r78_o_at r78_o_numberPlace r78_o_faultNumber r78_o_faultPlace r78_x1_year = _ := hu
      unfold K_X3_readClause_78 at hu
      cases hu
      clear hu_78
      exact ⟨by omega, by omega, by omega, by omega, by omega⟩
    · skip
      rcases ite_or hu with ⟨c_3, hu⟩ | ⟨c_3, hu⟩
      · generalize hu_86 : (S_X3_readBridge o_otherClauses o_length o_faultPlace o_faultNumber en o_numberPlace o_bytes x1_bridges x1_forgets) = u_86 at hu
        obtain ⟨r86_o_otherClauses, r86_o_at, r86_o_numberPlace, r86_o_faultNumber, r86_o_faultPlace, r86_x1_forgets, r86_x1_bridges⟩ := u_86
        obtain ⟨hpa_86, hpb_86, hpc_86⟩ := readBridge_ok hu_86 (by omega) (by omega)
        have hu : K_X3_readClause_86 o_yearClauses o_knowsClauses x1_year x1_men x1_oxen x1_weight x1_chance x1_knowsAtFirst x1_oxWeight x1_oxPrice r86_o_otherClauses r86_o_at r86_o_numberPlace r86_o_faultNumber r86_o_faultPlace r86_x1_forgets r86_x1_bridges = _ := hu
        unfold K_X3_readClause_86 at hu
        cases hu
        clear hu_86
        exact ⟨by omega, by omega, by omega, by omega, by omega⟩
      · skip
        rcases ite_or hu with ⟨c_4, hu⟩ | ⟨c_4, hu⟩
        · generalize hu_94 : (S_X3_readMan o_otherClauses o_length o_faultPlace o_faultNumber en o_numberPlace o_bytes x1_men x1_weight x1_chance x1_knowsAtFirst) = u_94 at hu
          obtain ⟨r94_o_otherClauses, r94_o_at, r94_o_numberPlace, r94_o_faultNumber, r94_o_faultPlace, r94_x1_weight, r94_x1_chance, r94_x1_knowsAtFirst, r94_x1_men⟩ := u_94
          obtain ⟨hpa_94, hpb_94, hpc_94⟩ := readMan_ok hu_94 (by omega) (by omega)
          have hu : K_X3_readClause_94 o_yearClauses o_knowsClauses x1_year x1_bridges x1_oxen x1_forgets x1_oxWeight x1_oxPrice r94_o_otherClauses r94_o_at r94_o_numberPlace r94_o_faultNumber r94_o_faultPlace r94_x1_weight r94_x1_chance r94_x1_knowsAtFirst r94_x1_men = _ := hu
          unfold K_X3_readClause_94 at hu
          cases hu
          clear hu_94
          exact ⟨by omega, by omega, by omega, by omega, by omega⟩
        · skip
          rcases ite_or hu with ⟨c_5, hu⟩ | ⟨c_5, hu⟩
          · generalize hu_102 : (S_X3_readKnows o_otherClauses o_length o_faultPlace o_faultNumber en o_numberPlace o_knowsClauses x1_men o_bytes x1_knowsAtFirst) = u_102 at hu
            obtain ⟨r102_o_otherClauses, r102_o_knowsClauses, r102_o_at, r102_o_numberPlace, r102_o_faultNumber, r102_o_faultPlace, r102_x1_knowsAtFirst⟩ := u_102
            obtain ⟨hpa_102, hpb_102⟩ := readKnows_ok hu_102 (by omega)
            have hu : K_X3_readClause_102 o_yearClauses x1_year x1_bridges x1_men x1_oxen x1_forgets x1_weight x1_chance x1_oxWeight x1_oxPrice r102_o_otherClauses r102_o_knowsClauses r102_o_at r102_o_numberPlace r102_o_faultNumber r102_o_faultPlace r102_x1_knowsAtFirst = _ := hu
            unfold K_X3_readClause_102 at hu
            cases hu
            clear hu_102
            exact ⟨by omega, by omega, by omega, by omega, by omega⟩
          · skip
            generalize hu_110 : (S_X3_readOx o_otherClauses o_length o_faultPlace o_faultNumber en o_numberPlace o_bytes x1_oxen x1_oxWeight x1_oxPrice) = u_110 at hu
            obtain ⟨r110_o_otherClauses, r110_o_at, r110_o_numberPlace, r110_o_faultNumber, r110_o_faultPlace, r110_x1_oxWeight, r110_x1_oxPrice, r110_x1_oxen⟩ := u_110
            obtain ⟨hpa_110, hpb_110, hpc_110⟩ := readOx_ok hu_110 (by omega) (by omega)
            have hu : K_X3_readClause_110 o_yearClauses o_knowsClauses x1_year x1_bridges x1_men x1_forgets x1_weight x1_chance x1_knowsAtFirst r110_o_otherClauses r110_o_at r110_o_numberPlace r110_o_faultNumber r110_o_faultPlace r110_x1_oxWeight r110_x1_oxPrice r110_x1_oxen = _ := hu
            unfold K_X3_readClause_110 at hu
            cases hu
            clear hu_110
            exact ⟨by omega, by omega, by omega, by omega, by omega⟩
  · generalize hu_36 : (S_X3_blame wn (nI o_at)) = u_36 at hu
    obtain ⟨r36_o_faultNumber, r36_o_faultPlace⟩ := u_36
    have hu : K_X3_readClause_36 o_at o_numberPlace o_yearClauses o_knowsClauses o_otherClauses x1_year x1_bridges x1_men x1_oxen x1_forgets x1_weight x1_chance x1_knowsAtFirst x1_oxWeight x1_oxPrice r36_o_faultNumber r36_o_faultPlace = _ := hu
    unfold K_X3_readClause_36 at hu
    cases hu
    clear hu_36
    exact ⟨by omega, by omega, by omega, by omega, by omega⟩
