
def K_X3_isWord_27   : Int32 := (1 : Int32)
def B_X3_isWord_27 (x1 : Nat) (x2 : Nat) (o_bytes : Nat → Int32) (k_27 : Nat)  : Unit ⊕ (Int32) := (if (o_bytes (x2 + k_27)) = ((SB.getD x1 []).getD k_27 0) then (.inl ()) else (.inr (0 : Int32)))
def S_X3_isWord (x1 : Nat) (x2 : Nat) (x3 : Nat) (o_length : Nat) (o_bytes : Nat → Int32) : Int32 := (if (x3 - x2) = (SL.getD x1 0) then (if x3 ≤ o_length then (outE (fun a => K_X3_isWord_27 ) (iterE (fun k a => B_X3_isWord_27 x1 x2 o_bytes k) (SL.getD x1 0) 0 ())) else (0 : Int32)) else (0 : Int32))
set_option maxHeartbeats 4000000 in
set_option maxRecDepth 100000 in
theorem c_X3_isWord (l : Launch) (adK adV : Nat → Nat) (D : va_G) (tB tI tZ : ClassId) (a_o a_o_bytes : Nat) (o_length : Nat) (o_faultPlace : Int32) (o_faultNumber : Int32) (o_at : Nat) (o_numberPlace : Nat) (o_yearClauses : Int32) (o_knowsClauses : Int32) (o_otherClauses : Int32) (o_bytes : Nat → Int32) (x1 : Nat) (x2 : Nat) (x3 : Nat) (hwd : x1 < 5) (hx2 : x2 ≤ x3) (hx3 : x3 ≤ o_length) (hlen : o_length ≤ 500) : CTZ l adK adV D (tyL tB tI tZ) yX3_isWord (.code yX3_isWord cX3_isWord 5 (some .boolean)) 4 85 [.ref a_o, .ref (adK x1), .int (nI x2), .int (nI x3)] [(a_o, .inr (3, [.ref a_o_bytes, .int (nI o_length), .int o_faultPlace, .int o_faultNumber, .int (nI o_at), .int (nI o_numberPlace), .int o_yearClauses, .int o_knowsClauses, .int o_otherClauses])), (a_o_bytes, .inl (tB, 500, .inl o_bytes))] (fun u : Int32 => some (.int (u))) (fun _ : Int32 => [(a_o, .inr (3, [.ref a_o_bytes, .int (nI o_length), .int o_faultPlace, .int o_faultNumber, .int (nI o_at), .int (nI o_numberPlace), .int o_yearClauses, .int o_knowsClauses, .int o_otherClauses])), (a_o_bytes, .inl (tB, 500, .inl o_bytes))]) (S_X3_isWord x1 x2 x3 o_length o_bytes) := by
  refine CTZ.intro (k := 0) (Nat.le_of_ble_eq_true rfl) (by decide) ?_
  intro p e s m below meth c Q A ls E hA hP hD hS hZ hl hF
  obtain ⟨⟨hx, hb, hml, hown, hts⟩, hK⟩ := id E
  generalize hR : S_X3_isWord x1 x2 x3 o_length o_bytes = RES at hF
  unfold S_X3_isWord at hR
  have hl : lv_has ls 5 [(0, .ref a_o), (1, .ref (adK x1)), (2, .int (nI x2)), (3, .int (nI x3))] := hl
  have hsl := sl_le x1 hwd
  refine lv_iload_n hx hb dX3_isWord_0 rfl (lv_at hl 3 rfl) ?_
  refine lv_iload_n hx hb dX3_isWord_1 rfl (lv_at hl 2 rfl) ?_
  refine lv_isub hx hb dX3_isWord_2 ?_
  refine lv_is (pk_sub (a := x3) (b := x2) (by omega)) ?_
  refine lv_aload_n hx hb dX3_isWord_3 rfl (lv_at hl 1 rfl) ?_
  refine kcVS E hZ hl.1 (i := x1) (by omega) (c_JL l adK adV D tB tI tZ x1 (by omega)) rfl cvJL rfl wJm1 hP hD hS hA (As := []) (rest := [.int (nI (x3 - x2))]) rfl rfl (Nat.le_of_ble_eq_true rfl) ⟨Nat.le_of_ble_eq_true rfl, Nat.le_of_ble_eq_true rfl⟩ ⟨Nat.zero_le _, Nat.zero_le _⟩ dX3_isWord_4 (fun H locs hP hD hS => ?_)
  refine ni_ne (a := (x3 - x2)) (b := (SL.getD x1 0)) (tgt := 22) (by omega) (by omega) hx hb dX3_isWord_7 (by decide) (fun c_1 => ?_) (fun c_1 => ?_)
  · rw [if_neg c_1] at hR
    refine lv_iconst (v := (0 : Int32)) hx hb dX3_isWord_22 (by decide) ?_
    subst hR
    exact (hF _ _ _ _ hP hS).1 _ rfl ⟨.boolean, rfl, rfl⟩ dX3_isWord_23
  · rw [if_pos c_1] at hR
    refine lv_iload_n hx hb dX3_isWord_10 rfl (lv_at hl 2 rfl) ?_
    refine nz_lt (a := x2) (tgt := 22) (by omega) hx hb dX3_isWord_11 (by decide) ?_
    refine lv_iload_n hx hb dX3_isWord_14 rfl (lv_at hl 3 rfl) ?_
    refine lv_aload_n hx hb dX3_isWord_15 rfl (lv_at hl 0 rfl) ?_
    refine fget E hP 0 rfl fd_X3_15 (v := .int (nI o_length)) rfl dX3_isWord_16 ?_
    refine ni_le (a := x3) (b := o_length) (tgt := 24) (by omega) (by omega) hx hb dX3_isWord_19 (by decide) (fun c_3 => ?_) (fun c_3 => ?_)
    · rw [if_pos c_3] at hR
      refine lv_iconst (v := (0 : Int32)) hx hb dX3_isWord_24 (by decide) ?_
      refine lv_istore (lv' := [(4, .int (0 : Int32)), (0, .ref a_o), (1, .ref (adK x1)), (2, .int (nI x2)), (3, .int (nI x3))]) hx hb dX3_isWord_25 hl (by decide) rfl (fun ls hl => ?_)
      have EX_27 : ∀   (H : Heap) (locs : List Loc) (ls : Array Slot), K_X3_isWord_27  = RES → va_P D vwCl [(a_o, .inr (3, [.ref a_o_bytes, .int (nI o_length), .int o_faultPlace, .int o_faultNumber, .int (nI o_at), .int (nI o_numberPlace), .int o_yearClauses, .int o_knowsClauses, .int o_otherClauses])), (a_o_bytes, .inl (tB, 500, .inl o_bytes))] H → va_D A [(a_o, .inr (3, [.ref a_o_bytes, .int (nI o_length), .int o_faultPlace, .int o_faultNumber, .int (nI o_at), .int (nI o_numberPlace), .int o_yearClauses, .int o_knowsClauses, .int o_otherClauses])), (a_o_bytes, .inl (tB, 500, .inl o_bytes))] → va_S A s.heap H locs → lv_has ls 5 [] → W p l e { frames := 4, cells := 0, slots := 0, locals := 85 } s m ([.ref a_o, .ref (adK x1), .int (nI x2), .int (nI x3)] : List Value).toArray below meth c H locs 0 0 Q (F0 m 62 ls []) := by
        intro  H locs ls hR hP hD hS hl
        unfold K_X3_isWord_27 at hR
        refine lv_iconst (v := (1 : Int32)) hx hb dX3_isWord_62 (by decide) ?_
        subst hR
        exact (hF _ _ _ _ hP hS).1 _ rfl ⟨.boolean, rfl, rfl⟩ dX3_isWord_63
      have LP_27 : ∀ (n_27 k_27 : Nat)   (H : Heap) (locs : List Loc) (ls : Array Slot), k_27 + n_27 = (SL.getD x1 0) → outE (fun a => K_X3_isWord_27 ) (iterE (fun k a => B_X3_isWord_27 x1 x2 o_bytes k) n_27 k_27 ()) = RES → va_P D vwCl [(a_o, .inr (3, [.ref a_o_bytes, .int (nI o_length), .int o_faultPlace, .int o_faultNumber, .int (nI o_at), .int (nI o_numberPlace), .int o_yearClauses, .int o_knowsClauses, .int o_otherClauses])), (a_o_bytes, .inl (tB, 500, .inl o_bytes))] H → va_D A [(a_o, .inr (3, [.ref a_o_bytes, .int (nI o_length), .int o_faultPlace, .int o_faultNumber, .int (nI o_at), .int (nI o_numberPlace), .int o_yearClauses, .int o_knowsClauses, .int o_otherClauses])), (a_o_bytes, .inl (tB, 500, .inl o_bytes))] → va_S A s.heap H locs → lv_has ls 5 [(4, .int (nI k_27)), (0, .ref a_o), (1, .ref (adK x1)), (2, .int (nI x2))] → W p l e { frames := 4, cells := 0, slots := 0, locals := 85 } s m ([.ref a_o, .ref (adK x1), .int (nI x2), .int (nI x3)] : List Value).toArray below meth c H locs 0 0 Q (F0 m 27 ls []) := by
        intro n_27
        induction n_27 with
        | zero =>
          intro k_27 H locs ls hn_27 hR hP hD hS hl
          refine lv_iload hx hb dX3_isWord_27 (lv_at hl 0 rfl) ?_
          refine lv_aload_n hx hb dX3_isWord_29 rfl (lv_at hl 2 rfl) ?_
          refine kcVS E hZ hl.1 (i := x1) (by omega) (c_JL l adK adV D tB tI tZ x1 (by omega)) rfl cvJL rfl wJm1 hP hD hS hA (As := []) (rest := [.int (nI k_27)]) rfl rfl (Nat.le_of_ble_eq_true rfl) ⟨Nat.le_of_ble_eq_true rfl, Nat.le_of_ble_eq_true rfl⟩ ⟨Nat.zero_le _, Nat.zero_le _⟩ dX3_isWord_30 (fun H locs hP hD hS => ?_)
          refine ni_ge (a := k_27) (b := (SL.getD x1 0)) (tgt := 62) (by omega) (by omega) hx hb dX3_isWord_33 (by decide) (fun g_27 => ?_) (fun g_27 => ?_)
          · exact EX_27   _ _ _ hR hP hD hS (lv_sub hl [] rfl)
          · exfalso; omega
        | succ n_27 ih_27 =>
          intro k_27 H locs ls hn_27 hR hP hD hS hl
          have hR : outE (fun a => K_X3_isWord_27 ) (stepE (iterE (fun k a => B_X3_isWord_27 x1 x2 o_bytes k) n_27 (k_27 + 1)) (B_X3_isWord_27 x1 x2 o_bytes k_27)) = RES := hR
          generalize hB_27 : B_X3_isWord_27 x1 x2 o_bytes k_27 = RB_27 at hR
          unfold B_X3_isWord_27 at hB_27
          refine lv_iload hx hb dX3_isWord_27 (lv_at hl 0 rfl) ?_
          refine lv_aload_n hx hb dX3_isWord_29 rfl (lv_at hl 2 rfl) ?_
          refine kcVS E hZ hl.1 (i := x1) (by omega) (c_JL l adK adV D tB tI tZ x1 (by omega)) rfl cvJL rfl wJm1 hP hD hS hA (As := []) (rest := [.int (nI k_27)]) rfl rfl (Nat.le_of_ble_eq_true rfl) ⟨Nat.le_of_ble_eq_true rfl, Nat.le_of_ble_eq_true rfl⟩ ⟨Nat.zero_le _, Nat.zero_le _⟩ dX3_isWord_30 (fun H locs hP hD hS => ?_)
          refine ni_ge (a := k_27) (b := (SL.getD x1 0)) (tgt := 62) (by omega) (by omega) hx hb dX3_isWord_33 (by decide) (fun g_27 => ?_) (fun g_27 => ?_)
          · exfalso; omega
          · refine lv_aload_n hx hb dX3_isWord_36 rfl (lv_at hl 1 rfl) ?_
            refine fget E hP 0 rfl fd_X3_9 (v := .ref a_o_bytes) rfl dX3_isWord_37 ?_
            refine lv_iload_n hx hb dX3_isWord_40 rfl (lv_at hl 3 rfl) ?_
            refine lv_iload hx hb dX3_isWord_41 (lv_at hl 0 rfl) ?_
            refine lv_iadd hx hb dX3_isWord_43 ?_
            refine lv_is (nI_add x2 k_27) ?_
            refine bld E hP 1 rfl (k := (x2 + k_27)) (by omega) (by decide) dX3_isWord_44 ?_
            refine lv_aload_n hx hb dX3_isWord_45 rfl (lv_at hl 2 rfl) ?_
            refine lv_iload hx hb dX3_isWord_46 (lv_at hl 0 rfl) ?_
            refine kcVS E hZ hl.1 (i := x1) (by omega) (c_JA l adK adV D tB tI tZ x1 k_27 (by omega) (by omega)) rfl cvJA rfl wJm3 hP hD hS hA (As := [.int (nI k_27)]) (rest := [.int (o_bytes (x2 + k_27))]) rfl rfl (Nat.le_of_ble_eq_true rfl) ⟨Nat.le_of_ble_eq_true rfl, Nat.le_of_ble_eq_true rfl⟩ ⟨Nat.zero_le _, Nat.zero_le _⟩ dX3_isWord_48 (fun H locs hP hD hS => ?_)
            refine lv_icmp_eq (tgt := 56) hx hb dX3_isWord_51 (by decide) (fun c_5 => ?_) (fun c_5 => ?_)
            · rw [if_pos c_5] at hB_27
              refine lv_iinc (v := (nI (k_27 + 1))) (lv' := [(4, .int (nI (k_27 + 1))), (0, .ref a_o), (1, .ref (adK x1)), (2, .int (nI x2))]) hx hb dX3_isWord_56 hl (k := 0) rfl (nI_i1 k_27) (by decide) rfl (fun ls hl => ?_)
              refine lv_goto (tgt := 27) hx hb dX3_isWord_59 (by decide) ?_
              subst hB_27
              exact ih_27 (k_27 + 1)   _ _ _ (by omega) hR hP hD hS (lv_sub hl [0, 1, 2, 3] rfl)
            · rw [if_neg c_5] at hB_27
              refine lv_iconst (v := (0 : Int32)) hx hb dX3_isWord_54 (by decide) ?_
              subst hB_27
              have hR : (0 : Int32) = RES := hR
              subst hR
              exact (hF _ _ _ _ hP hS).1 _ rfl ⟨.boolean, rfl, rfl⟩ dX3_isWord_55
      exact LP_27 (SL.getD x1 0) 0   _ _ _ (by omega) hR hP hD hS (lv_sub hl [0, 1, 2, 3] rfl)
    · rw [if_neg c_3] at hR
      refine lv_iconst (v := (0 : Int32)) hx hb dX3_isWord_22 (by decide) ?_
      subst hR
      exact (hF _ _ _ _ hP hS).1 _ rfl ⟨.boolean, rfl, rfl⟩ dX3_isWord_23

def S_X3_clauseOf (x1 : Nat) (x2 : Nat) (o_length : Nat) (o_bytes : Nat → Int32) : Int32 := (if (S_X3_isWord 0 x1 x2 o_length o_bytes) = 0 then (if (S_X3_isWord 1 x1 x2 o_length o_bytes) = 0 then (if (S_X3_isWord 2 x1 x2 o_length o_bytes) = 0 then (if (S_X3_isWord 3 x1 x2 o_length o_bytes) = 0 then (if (S_X3_isWord 4 x1 x2 o_length o_bytes) = 0 then (0 : Int32) else (5 : Int32)) else (4 : Int32)) else (3 : Int32)) else (2 : Int32)) else (1 : Int32))
set_option maxHeartbeats 4000000 in
set_option maxRecDepth 100000 in
theorem c_X3_clauseOf (l : Launch) (adK adV : Nat → Nat) (D : va_G) (tB tI tZ : ClassId) (a_o a_o_bytes : Nat) (o_length : Nat) (o_faultPlace : Int32) (o_faultNumber : Int32) (o_at : Nat) (o_numberPlace : Nat) (o_yearClauses : Int32) (o_knowsClauses : Int32) (o_otherClauses : Int32) (o_bytes : Nat → Int32) (x1 : Nat) (x2 : Nat) (hx2 : x1 ≤ x2) (hx3 : x2 ≤ o_length) (hlen : o_length ≤ 500) : CTZ l adK adV D (tyL tB tI tZ) yX3_clauseOf (.code yX3_clauseOf cX3_clauseOf 3 (some .int)) 5 109 [.ref a_o, .int (nI x1), .int (nI x2)] [(a_o, .inr (3, [.ref a_o_bytes, .int (nI o_length), .int o_faultPlace, .int o_faultNumber, .int (nI o_at), .int (nI o_numberPlace), .int o_yearClauses, .int o_knowsClauses, .int o_otherClauses])), (a_o_bytes, .inl (tB, 500, .inl o_bytes))] (fun u : Int32 => some (.int (u))) (fun _ : Int32 => [(a_o, .inr (3, [.ref a_o_bytes, .int (nI o_length), .int o_faultPlace, .int o_faultNumber, .int (nI o_at), .int (nI o_numberPlace), .int o_yearClauses, .int o_knowsClauses, .int o_otherClauses])), (a_o_bytes, .inl (tB, 500, .inl o_bytes))]) (S_X3_clauseOf x1 x2 o_length o_bytes) := by
  refine CTZ.intro (k := 0) (Nat.le_of_ble_eq_true rfl) (by decide) ?_
  intro p e s m below meth c Q A ls E hA hP hD hS hZ hl hF
  obtain ⟨⟨hx, hb, hml, hown, hts⟩, hK⟩ := id E
  generalize hR : S_X3_clauseOf x1 x2 o_length o_bytes = RES at hF
  unfold S_X3_clauseOf at hR
  have hl : lv_has ls 3 [(0, .ref a_o), (1, .int (nI x1)), (2, .int (nI x2))] := hl
  refine lv_aload_n hx hb dX3_clauseOf_0 rfl (lv_at hl 0 rfl) ?_
  refine va_ldcS hx hb hown (hZ.2.1 0 (by decide)) dX3_clauseOf_1 ?_
  refine lv_iload_n hx hb dX3_clauseOf_3 rfl (lv_at hl 1 rfl) ?_
  refine lv_iload_n hx hb dX3_clauseOf_4 rfl (lv_at hl 2 rfl) ?_
  refine kcVZ E hZ hl.1 (c_X3_isWord l adK adV D tB tI tZ a_o a_o_bytes o_length o_faultPlace o_faultNumber o_at o_numberPlace o_yearClauses o_knowsClauses o_otherClauses o_bytes 0 x1 x2 (show 0 < 5 by first | assumption | omega | exact NN.none | exact NN.nat (by omega) (by omega) | exact NN.up (by assumption) (by omega)) (show x1 ≤ x2 by first | assumption | omega | exact NN.none | exact NN.nat (by omega) (by omega) | exact NN.up (by assumption) (by omega)) (show x2 ≤ o_length by first | assumption | omega | exact NN.none | exact NN.nat (by omega) (by omega) | exact NN.up (by assumption) (by omega)) (show o_length ≤ 500 by first | assumption | omega | exact NN.none | exact NN.nat (by omega) (by omega) | exact NN.up (by assumption) (by omega))) cv_X3_isWord wm_X3_85 hP hD hS hA [0, 1] rfl rfl rfl (ws2 := [(a_o, .inr (3, [.ref a_o_bytes, .int (nI o_length), .int o_faultPlace, .int o_faultNumber, .int (nI o_at), .int (nI o_numberPlace), .int o_yearClauses, .int o_knowsClauses, .int o_otherClauses])), (a_o_bytes, .inl (tB, 500, .inl o_bytes))]) rfl rfl (b := a_o) (As := [.ref (adK 0), .int (nI x1), .int (nI x2)]) (rest := []) 0 3 rfl rfl rfl rfl (Nat.le_of_ble_eq_true rfl) ⟨Nat.le_of_ble_eq_true rfl, Nat.le_of_ble_eq_true rfl⟩ ⟨Nat.zero_le _, Nat.zero_le _⟩ dX3_clauseOf_5 (fun H locs hP hD hS => ?_)
  refine lv_if_eq (tgt := 13) hx hb dX3_clauseOf_8 (by decide) (fun c_1 => ?_) (fun c_1 => ?_)
  · rw [if_pos c_1] at hR
    refine lv_aload_n hx hb dX3_clauseOf_13 rfl (lv_at hl 0 rfl) ?_
    refine va_ldcS hx hb hown (hZ.2.1 1 (by decide)) dX3_clauseOf_14 ?_
    refine lv_iload_n hx hb dX3_clauseOf_16 rfl (lv_at hl 1 rfl) ?_
    refine lv_iload_n hx hb dX3_clauseOf_17 rfl (lv_at hl 2 rfl) ?_
    refine kcVZ E hZ hl.1 (c_X3_isWord l adK adV D tB tI tZ a_o a_o_bytes o_length o_faultPlace o_faultNumber o_at o_numberPlace o_yearClauses o_knowsClauses o_otherClauses o_bytes 1 x1 x2 (show 1 < 5 by first | assumption | omega | exact NN.none | exact NN.nat (by omega) (by omega) | exact NN.up (by assumption) (by omega)) (show x1 ≤ x2 by first | assumption | omega | exact NN.none | exact NN.nat (by omega) (by omega) | exact NN.up (by assumption) (by omega)) (show x2 ≤ o_length by first | assumption | omega | exact NN.none | exact NN.nat (by omega) (by omega) | exact NN.up (by assumption) (by omega)) (show o_length ≤ 500 by first | assumption | omega | exact NN.none | exact NN.nat (by omega) (by omega) | exact NN.up (by assumption) (by omega))) cv_X3_isWord wm_X3_85 hP hD hS hA [0, 1] rfl rfl rfl (ws2 := [(a_o, .inr (3, [.ref a_o_bytes, .int (nI o_length), .int o_faultPlace, .int o_faultNumber, .int (nI o_at), .int (nI o_numberPlace), .int o_yearClauses, .int o_knowsClauses, .int o_otherClauses])), (a_o_bytes, .inl (tB, 500, .inl o_bytes))]) rfl rfl (b := a_o) (As := [.ref (adK 1), .int (nI x1), .int (nI x2)]) (rest := []) 0 3 rfl rfl rfl rfl (Nat.le_of_ble_eq_true rfl) ⟨Nat.le_of_ble_eq_true rfl, Nat.le_of_ble_eq_true rfl⟩ ⟨Nat.zero_le _, Nat.zero_le _⟩ dX3_clauseOf_18 (fun H locs hP hD hS => ?_)
    refine lv_if_eq (tgt := 26) hx hb dX3_clauseOf_21 (by decide) (fun c_2 => ?_) (fun c_2 => ?_)
    · rw [if_pos c_2] at hR
      refine lv_aload_n hx hb dX3_clauseOf_26 rfl (lv_at hl 0 rfl) ?_
      refine va_ldcS hx hb hown (hZ.2.1 2 (by decide)) dX3_clauseOf_27 ?_
      refine lv_iload_n hx hb dX3_clauseOf_29 rfl (lv_at hl 1 rfl) ?_
      refine lv_iload_n hx hb dX3_clauseOf_30 rfl (lv_at hl 2 rfl) ?_
      refine kcVZ E hZ hl.1 (c_X3_isWord l adK adV D tB tI tZ a_o a_o_bytes o_length o_faultPlace o_faultNumber o_at o_numberPlace o_yearClauses o_knowsClauses o_otherClauses o_bytes 2 x1 x2 (show 2 < 5 by first | assumption | omega | exact NN.none | exact NN.nat (by omega) (by omega) | exact NN.up (by assumption) (by omega)) (show x1 ≤ x2 by first | assumption | omega | exact NN.none | exact NN.nat (by omega) (by omega) | exact NN.up (by assumption) (by omega)) (show x2 ≤ o_length by first | assumption | omega | exact NN.none | exact NN.nat (by omega) (by omega) | exact NN.up (by assumption) (by omega)) (show o_length ≤ 500 by first | assumption | omega | exact NN.none | exact NN.nat (by omega) (by omega) | exact NN.up (by assumption) (by omega))) cv_X3_isWord wm_X3_85 hP hD hS hA [0, 1] rfl rfl rfl (ws2 := [(a_o, .inr (3, [.ref a_o_bytes, .int (nI o_length), .int o_faultPlace, .int o_faultNumber, .int (nI o_at), .int (nI o_numberPlace), .int o_yearClauses, .int o_knowsClauses, .int o_otherClauses])), (a_o_bytes, .inl (tB, 500, .inl o_bytes))]) rfl rfl (b := a_o) (As := [.ref (adK 2), .int (nI x1), .int (nI x2)]) (rest := []) 0 3 rfl rfl rfl rfl (Nat.le_of_ble_eq_true rfl) ⟨Nat.le_of_ble_eq_true rfl, Nat.le_of_ble_eq_true rfl⟩ ⟨Nat.zero_le _, Nat.zero_le _⟩ dX3_clauseOf_31 (fun H locs hP hD hS => ?_)
      refine lv_if_eq (tgt := 39) hx hb dX3_clauseOf_34 (by decide) (fun c_3 => ?_) (fun c_3 => ?_)
      · rw [if_pos c_3] at hR
        refine lv_aload_n hx hb dX3_clauseOf_39 rfl (lv_at hl 0 rfl) ?_
        refine va_ldcS hx hb hown (hZ.2.1 3 (by decide)) dX3_clauseOf_40 ?_
        refine lv_iload_n hx hb dX3_clauseOf_42 rfl (lv_at hl 1 rfl) ?_
        refine lv_iload_n hx hb dX3_clauseOf_43 rfl (lv_at hl 2 rfl) ?_
        refine kcVZ E hZ hl.1 (c_X3_isWord l adK adV D tB tI tZ a_o a_o_bytes o_length o_faultPlace o_faultNumber o_at o_numberPlace o_yearClauses o_knowsClauses o_otherClauses o_bytes 3 x1 x2 (show 3 < 5 by first | assumption | omega | exact NN.none | exact NN.nat (by omega) (by omega) | exact NN.up (by assumption) (by omega)) (show x1 ≤ x2 by first | assumption | omega | exact NN.none | exact NN.nat (by omega) (by omega) | exact NN.up (by assumption) (by omega)) (show x2 ≤ o_length by first | assumption | omega | exact NN.none | exact NN.nat (by omega) (by omega) | exact NN.up (by assumption) (by omega)) (show o_length ≤ 500 by first | assumption | omega | exact NN.none | exact NN.nat (by omega) (by omega) | exact NN.up (by assumption) (by omega))) cv_X3_isWord wm_X3_85 hP hD hS hA [0, 1] rfl rfl rfl (ws2 := [(a_o, .inr (3, [.ref a_o_bytes, .int (nI o_length), .int o_faultPlace, .int o_faultNumber, .int (nI o_at), .int (nI o_numberPlace), .int o_yearClauses, .int o_knowsClauses, .int o_otherClauses])), (a_o_bytes, .inl (tB, 500, .inl o_bytes))]) rfl rfl (b := a_o) (As := [.ref (adK 3), .int (nI x1), .int (nI x2)]) (rest := []) 0 3 rfl rfl rfl rfl (Nat.le_of_ble_eq_true rfl) ⟨Nat.le_of_ble_eq_true rfl, Nat.le_of_ble_eq_true rfl⟩ ⟨Nat.zero_le _, Nat.zero_le _⟩ dX3_clauseOf_44 (fun H locs hP hD hS => ?_)
        refine lv_if_eq (tgt := 52) hx hb dX3_clauseOf_47 (by decide) (fun c_4 => ?_) (fun c_4 => ?_)
        · rw [if_pos c_4] at hR
          refine lv_aload_n hx hb dX3_clauseOf_52 rfl (lv_at hl 0 rfl) ?_
          refine va_ldcS hx hb hown (hZ.2.1 4 (by decide)) dX3_clauseOf_53 ?_
          refine lv_iload_n hx hb dX3_clauseOf_55 rfl (lv_at hl 1 rfl) ?_
          refine lv_iload_n hx hb dX3_clauseOf_56 rfl (lv_at hl 2 rfl) ?_
          refine kcVZ E hZ hl.1 (c_X3_isWord l adK adV D tB tI tZ a_o a_o_bytes o_length o_faultPlace o_faultNumber o_at o_numberPlace o_yearClauses o_knowsClauses o_otherClauses o_bytes 4 x1 x2 (show 4 < 5 by first | assumption | omega | exact NN.none | exact NN.nat (by omega) (by omega) | exact NN.up (by assumption) (by omega)) (show x1 ≤ x2 by first | assumption | omega | exact NN.none | exact NN.nat (by omega) (by omega) | exact NN.up (by assumption) (by omega)) (show x2 ≤ o_length by first | assumption | omega | exact NN.none | exact NN.nat (by omega) (by omega) | exact NN.up (by assumption) (by omega)) (show o_length ≤ 500 by first | assumption | omega | exact NN.none | exact NN.nat (by omega) (by omega) | exact NN.up (by assumption) (by omega))) cv_X3_isWord wm_X3_85 hP hD hS hA [0, 1] rfl rfl rfl (ws2 := [(a_o, .inr (3, [.ref a_o_bytes, .int (nI o_length), .int o_faultPlace, .int o_faultNumber, .int (nI o_at), .int (nI o_numberPlace), .int o_yearClauses, .int o_knowsClauses, .int o_otherClauses])), (a_o_bytes, .inl (tB, 500, .inl o_bytes))]) rfl rfl (b := a_o) (As := [.ref (adK 4), .int (nI x1), .int (nI x2)]) (rest := []) 0 3 rfl rfl rfl rfl (Nat.le_of_ble_eq_true rfl) ⟨Nat.le_of_ble_eq_true rfl, Nat.le_of_ble_eq_true rfl⟩ ⟨Nat.zero_le _, Nat.zero_le _⟩ dX3_clauseOf_57 (fun H locs hP hD hS => ?_)
          refine lv_if_eq (tgt := 67) hx hb dX3_clauseOf_60 (by decide) (fun c_5 => ?_) (fun c_5 => ?_)
          · rw [if_pos c_5] at hR
            refine lv_iconst (v := (0 : Int32)) hx hb dX3_clauseOf_67 (by decide) ?_
            subst hR
            exact (hF _ _ _ _ hP hS).1 _ rfl ⟨.int, rfl, rfl⟩ dX3_clauseOf_68
          · rw [if_neg c_5] at hR
            refine lv_iconst (v := (5 : Int32)) hx hb dX3_clauseOf_63 (by decide) ?_
            refine lv_goto (tgt := 68) hx hb dX3_clauseOf_64 (by decide) ?_
            subst hR
            exact (hF _ _ _ _ hP hS).1 _ rfl ⟨.int, rfl, rfl⟩ dX3_clauseOf_68
        · rw [if_neg c_4] at hR
          refine lv_iconst (v := (4 : Int32)) hx hb dX3_clauseOf_50 (by decide) ?_
          subst hR
          exact (hF _ _ _ _ hP hS).1 _ rfl ⟨.int, rfl, rfl⟩ dX3_clauseOf_51
      · rw [if_neg c_3] at hR
        refine lv_iconst (v := (3 : Int32)) hx hb dX3_clauseOf_37 (by decide) ?_
        subst hR
        exact (hF _ _ _ _ hP hS).1 _ rfl ⟨.int, rfl, rfl⟩ dX3_clauseOf_38
    · rw [if_neg c_2] at hR
      refine lv_iconst (v := (2 : Int32)) hx hb dX3_clauseOf_24 (by decide) ?_
      subst hR
      exact (hF _ _ _ _ hP hS).1 _ rfl ⟨.int, rfl, rfl⟩ dX3_clauseOf_25
  · rw [if_neg c_1] at hR
    refine lv_iconst (v := (1 : Int32)) hx hb dX3_clauseOf_11 (by decide) ?_
    subst hR
    exact (hF _ _ _ _ hP hS).1 _ rfl ⟨.int, rfl, rfl⟩ dX3_clauseOf_12
