theorem sw_out_1_5 {x : Int32} (h1 : ¬ x = (1 : Int32)) (h2 : ¬ x = (2 : Int32)) (h3 : ¬ x = (3 : Int32)) (h4 : ¬ x = (4 : Int32)) (h5 : ¬ x = (5 : Int32)) : x.toInt < 1 ∨ 5 < x.toInt := by
  have k1 : ¬ x.toInt = 1 := fun z => h1 (Int32.toInt_inj.mp (z.trans (by decide)))
  have k2 : ¬ x.toInt = 2 := fun z => h2 (Int32.toInt_inj.mp (z.trans (by decide)))
  have k3 : ¬ x.toInt = 3 := fun z => h3 (Int32.toInt_inj.mp (z.trans (by decide)))
  have k4 : ¬ x.toInt = 4 := fun z => h4 (Int32.toInt_inj.mp (z.trans (by decide)))
  have k5 : ¬ x.toInt = 5 := fun z => h5 (Int32.toInt_inj.mp (z.trans (by decide)))
  omega
def K_X3_add_5  (o_length_h5 : Nat) (o_bytes_h5 : Nat → Int32) : Nat × (Nat → Int32) × Nat := (o_length_h5, o_bytes_h5, o_length_h5)
def B_X3_add_5 (x2 : Int64) (k_5 : Nat) (o_length_h5 : Nat) (o_bytes_h5 : Nat → Int32) : (Nat × (Nat → Int32)) ⊕ (Nat × (Nat → Int32)) := (if 500 ≤ o_length_h5 then (.inr (o_length_h5, o_bytes_h5)) else (.inl ((o_length_h5 + 1), (upd o_bytes_h5 o_length_h5 (((x2 >>> ((nI (8 * k_5)).toInt64 &&& 63)).toInt32).toInt8.toInt32)))))
def S_X3_add (x1 : Nat) (x2 : Int64) (o_length : Nat) (o_bytes : Nat → Int32) : Nat × (Nat → Int32) × Nat := (outB (fun a => K_X3_add_5 a.1 a.2) (iterDE (fun k a => B_X3_add_5 x2 k a.1 a.2) x1 (o_length, o_bytes)))
set_option maxHeartbeats 4000000 in
set_option maxRecDepth 100000 in
theorem c_X3_add (l : Launch) (D : va_G) (tB tI tZ : ClassId) (a_o a_o_bytes : Nat) (o_length : Nat) (o_faultPlace : Int32) (o_faultNumber : Int32) (o_at : Nat) (o_numberPlace : Nat) (o_yearClauses : Int32) (o_knowsClauses : Int32) (o_otherClauses : Int32) (o_bytes : Nat → Int32) (x1 : Nat) (x2 : Int64) (hlen : o_length ≤ 500) (hn : x1 ≤ 8) : CT l D (tyL tB tI tZ) yX3_add (.code yX3_add cX3_add 5 (some .int)) 0 0 [.ref a_o, .int (nI x1), .long x2] [(a_o, .inr (3, [.ref a_o_bytes, .int (nI o_length), .int o_faultPlace, .int o_faultNumber, .int (nI o_at), .int (nI o_numberPlace), .int o_yearClauses, .int o_knowsClauses, .int o_otherClauses])), (a_o_bytes, .inl (tB, 500, .inl o_bytes))] (fun u : Nat × (Nat → Int32) × Nat => some (.int (nI (u.1)))) (fun u : Nat × (Nat → Int32) × Nat => [(a_o, .inr (3, [.ref a_o_bytes, .int (nI (u.2.2)), .int o_faultPlace, .int o_faultNumber, .int (nI o_at), .int (nI o_numberPlace), .int o_yearClauses, .int o_knowsClauses, .int o_otherClauses])), (a_o_bytes, .inl (tB, 500, .inl (u.2.1)))]) (S_X3_add x1 x2 o_length o_bytes) := by
  refine CT.intro (k := 0) (Nat.le_of_ble_eq_true rfl) (by decide) ?_
  intro p e s m below meth c Q A ls E hA hP hD hS hl hF
  obtain ⟨⟨hx, hb, hml, hown, hts⟩, hK⟩ := id E
  generalize hR : S_X3_add x1 x2 o_length o_bytes = RES at hF
  unfold S_X3_add at hR
  have hl : lv_has ls 5 [(0, .ref a_o), (1, .int (nI x1)), (2, .long x2)] := hl
  refine lv_iload_n hx hb dX3_add_0 rfl (lv_at hl 1 rfl) ?_
  refine lv_iconst (v := (1 : Int32)) hx hb dX3_add_1 (by decide) ?_
  refine lv_isub hx hb dX3_add_2 ?_
  refine lv_is (dv_of x1) ?_
  refine lv_istore (lv' := [(4, .int (dv x1)), (0, .ref a_o), (1, .int (nI x1)), (2, .long x2)]) hx hb dX3_add_3 hl (by decide) rfl (fun ls hl => ?_)
  have EX_5 : ∀ (o_length_h5 : Nat) (o_bytes_h5 : Nat → Int32) (hla : o_length_h5 ≤ 500) (H : Heap) (locs : List Loc) (ls : Array Slot), K_X3_add_5 o_length_h5 o_bytes_h5 = RES → va_P D vwCl [(a_o, .inr (3, [.ref a_o_bytes, .int (nI o_length_h5), .int o_faultPlace, .int o_faultNumber, .int (nI o_at), .int (nI o_numberPlace), .int o_yearClauses, .int o_knowsClauses, .int o_otherClauses])), (a_o_bytes, .inl (tB, 500, .inl o_bytes_h5))] H → va_D A [(a_o, .inr (3, [.ref a_o_bytes, .int (nI o_length_h5), .int o_faultPlace, .int o_faultNumber, .int (nI o_at), .int (nI o_numberPlace), .int o_yearClauses, .int o_knowsClauses, .int o_otherClauses])), (a_o_bytes, .inl (tB, 500, .inl o_bytes_h5))] → va_S A s.heap H locs → lv_has ls 5 [(0, .ref a_o)] → W p l e { frames := 0, cells := 0, slots := 0, locals := 0 } s m ([.ref a_o, .int (nI x1), .long x2] : List Value).toArray below meth c H locs 0 0 Q (F0 m 54 ls []) := by
    intro o_length_h5 o_bytes_h5 hla H locs ls hR hP hD hS hl
    unfold K_X3_add_5 at hR
    refine lv_aload_n hx hb dX3_add_54 rfl (lv_at hl 0 rfl) ?_
    refine fget E hP 0 rfl fd_X3_15 (v := .int (nI o_length_h5)) rfl dX3_add_55 ?_
    subst hR
    exact (hF _ _ _ _ hP hS).1 _ rfl ⟨.int, rfl, rfl⟩ dX3_add_58
  have LP_5 : ∀ (k_5 : Nat) (o_length_h5 : Nat) (o_bytes_h5 : Nat → Int32) (hla : o_length_h5 ≤ 500) (H : Heap) (locs : List Loc) (ls : Array Slot), k_5 ≤ x1 → outB (fun a => K_X3_add_5 a.1 a.2) (iterDE (fun k a => B_X3_add_5 x2 k a.1 a.2) k_5 (o_length_h5, o_bytes_h5)) = RES → va_P D vwCl [(a_o, .inr (3, [.ref a_o_bytes, .int (nI o_length_h5), .int o_faultPlace, .int o_faultNumber, .int (nI o_at), .int (nI o_numberPlace), .int o_yearClauses, .int o_knowsClauses, .int o_otherClauses])), (a_o_bytes, .inl (tB, 500, .inl o_bytes_h5))] H → va_D A [(a_o, .inr (3, [.ref a_o_bytes, .int (nI o_length_h5), .int o_faultPlace, .int o_faultNumber, .int (nI o_at), .int (nI o_numberPlace), .int o_yearClauses, .int o_knowsClauses, .int o_otherClauses])), (a_o_bytes, .inl (tB, 500, .inl o_bytes_h5))] → va_S A s.heap H locs → lv_has ls 5 [(4, .int (dv k_5)), (0, .ref a_o), (2, .long x2)] → W p l e { frames := 0, cells := 0, slots := 0, locals := 0 } s m ([.ref a_o, .int (nI x1), .long x2] : List Value).toArray below meth c H locs 0 0 Q (F0 m 5 ls []) := by
    intro k_5
    induction k_5 with
    | zero =>
      intro o_length_h5 o_bytes_h5 hla H locs ls hn_5 hR hP hD hS hl
      refine lv_iload hx hb dX3_add_5 (lv_at hl 0 rfl) ?_
      refine lv_if_lt (tgt := 54) hx hb dX3_add_7 (by decide) (fun g_5 => ?_) (fun g_5 => ?_)
      · exact EX_5 o_length_h5 o_bytes_h5 hla _ _ _ hR hP hD hS (lv_sub hl [1] rfl)
      · exact absurd dv_neg g_5
    | succ k_5 ih_5 =>
      intro o_length_h5 o_bytes_h5 hla H locs ls hn_5 hR hP hD hS hl
      have hl : lv_has ls 5 [(4, .int (nI k_5)), (0, .ref a_o), (2, .long x2)] := hl
      have hR : outB (fun a => K_X3_add_5 a.1 a.2) (stepE (iterDE (fun k a => B_X3_add_5 x2 k a.1 a.2) k_5) (B_X3_add_5 x2 k_5 o_length_h5 o_bytes_h5)) = RES := hR
      generalize hB_5 : B_X3_add_5 x2 k_5 o_length_h5 o_bytes_h5 = RB_5 at hR
      unfold B_X3_add_5 at hB_5
      refine lv_iload hx hb dX3_add_5 (lv_at hl 0 rfl) ?_
      refine nz_lt (a := k_5) (tgt := 54) (by omega) hx hb dX3_add_7 (by decide) ?_
      refine lv_aload_n hx hb dX3_add_10 rfl (lv_at hl 1 rfl) ?_
      refine fget E hP 0 rfl fd_X3_15 (v := .int (nI o_length_h5)) rfl dX3_add_11 ?_
      refine lv_sipush (v := (500 : Int32)) hx hb dX3_add_14 (by decide) ?_
      refine ni_ge (a := o_length_h5) (b := 500) (tgt := 54) (by omega) (by omega) hx hb dX3_add_17 (by decide) (fun c_1 => ?_) (fun c_1 => ?_)
      · rw [if_pos c_1] at hB_5
        subst hB_5
        exact EX_5 o_length_h5 o_bytes_h5 (show o_length_h5 ≤ 500 by omega) _ _ _ hR hP hD hS (lv_sub hl [1] rfl)
      · rw [if_neg c_1] at hB_5
        refine lv_aload_n hx hb dX3_add_20 rfl (lv_at hl 1 rfl) ?_
        refine fget E hP 0 rfl fd_X3_9 (v := .ref a_o_bytes) rfl dX3_add_21 ?_
        refine lv_aload_n hx hb dX3_add_24 rfl (lv_at hl 1 rfl) ?_
        refine fget E hP 0 rfl fd_X3_15 (v := .int (nI o_length_h5)) rfl dX3_add_25 ?_
        refine lv_lload_n hx hb dX3_add_28 rfl (lv_at hl 2 rfl) ?_
        refine lv_bipush (v := (8 : Int32)) hx hb dX3_add_29 (by decide) ?_
        refine lv_iload hx hb dX3_add_31 (lv_at hl 0 rfl) ?_
        refine lv_imul hx hb dX3_add_33 ?_
        refine lv_is (pk_mul 8 k_5) ?_
        refine lv_lshr (v := (x2 >>> ((nI (8 * k_5)).toInt64 &&& 63))) hx hb dX3_add_34 rfl ?_
        refine lv_l2i (v := ((x2 >>> ((nI (8 * k_5)).toInt64 &&& 63)).toInt32)) hx hb dX3_add_35 rfl ?_
        refine lv_i2b (v := (((x2 >>> ((nI (8 * k_5)).toInt64 &&& 63)).toInt32).toInt8.toInt32)) hx hb dX3_add_36 rfl ?_
        refine bst E hP hD hS 1 rfl (k := o_length_h5) (by omega) (by decide) ((vp_nar_byte _).symm.trans (pk_vb _)) dX3_add_37 (fun H locs hP hD hS => ?_)
        have hP : va_P D vwCl [(a_o, .inr (3, [.ref a_o_bytes, .int (nI o_length_h5), .int o_faultPlace, .int o_faultNumber, .int (nI o_at), .int (nI o_numberPlace), .int o_yearClauses, .int o_knowsClauses, .int o_otherClauses])), (a_o_bytes, .inl (tB, 500, .inl (upd o_bytes_h5 o_length_h5 (((x2 >>> ((nI (8 * k_5)).toInt64 &&& 63)).toInt32).toInt8.toInt32))))] H := hP
        have hD : va_D A [(a_o, .inr (3, [.ref a_o_bytes, .int (nI o_length_h5), .int o_faultPlace, .int o_faultNumber, .int (nI o_at), .int (nI o_numberPlace), .int o_yearClauses, .int o_knowsClauses, .int o_otherClauses])), (a_o_bytes, .inl (tB, 500, .inl (upd o_bytes_h5 o_length_h5 (((x2 >>> ((nI (8 * k_5)).toInt64 &&& 63)).toInt32).toInt8.toInt32))))] := hD
        refine lv_aload_n hx hb dX3_add_38 rfl (lv_at hl 1 rfl) ?_
        refine lv_dup hx hb dX3_add_39 rfl ?_
        refine fget E hP 0 rfl fd_X3_15 (v := .int (nI o_length_h5)) rfl dX3_add_40 ?_
        refine lv_iconst (v := (1 : Int32)) hx hb dX3_add_43 (by decide) ?_
        refine lv_iadd hx hb dX3_add_44 ?_
        refine lv_is (nI_add o_length_h5 1) ?_
        refine fput E hP hD hS 0 rfl fd_X3_15 fp_X3 (ty := .int) (v := .int (nI (o_length_h5 + 1))) rfl rfl rfl rfl (Nat.le_of_ble_eq_true rfl) dX3_add_45 (fun H locs hP hD hS => ?_)
        have hP : va_P D vwCl [(a_o, .inr (3, [.ref a_o_bytes, .int (nI (o_length_h5 + 1)), .int o_faultPlace, .int o_faultNumber, .int (nI o_at), .int (nI o_numberPlace), .int o_yearClauses, .int o_knowsClauses, .int o_otherClauses])), (a_o_bytes, .inl (tB, 500, .inl (upd o_bytes_h5 o_length_h5 (((x2 >>> ((nI (8 * k_5)).toInt64 &&& 63)).toInt32).toInt8.toInt32))))] H := hP
        have hD : va_D A [(a_o, .inr (3, [.ref a_o_bytes, .int (nI (o_length_h5 + 1)), .int o_faultPlace, .int o_faultNumber, .int (nI o_at), .int (nI o_numberPlace), .int o_yearClauses, .int o_knowsClauses, .int o_otherClauses])), (a_o_bytes, .inl (tB, 500, .inl (upd o_bytes_h5 o_length_h5 (((x2 >>> ((nI (8 * k_5)).toInt64 &&& 63)).toInt32).toInt8.toInt32))))] := hD
        refine lv_iinc (v := (dv k_5)) (lv' := [(4, .int (dv k_5)), (0, .ref a_o), (2, .long x2)]) hx hb dX3_add_48 hl (k := 0) rfl (dv_dec k_5) (by decide) rfl (fun ls hl => ?_)
        refine lv_goto (tgt := 5) hx hb dX3_add_51 (by decide) ?_
        subst hB_5
        exact ih_5 (o_length_h5 + 1) (upd o_bytes_h5 o_length_h5 (((x2 >>> ((nI (8 * k_5)).toInt64 &&& 63)).toInt32).toInt8.toInt32)) (show (o_length_h5 + 1) ≤ 500 by omega) _ _ _ (by omega) hR hP hD hS (lv_sub hl [0, 1, 2] rfl)
  exact LP_5 x1 o_length o_bytes (show o_length ≤ 500 by omega) _ _ _ (by omega) hR hP hD hS (lv_sub hl [0, 1, 3] rfl)

def S_X3_blame (x1 : Int32) (x2 : Int32) : Int32 × Int32 := (x1, x2)
set_option maxHeartbeats 4000000 in
set_option maxRecDepth 100000 in
theorem c_X3_blame (l : Launch) (D : va_G) (tB tI tZ : ClassId) (a_o a_o_bytes : Nat) (o_length : Nat) (o_faultPlace : Int32) (o_faultNumber : Int32) (o_at : Nat) (o_numberPlace : Nat) (o_yearClauses : Int32) (o_knowsClauses : Int32) (o_otherClauses : Int32) (x1 : Int32) (x2 : Int32)  : CT l D (tyL tB tI tZ) yX3_blame (.code yX3_blame cX3_blame 3 none) 0 0 [.ref a_o, .int x1, .int x2] [(a_o, .inr (3, [.ref a_o_bytes, .int (nI o_length), .int o_faultPlace, .int o_faultNumber, .int (nI o_at), .int (nI o_numberPlace), .int o_yearClauses, .int o_knowsClauses, .int o_otherClauses]))] (fun _ : Int32 × Int32 => none) (fun u : Int32 × Int32 => [(a_o, .inr (3, [.ref a_o_bytes, .int (nI o_length), .int (u.2), .int (u.1), .int (nI o_at), .int (nI o_numberPlace), .int o_yearClauses, .int o_knowsClauses, .int o_otherClauses]))]) (S_X3_blame x1 x2) := by
  refine CT.intro (k := 0) (Nat.le_of_ble_eq_true rfl) (by decide) ?_
  intro p e s m below meth c Q A ls E hA hP hD hS hl hF
  obtain ⟨⟨hx, hb, hml, hown, hts⟩, hK⟩ := id E
  generalize hR : S_X3_blame x1 x2 = RES at hF
  unfold S_X3_blame at hR
  have hl : lv_has ls 3 [(0, .ref a_o), (1, .int x1), (2, .int x2)] := hl
  refine lv_aload_n hx hb dX3_blame_0 rfl (lv_at hl 0 rfl) ?_
  refine lv_iload_n hx hb dX3_blame_1 rfl (lv_at hl 1 rfl) ?_
  refine fput E hP hD hS 0 rfl fd_X3_22 fp_X3 (ty := .int) (v := .int x1) rfl rfl rfl rfl (Nat.le_of_ble_eq_true rfl) dX3_blame_2 (fun H locs hP hD hS => ?_)
  have hP : va_P D vwCl [(a_o, .inr (3, [.ref a_o_bytes, .int (nI o_length), .int o_faultPlace, .int x1, .int (nI o_at), .int (nI o_numberPlace), .int o_yearClauses, .int o_knowsClauses, .int o_otherClauses]))] H := hP
  have hD : va_D A [(a_o, .inr (3, [.ref a_o_bytes, .int (nI o_length), .int o_faultPlace, .int x1, .int (nI o_at), .int (nI o_numberPlace), .int o_yearClauses, .int o_knowsClauses, .int o_otherClauses]))] := hD
  refine lv_aload_n hx hb dX3_blame_5 rfl (lv_at hl 0 rfl) ?_
  refine lv_iload_n hx hb dX3_blame_6 rfl (lv_at hl 2 rfl) ?_
  refine fput E hP hD hS 0 rfl fd_X3_19 fp_X3 (ty := .int) (v := .int x2) rfl rfl rfl rfl (Nat.le_of_ble_eq_true rfl) dX3_blame_7 (fun H locs hP hD hS => ?_)
  have hP : va_P D vwCl [(a_o, .inr (3, [.ref a_o_bytes, .int (nI o_length), .int x2, .int x1, .int (nI o_at), .int (nI o_numberPlace), .int o_yearClauses, .int o_knowsClauses, .int o_otherClauses]))] H := hP
  have hD : va_D A [(a_o, .inr (3, [.ref a_o_bytes, .int (nI o_length), .int x2, .int x1, .int (nI o_at), .int (nI o_numberPlace), .int o_yearClauses, .int o_knowsClauses, .int o_otherClauses]))] := hD
  subst hR
  exact (hF _ _ _ _ hP hS).2.2.2 rfl rfl dX3_blame_10

def S_X3_isFigure (x0 : Int32) : Int32 := (if x0 < (48 : Int32) then (0 : Int32) else (if (57 : Int32) < x0 then (0 : Int32) else (1 : Int32)))
theorem z_X3_isFigure (x0 : Int32)  : S_X3_isFigure x0 = 0 ∨ S_X3_isFigure x0 = 1 := by unfold S_X3_isFigure; (repeat' split) <;> first | exact Or.inl rfl | exact Or.inr rfl | assumption
set_option maxHeartbeats 4000000 in
set_option maxRecDepth 100000 in
theorem c_X3_isFigure (l : Launch) (D : va_G) (tB tI tZ : ClassId)   (x0 : Int32)  : CT l D (tyL tB tI tZ) yX3_isFigure (.code yX3_isFigure cX3_isFigure 1 (some .boolean)) 0 0 [.int x0] [] (fun u : Int32 => some (.int (u))) (fun _ : Int32 => []) (S_X3_isFigure x0) := by
  refine CT.intro (k := 0) (Nat.le_of_ble_eq_true rfl) (by decide) ?_
  intro p e s m below meth c Q A ls E hA hP hD hS hl hF
  obtain ⟨⟨hx, hb, hml, hown, hts⟩, hK⟩ := id E
  generalize hR : S_X3_isFigure x0 = RES at hF
  unfold S_X3_isFigure at hR
  have hl : lv_has ls 1 [(0, .int x0)] := hl
  refine lv_iload_n hx hb dX3_isFigure_0 rfl (lv_at hl 0 rfl) ?_
  refine lv_bipush (v := (48 : Int32)) hx hb dX3_isFigure_1 (by decide) ?_
  refine lv_icmp_lt (tgt := 16) hx hb dX3_isFigure_3 (by decide) (fun c_1 => ?_) (fun c_1 => ?_)
  · rw [if_pos c_1] at hR
    refine lv_iconst (v := (0 : Int32)) hx hb dX3_isFigure_16 (by decide) ?_
    subst hR
    exact (hF _ _ _ _ hP hS).1 _ rfl ⟨.boolean, rfl, rfl⟩ dX3_isFigure_17
  · rw [if_neg c_1] at hR
    refine lv_iload_n hx hb dX3_isFigure_6 rfl (lv_at hl 0 rfl) ?_
    refine lv_bipush (v := (57 : Int32)) hx hb dX3_isFigure_7 (by decide) ?_
    refine lv_icmp_gt (tgt := 16) hx hb dX3_isFigure_9 (by decide) (fun c_2 => ?_) (fun c_2 => ?_)
    · rw [if_pos c_2] at hR
      refine lv_iconst (v := (0 : Int32)) hx hb dX3_isFigure_16 (by decide) ?_
      subst hR
      exact (hF _ _ _ _ hP hS).1 _ rfl ⟨.boolean, rfl, rfl⟩ dX3_isFigure_17
    · rw [if_neg c_2] at hR
      refine lv_iconst (v := (1 : Int32)) hx hb dX3_isFigure_12 (by decide) ?_
      refine lv_goto (tgt := 17) hx hb dX3_isFigure_13 (by decide) ?_
      subst hR
      exact (hF _ _ _ _ hP hS).1 _ rfl ⟨.boolean, rfl, rfl⟩ dX3_isFigure_17

def S_X3_overMost (x0 : Int32) (x1 : Int32) : Int32 := (if x1 ≤ x0 then (3 : Int32) else (0 : Int32))
set_option maxHeartbeats 4000000 in
set_option maxRecDepth 100000 in
theorem c_X3_overMost (l : Launch) (D : va_G) (tB tI tZ : ClassId)   (x0 : Int32) (x1 : Int32)  : CT l D (tyL tB tI tZ) yX3_overMost (.code yX3_overMost cX3_overMost 2 (some .int)) 0 0 [.int x0, .int x1] [] (fun u : Int32 => some (.int (u))) (fun _ : Int32 => []) (S_X3_overMost x0 x1) := by
  refine CT.intro (k := 0) (Nat.le_of_ble_eq_true rfl) (by decide) ?_
  intro p e s m below meth c Q A ls E hA hP hD hS hl hF
  obtain ⟨⟨hx, hb, hml, hown, hts⟩, hK⟩ := id E
  generalize hR : S_X3_overMost x0 x1 = RES at hF
  unfold S_X3_overMost at hR
  have hl : lv_has ls 2 [(0, .int x0), (1, .int x1)] := hl
  refine lv_iload_n hx hb dX3_overMost_0 rfl (lv_at hl 0 rfl) ?_
  refine lv_iload_n hx hb dX3_overMost_1 rfl (lv_at hl 1 rfl) ?_
  refine lv_icmp_ge (tgt := 9) hx hb dX3_overMost_2 (by decide) (fun c_1 => ?_) (fun c_1 => ?_)
  · rw [if_pos c_1] at hR
    refine lv_iconst (v := (3 : Int32)) hx hb dX3_overMost_9 (by decide) ?_
    subst hR
    exact (hF _ _ _ _ hP hS).1 _ rfl ⟨.int, rfl, rfl⟩ dX3_overMost_10
  · rw [if_neg c_1] at hR
    refine lv_iconst (v := (0 : Int32)) hx hb dX3_overMost_5 (by decide) ?_
    refine lv_goto (tgt := 10) hx hb dX3_overMost_6 (by decide) ?_
    subst hR
    exact (hF _ _ _ _ hP hS).1 _ rfl ⟨.int, rfl, rfl⟩ dX3_overMost_10

def K_X3_skipBlanks_0  (k_0 : Nat) : Nat := k_0
def B_X3_skipBlanks_0 (o_bytes : Nat → Int32) (k_0 : Nat)  : Nat ⊕ Nat := (if (o_bytes k_0) = (32 : Int32) then (.inl (k_0 + 1)) else (.inr k_0))
def S_X3_skipBlanks (o_length : Nat) (o_bytes : Nat → Int32) (o_at : Nat) : Nat := (outB (fun a => K_X3_skipBlanks_0 a) (iterE (fun k a => B_X3_skipBlanks_0 o_bytes k) (o_length - o_at) o_at o_at))
set_option maxHeartbeats 4000000 in
set_option maxRecDepth 100000 in
theorem c_X3_skipBlanks (l : Launch) (D : va_G) (tB tI tZ : ClassId) (a_o a_o_bytes : Nat) (o_length : Nat) (o_faultPlace : Int32) (o_faultNumber : Int32) (o_at : Nat) (o_numberPlace : Nat) (o_yearClauses : Int32) (o_knowsClauses : Int32) (o_otherClauses : Int32) (o_bytes : Nat → Int32)  (hlen : o_length ≤ 500) (hat : o_at ≤ o_length) : CT l D (tyL tB tI tZ) yX3_skipBlanks (.code yX3_skipBlanks cX3_skipBlanks 1 none) 0 0 [.ref a_o] [(a_o, .inr (3, [.ref a_o_bytes, .int (nI o_length), .int o_faultPlace, .int o_faultNumber, .int (nI o_at), .int (nI o_numberPlace), .int o_yearClauses, .int o_knowsClauses, .int o_otherClauses])), (a_o_bytes, .inl (tB, 500, .inl o_bytes))] (fun _ : Nat => none) (fun u : Nat => [(a_o, .inr (3, [.ref a_o_bytes, .int (nI o_length), .int o_faultPlace, .int o_faultNumber, .int (nI u), .int (nI o_numberPlace), .int o_yearClauses, .int o_knowsClauses, .int o_otherClauses])), (a_o_bytes, .inl (tB, 500, .inl o_bytes))]) (S_X3_skipBlanks o_length o_bytes o_at) := by
  refine CT.intro (k := 0) (Nat.le_of_ble_eq_true rfl) (by decide) ?_
  intro p e s m below meth c Q A ls E hA hP hD hS hl hF
  obtain ⟨⟨hx, hb, hml, hown, hts⟩, hK⟩ := id E
  generalize hR : S_X3_skipBlanks o_length o_bytes o_at = RES at hF
  unfold S_X3_skipBlanks at hR
  have hl : lv_has ls 1 [(0, .ref a_o)] := hl
  have EX_0 : ∀ (k_0 : Nat)  (H : Heap) (locs : List Loc) (ls : Array Slot), K_X3_skipBlanks_0 k_0 = RES → va_P D vwCl [(a_o, .inr (3, [.ref a_o_bytes, .int (nI o_length), .int o_faultPlace, .int o_faultNumber, .int (nI k_0), .int (nI o_numberPlace), .int o_yearClauses, .int o_knowsClauses, .int o_otherClauses])), (a_o_bytes, .inl (tB, 500, .inl o_bytes))] H → va_D A [(a_o, .inr (3, [.ref a_o_bytes, .int (nI o_length), .int o_faultPlace, .int o_faultNumber, .int (nI k_0), .int (nI o_numberPlace), .int o_yearClauses, .int o_knowsClauses, .int o_otherClauses])), (a_o_bytes, .inl (tB, 500, .inl o_bytes))] → va_S A s.heap H locs → lv_has ls 1 [] → W p l e { frames := 0, cells := 0, slots := 0, locals := 0 } s m ([.ref a_o] : List Value).toArray below meth c H locs 0 0 Q (F0 m 38 ls []) := by
    intro k_0 H locs ls hR hP hD hS hl
    unfold K_X3_skipBlanks_0 at hR
    subst hR
    exact (hF _ _ _ _ hP hS).2.2.2 rfl rfl dX3_skipBlanks_38
  have LP_0 : ∀ (n_0 k_0 : Nat)   (H : Heap) (locs : List Loc) (ls : Array Slot), k_0 + n_0 = o_length → outB (fun a => K_X3_skipBlanks_0 a) (iterE (fun k a => B_X3_skipBlanks_0 o_bytes k) n_0 k_0 k_0) = RES → va_P D vwCl [(a_o, .inr (3, [.ref a_o_bytes, .int (nI o_length), .int o_faultPlace, .int o_faultNumber, .int (nI k_0), .int (nI o_numberPlace), .int o_yearClauses, .int o_knowsClauses, .int o_otherClauses])), (a_o_bytes, .inl (tB, 500, .inl o_bytes))] H → va_D A [(a_o, .inr (3, [.ref a_o_bytes, .int (nI o_length), .int o_faultPlace, .int o_faultNumber, .int (nI k_0), .int (nI o_numberPlace), .int o_yearClauses, .int o_knowsClauses, .int o_otherClauses])), (a_o_bytes, .inl (tB, 500, .inl o_bytes))] → va_S A s.heap H locs → lv_has ls 1 [(0, .ref a_o)] → W p l e { frames := 0, cells := 0, slots := 0, locals := 0 } s m ([.ref a_o] : List Value).toArray below meth c H locs 0 0 Q (F0 m 0 ls []) := by
    intro n_0
    induction n_0 with
    | zero =>
      intro k_0 H locs ls hn_0 hR hP hD hS hl
      refine lv_aload_n hx hb dX3_skipBlanks_0 rfl (lv_at hl 0 rfl) ?_
      refine fget E hP 0 rfl fd_X3_25 (v := .int (nI k_0)) rfl dX3_skipBlanks_1 ?_
      refine lv_aload_n hx hb dX3_skipBlanks_4 rfl (lv_at hl 0 rfl) ?_
      refine fget E hP 0 rfl fd_X3_15 (v := .int (nI o_length)) rfl dX3_skipBlanks_5 ?_
      refine ni_ge (a := k_0) (b := o_length) (tgt := 38) (by omega) (by omega) hx hb dX3_skipBlanks_8 (by decide) (fun g_0 => ?_) (fun g_0 => ?_)
      · exact EX_0 k_0  _ _ _ hR hP hD hS (lv_sub hl [] rfl)
      · exfalso; omega
    | succ n_0 ih_0 =>
      intro k_0 H locs ls hn_0 hR hP hD hS hl
      have hR : outB (fun a => K_X3_skipBlanks_0 a) (stepE (iterE (fun k a => B_X3_skipBlanks_0 o_bytes k) n_0 (k_0 + 1)) (B_X3_skipBlanks_0 o_bytes k_0)) = RES := hR
      generalize hB_0 : B_X3_skipBlanks_0 o_bytes k_0 = RB_0 at hR
      unfold B_X3_skipBlanks_0 at hB_0
      refine lv_aload_n hx hb dX3_skipBlanks_0 rfl (lv_at hl 0 rfl) ?_
      refine fget E hP 0 rfl fd_X3_25 (v := .int (nI k_0)) rfl dX3_skipBlanks_1 ?_
      refine lv_aload_n hx hb dX3_skipBlanks_4 rfl (lv_at hl 0 rfl) ?_
      refine fget E hP 0 rfl fd_X3_15 (v := .int (nI o_length)) rfl dX3_skipBlanks_5 ?_
      refine ni_ge (a := k_0) (b := o_length) (tgt := 38) (by omega) (by omega) hx hb dX3_skipBlanks_8 (by decide) (fun g_0 => ?_) (fun g_0 => ?_)
      · exfalso; omega
      · refine lv_aload_n hx hb dX3_skipBlanks_11 rfl (lv_at hl 0 rfl) ?_
        refine fget E hP 0 rfl fd_X3_9 (v := .ref a_o_bytes) rfl dX3_skipBlanks_12 ?_
        refine lv_aload_n hx hb dX3_skipBlanks_15 rfl (lv_at hl 0 rfl) ?_
        refine fget E hP 0 rfl fd_X3_25 (v := .int (nI k_0)) rfl dX3_skipBlanks_16 ?_
        refine bld E hP 1 rfl (k := k_0) (by omega) (by decide) dX3_skipBlanks_19 ?_
        refine lv_bipush (v := (32 : Int32)) hx hb dX3_skipBlanks_20 (by decide) ?_
        refine lv_icmp_ne (tgt := 38) hx hb dX3_skipBlanks_22 (by decide) (fun c_2 => ?_) (fun c_2 => ?_)
        · rw [if_neg c_2] at hB_0
          subst hB_0
          exact EX_0 k_0  _ _ _ hR hP hD hS (lv_sub hl [] rfl)
        · rw [if_pos c_2] at hB_0
          refine lv_aload_n hx hb dX3_skipBlanks_25 rfl (lv_at hl 0 rfl) ?_
          refine lv_dup hx hb dX3_skipBlanks_26 rfl ?_
          refine fget E hP 0 rfl fd_X3_25 (v := .int (nI k_0)) rfl dX3_skipBlanks_27 ?_
          refine lv_iconst (v := (1 : Int32)) hx hb dX3_skipBlanks_30 (by decide) ?_
          refine lv_iadd hx hb dX3_skipBlanks_31 ?_
          refine lv_is (nI_add k_0 1) ?_
          refine fput E hP hD hS 0 rfl fd_X3_25 fp_X3 (ty := .int) (v := .int (nI (k_0 + 1))) rfl rfl rfl rfl (Nat.le_of_ble_eq_true rfl) dX3_skipBlanks_32 (fun H locs hP hD hS => ?_)
          have hP : va_P D vwCl [(a_o, .inr (3, [.ref a_o_bytes, .int (nI o_length), .int o_faultPlace, .int o_faultNumber, .int (nI (k_0 + 1)), .int (nI o_numberPlace), .int o_yearClauses, .int o_knowsClauses, .int o_otherClauses])), (a_o_bytes, .inl (tB, 500, .inl o_bytes))] H := hP
          have hD : va_D A [(a_o, .inr (3, [.ref a_o_bytes, .int (nI o_length), .int o_faultPlace, .int o_faultNumber, .int (nI (k_0 + 1)), .int (nI o_numberPlace), .int o_yearClauses, .int o_knowsClauses, .int o_otherClauses])), (a_o_bytes, .inl (tB, 500, .inl o_bytes))] := hD
          refine lv_goto (tgt := 0) hx hb dX3_skipBlanks_35 (by decide) ?_
          subst hB_0
          exact ih_0 (k_0 + 1)   _ _ _ (by omega) hR hP hD hS (lv_sub hl [0] rfl)
  exact LP_0 (o_length - o_at) o_at   _ _ _ (by omega) hR hP hD hS (lv_sub hl [0] rfl)

def K_X3_endOfWord_5  (k_5 : Nat) : Nat := k_5
def B_X3_endOfWord_5 (o_bytes : Nat → Int32) (k_5 : Nat)  : Nat ⊕ Nat := (if (o_bytes k_5) < (97 : Int32) then (.inr k_5) else (if (122 : Int32) < (o_bytes k_5) then (.inr k_5) else (.inl (k_5 + 1))))
def S_X3_endOfWord (o_at : Nat) (o_length : Nat) (o_bytes : Nat → Int32) : Nat := (outB (fun a => K_X3_endOfWord_5 a) (iterE (fun k a => B_X3_endOfWord_5 o_bytes k) (o_length - o_at) o_at o_at))
set_option maxHeartbeats 4000000 in
set_option maxRecDepth 100000 in
theorem c_X3_endOfWord (l : Launch) (D : va_G) (tB tI tZ : ClassId) (a_o a_o_bytes : Nat) (o_length : Nat) (o_faultPlace : Int32) (o_faultNumber : Int32) (o_at : Nat) (o_numberPlace : Nat) (o_yearClauses : Int32) (o_knowsClauses : Int32) (o_otherClauses : Int32) (o_bytes : Nat → Int32)  (hlen : o_length ≤ 500) (hat : o_at ≤ o_length) : CT l D (tyL tB tI tZ) yX3_endOfWord (.code yX3_endOfWord cX3_endOfWord 2 (some .int)) 0 0 [.ref a_o] [(a_o, .inr (3, [.ref a_o_bytes, .int (nI o_length), .int o_faultPlace, .int o_faultNumber, .int (nI o_at), .int (nI o_numberPlace), .int o_yearClauses, .int o_knowsClauses, .int o_otherClauses])), (a_o_bytes, .inl (tB, 500, .inl o_bytes))] (fun u : Nat => some (.int (nI (u)))) (fun _ : Nat => [(a_o, .inr (3, [.ref a_o_bytes, .int (nI o_length), .int o_faultPlace, .int o_faultNumber, .int (nI o_at), .int (nI o_numberPlace), .int o_yearClauses, .int o_knowsClauses, .int o_otherClauses])), (a_o_bytes, .inl (tB, 500, .inl o_bytes))]) (S_X3_endOfWord o_at o_length o_bytes) := by
  refine CT.intro (k := 0) (Nat.le_of_ble_eq_true rfl) (by decide) ?_
  intro p e s m below meth c Q A ls E hA hP hD hS hl hF
  obtain ⟨⟨hx, hb, hml, hown, hts⟩, hK⟩ := id E
  generalize hR : S_X3_endOfWord o_at o_length o_bytes = RES at hF
  unfold S_X3_endOfWord at hR
  have hl : lv_has ls 2 [(0, .ref a_o)] := hl
  refine lv_aload_n hx hb dX3_endOfWord_0 rfl (lv_at hl 0 rfl) ?_
  refine fget E hP 0 rfl fd_X3_25 (v := .int (nI o_at)) rfl dX3_endOfWord_1 ?_
  refine lv_istore_n (lv' := [(1, .int (nI o_at)), (0, .ref a_o)]) hx hb dX3_endOfWord_4 rfl hl (by decide) rfl (fun ls hl => ?_)
  have EX_5 : ∀ (k_5 : Nat)  (H : Heap) (locs : List Loc) (ls : Array Slot), K_X3_endOfWord_5 k_5 = RES → va_P D vwCl [(a_o, .inr (3, [.ref a_o_bytes, .int (nI o_length), .int o_faultPlace, .int o_faultNumber, .int (nI o_at), .int (nI o_numberPlace), .int o_yearClauses, .int o_knowsClauses, .int o_otherClauses])), (a_o_bytes, .inl (tB, 500, .inl o_bytes))] H → va_D A [(a_o, .inr (3, [.ref a_o_bytes, .int (nI o_length), .int o_faultPlace, .int o_faultNumber, .int (nI o_at), .int (nI o_numberPlace), .int o_yearClauses, .int o_knowsClauses, .int o_otherClauses])), (a_o_bytes, .inl (tB, 500, .inl o_bytes))] → va_S A s.heap H locs → lv_has ls 2 [(1, .int (nI k_5))] → W p l e { frames := 0, cells := 0, slots := 0, locals := 0 } s m ([.ref a_o] : List Value).toArray below meth c H locs 0 0 Q (F0 m 41 ls []) := by
    intro k_5 H locs ls hR hP hD hS hl
    unfold K_X3_endOfWord_5 at hR
    refine lv_iload_n hx hb dX3_endOfWord_41 rfl (lv_at hl 0 rfl) ?_
    subst hR
    exact (hF _ _ _ _ hP hS).1 _ rfl ⟨.int, rfl, rfl⟩ dX3_endOfWord_42
  have LP_5 : ∀ (n_5 k_5 : Nat)   (H : Heap) (locs : List Loc) (ls : Array Slot), k_5 + n_5 = o_length → outB (fun a => K_X3_endOfWord_5 a) (iterE (fun k a => B_X3_endOfWord_5 o_bytes k) n_5 k_5 k_5) = RES → va_P D vwCl [(a_o, .inr (3, [.ref a_o_bytes, .int (nI o_length), .int o_faultPlace, .int o_faultNumber, .int (nI o_at), .int (nI o_numberPlace), .int o_yearClauses, .int o_knowsClauses, .int o_otherClauses])), (a_o_bytes, .inl (tB, 500, .inl o_bytes))] H → va_D A [(a_o, .inr (3, [.ref a_o_bytes, .int (nI o_length), .int o_faultPlace, .int o_faultNumber, .int (nI o_at), .int (nI o_numberPlace), .int o_yearClauses, .int o_knowsClauses, .int o_otherClauses])), (a_o_bytes, .inl (tB, 500, .inl o_bytes))] → va_S A s.heap H locs → lv_has ls 2 [(1, .int (nI k_5)), (0, .ref a_o)] → W p l e { frames := 0, cells := 0, slots := 0, locals := 0 } s m ([.ref a_o] : List Value).toArray below meth c H locs 0 0 Q (F0 m 5 ls []) := by
    intro n_5
    induction n_5 with
    | zero =>
      intro k_5 H locs ls hn_5 hR hP hD hS hl
      refine lv_iload_n hx hb dX3_endOfWord_5 rfl (lv_at hl 0 rfl) ?_
      refine lv_aload_n hx hb dX3_endOfWord_6 rfl (lv_at hl 1 rfl) ?_
      refine fget E hP 0 rfl fd_X3_15 (v := .int (nI o_length)) rfl dX3_endOfWord_7 ?_
      refine ni_ge (a := k_5) (b := o_length) (tgt := 41) (by omega) (by omega) hx hb dX3_endOfWord_10 (by decide) (fun g_5 => ?_) (fun g_5 => ?_)
      · exact EX_5 k_5  _ _ _ hR hP hD hS (lv_sub hl [0] rfl)
      · exfalso; omega
    | succ n_5 ih_5 =>
      intro k_5 H locs ls hn_5 hR hP hD hS hl
      have hR : outB (fun a => K_X3_endOfWord_5 a) (stepE (iterE (fun k a => B_X3_endOfWord_5 o_bytes k) n_5 (k_5 + 1)) (B_X3_endOfWord_5 o_bytes k_5)) = RES := hR
      generalize hB_5 : B_X3_endOfWord_5 o_bytes k_5 = RB_5 at hR
      unfold B_X3_endOfWord_5 at hB_5
      refine lv_iload_n hx hb dX3_endOfWord_5 rfl (lv_at hl 0 rfl) ?_
      refine lv_aload_n hx hb dX3_endOfWord_6 rfl (lv_at hl 1 rfl) ?_
      refine fget E hP 0 rfl fd_X3_15 (v := .int (nI o_length)) rfl dX3_endOfWord_7 ?_
      refine ni_ge (a := k_5) (b := o_length) (tgt := 41) (by omega) (by omega) hx hb dX3_endOfWord_10 (by decide) (fun g_5 => ?_) (fun g_5 => ?_)
      · exfalso; omega
      · refine lv_aload_n hx hb dX3_endOfWord_13 rfl (lv_at hl 1 rfl) ?_
        refine fget E hP 0 rfl fd_X3_9 (v := .ref a_o_bytes) rfl dX3_endOfWord_14 ?_
        refine lv_iload_n hx hb dX3_endOfWord_17 rfl (lv_at hl 0 rfl) ?_
        refine bld E hP 1 rfl (k := k_5) (by omega) (by decide) dX3_endOfWord_18 ?_
        refine lv_bipush (v := (97 : Int32)) hx hb dX3_endOfWord_19 (by decide) ?_
        refine lv_icmp_lt (tgt := 41) hx hb dX3_endOfWord_21 (by decide) (fun c_2 => ?_) (fun c_2 => ?_)
        · rw [if_pos c_2] at hB_5
          subst hB_5
          exact EX_5 k_5  _ _ _ hR hP hD hS (lv_sub hl [0] rfl)
        · rw [if_neg c_2] at hB_5
          refine lv_aload_n hx hb dX3_endOfWord_24 rfl (lv_at hl 1 rfl) ?_
          refine fget E hP 0 rfl fd_X3_9 (v := .ref a_o_bytes) rfl dX3_endOfWord_25 ?_
          refine lv_iload_n hx hb dX3_endOfWord_28 rfl (lv_at hl 0 rfl) ?_
          refine bld E hP 1 rfl (k := k_5) (by omega) (by decide) dX3_endOfWord_29 ?_
          refine lv_bipush (v := (122 : Int32)) hx hb dX3_endOfWord_30 (by decide) ?_
          refine lv_icmp_gt (tgt := 41) hx hb dX3_endOfWord_32 (by decide) (fun c_3 => ?_) (fun c_3 => ?_)
          · rw [if_pos c_3] at hB_5
            subst hB_5
            exact EX_5 k_5  _ _ _ hR hP hD hS (lv_sub hl [0] rfl)
          · rw [if_neg c_3] at hB_5
            refine lv_iinc (v := (nI (k_5 + 1))) (lv' := [(1, .int (nI (k_5 + 1))), (0, .ref a_o)]) hx hb dX3_endOfWord_35 hl (k := 0) rfl (nI_i1 k_5) (by decide) rfl (fun ls hl => ?_)
            refine lv_goto (tgt := 5) hx hb dX3_endOfWord_38 (by decide) ?_
            subst hB_5
            exact ih_5 (k_5 + 1)   _ _ _ (by omega) hR hP hD hS (lv_sub hl [0, 1] rfl)
  exact LP_5 (o_length - o_at) o_at   _ _ _ (by omega) hR hP hD hS (lv_sub hl [0, 1] rfl)

theorem outB_le {b : Nat → Nat → Nat ⊕ Nat} {N a0 : Nat} (h : a0 ≤ N) (h1 : ∀ k a a', b k a = .inl a' → a' = k + 1) (h2 : ∀ k a r, b k a = .inr r → r = k) : a0 ≤ outB (fun a => a) (iterE b (N - a0) a0 a0) ∧ outB (fun a => a) (iterE b (N - a0) a0 a0) ≤ N := by
  rcases iterE_ind (b := b) (N := N) (fun k a => a = k ∧ a0 ≤ k) (fun r => a0 ≤ r ∧ r ≤ N) (fun k a a' hk hp e => ⟨h1 k a a' e, by omega⟩) (fun k a r hk hp e => by have := h2 k a r e; omega) (N - a0) a0 a0 (by omega) ⟨rfl, Nat.le_refl _⟩ with ⟨a, e, hp⟩ | ⟨a, e, hp⟩
  · rw [e]; show a0 ≤ a ∧ a ≤ N; omega
  · rw [e]; exact hp
theorem skip_p {o_length o_at : Nat} {o_bytes : Nat → Int32} (h : o_at ≤ o_length) : o_at ≤ S_X3_skipBlanks o_length o_bytes o_at ∧ S_X3_skipBlanks o_length o_bytes o_at ≤ o_length := by
  refine outB_le (b := fun k (_ : Nat) => B_X3_skipBlanks_0 o_bytes k) h (fun k a a' e => ?_) (fun k a r e => ?_)
  · unfold B_X3_skipBlanks_0 at e; split at e <;> cases e; rfl
  · unfold B_X3_skipBlanks_0 at e; split at e <;> cases e; rfl
theorem skip_ok {o_length o_at r : Nat} {o_bytes : Nat → Int32} (hu : S_X3_skipBlanks o_length o_bytes o_at = r) (h : o_at ≤ o_length) : o_at ≤ r ∧ r ≤ o_length := hu ▸ skip_p h
theorem endOfWord_ok {o_length o_at : Nat} {o_bytes : Nat → Int32} (h : o_at ≤ o_length) : o_at ≤ S_X3_endOfWord o_at o_length o_bytes ∧ S_X3_endOfWord o_at o_length o_bytes ≤ o_length := by
  refine outB_le (b := fun k (_ : Nat) => B_X3_endOfWord_5 o_bytes k) h (fun k a a' e => ?_) (fun k a r e => ?_)
  · unfold B_X3_endOfWord_5 at e; (repeat' split at e) <;> cases e; rfl
  · unfold B_X3_endOfWord_5 at e; (repeat' split at e) <;> cases e <;> rfl

def K_X3_takes_10 (x1 : Int32) (o_length : Nat) (o_bytes : Nat → Int32) (r10_o_at : Nat) : Int32 × Nat := (if o_length ≤ r10_o_at then ((0 : Int32), r10_o_at) else (if (o_bytes r10_o_at) = x1 then ((1 : Int32), (r10_o_at + 1)) else ((0 : Int32), r10_o_at)))
def S_X3_takes (x1 : Int32) (o_faultNumber : Int32) (o_length : Nat) (o_at : Nat) (o_bytes : Nat → Int32) : Int32 × Nat := (if o_faultNumber = 0 then ((fun u => K_X3_takes_10 x1 o_length o_bytes u) (S_X3_skipBlanks o_length o_bytes o_at)) else ((0 : Int32), o_at))
set_option maxHeartbeats 4000000 in
set_option maxRecDepth 100000 in
theorem c_X3_takes (l : Launch) (D : va_G) (tB tI tZ : ClassId) (a_o a_o_bytes : Nat) (o_length : Nat) (o_faultPlace : Int32) (o_faultNumber : Int32) (o_at : Nat) (o_numberPlace : Nat) (o_yearClauses : Int32) (o_knowsClauses : Int32) (o_otherClauses : Int32) (o_bytes : Nat → Int32) (x1 : Int32) (hlen : o_length ≤ 500) (hat : o_at ≤ o_length) : CT l D (tyL tB tI tZ) yX3_takes (.code yX3_takes cX3_takes 2 (some .boolean)) 1 20 [.ref a_o, .int x1] [(a_o, .inr (3, [.ref a_o_bytes, .int (nI o_length), .int o_faultPlace, .int o_faultNumber, .int (nI o_at), .int (nI o_numberPlace), .int o_yearClauses, .int o_knowsClauses, .int o_otherClauses])), (a_o_bytes, .inl (tB, 500, .inl o_bytes))] (fun u : Int32 × Nat => some (.int (u.1))) (fun u : Int32 × Nat => [(a_o, .inr (3, [.ref a_o_bytes, .int (nI o_length), .int o_faultPlace, .int o_faultNumber, .int (nI (u.2)), .int (nI o_numberPlace), .int o_yearClauses, .int o_knowsClauses, .int o_otherClauses])), (a_o_bytes, .inl (tB, 500, .inl o_bytes))]) (S_X3_takes x1 o_faultNumber o_length o_at o_bytes) := by
  refine CT.intro (k := 0) (Nat.le_of_ble_eq_true rfl) (by decide) ?_
  intro p e s m below meth c Q A ls E hA hP hD hS hl hF
  obtain ⟨⟨hx, hb, hml, hown, hts⟩, hK⟩ := id E
  generalize hR : S_X3_takes x1 o_faultNumber o_length o_at o_bytes = RES at hF
  unfold S_X3_takes at hR
  have hl : lv_has ls 2 [(0, .ref a_o), (1, .int x1)] := hl
  refine lv_aload_n hx hb dX3_takes_0 rfl (lv_at hl 0 rfl) ?_
  refine fget E hP 0 rfl fd_X3_22 (v := .int o_faultNumber) rfl dX3_takes_1 ?_
  refine lv_if_eq (tgt := 9) hx hb dX3_takes_4 (by decide) (fun c_1 => ?_) (fun c_1 => ?_)
  · rw [if_pos c_1] at hR
    refine lv_aload_n hx hb dX3_takes_9 rfl (lv_at hl 0 rfl) ?_
    have hC_10 := (c_X3_skipBlanks l D tB tI tZ a_o a_o_bytes o_length o_faultPlace o_faultNumber o_at o_numberPlace o_yearClauses o_knowsClauses o_otherClauses o_bytes (show o_length ≤ 500 by first | assumption | omega | exact NN.none | exact NN.nat (by omega) (by omega) | exact NN.up (by assumption) (by omega)) (show o_at ≤ o_length by first | assumption | omega | exact NN.none | exact NN.nat (by omega) (by omega) | exact NN.up (by assumption) (by omega)))
    generalize hu_10 : (S_X3_skipBlanks o_length o_bytes o_at) = r10_o_at at hC_10 hR
    obtain ⟨hpa_10, hpb_10⟩ := skip_ok hu_10 (by omega)
    refine kcV E hl.1 hC_10 cv_X3_skipBlanks wm_X3_45 hP hD hS hA [0, 1] rfl rfl rfl (ws2 := [(a_o, .inr (3, [.ref a_o_bytes, .int (nI o_length), .int o_faultPlace, .int o_faultNumber, .int (nI r10_o_at), .int (nI o_numberPlace), .int o_yearClauses, .int o_knowsClauses, .int o_otherClauses])), (a_o_bytes, .inl (tB, 500, .inl o_bytes))]) rfl rfl (b := a_o) (As := []) (rest := []) 0 3 rfl rfl rfl rfl (Nat.le_of_ble_eq_true rfl) ⟨Nat.le_of_ble_eq_true rfl, Nat.le_of_ble_eq_true rfl⟩ ⟨Nat.zero_le _, Nat.zero_le _⟩ dX3_takes_10 (fun H locs hP hD hS => ?_)
    have hP : va_P D vwCl [(a_o, .inr (3, [.ref a_o_bytes, .int (nI o_length), .int o_faultPlace, .int o_faultNumber, .int (nI r10_o_at), .int (nI o_numberPlace), .int o_yearClauses, .int o_knowsClauses, .int o_otherClauses])), (a_o_bytes, .inl (tB, 500, .inl o_bytes))] H := hP
    have hD : va_D A [(a_o, .inr (3, [.ref a_o_bytes, .int (nI o_length), .int o_faultPlace, .int o_faultNumber, .int (nI r10_o_at), .int (nI o_numberPlace), .int o_yearClauses, .int o_knowsClauses, .int o_otherClauses])), (a_o_bytes, .inl (tB, 500, .inl o_bytes))] := hD
    have hR : K_X3_takes_10 x1 o_length o_bytes r10_o_at = RES := hR
    unfold K_X3_takes_10 at hR
    refine lv_aload_n hx hb dX3_takes_13 rfl (lv_at hl 0 rfl) ?_
    refine fget E hP 0 rfl fd_X3_25 (v := .int (nI r10_o_at)) rfl dX3_takes_14 ?_
    refine lv_aload_n hx hb dX3_takes_17 rfl (lv_at hl 0 rfl) ?_
    refine fget E hP 0 rfl fd_X3_15 (v := .int (nI o_length)) rfl dX3_takes_18 ?_
    refine ni_ge (a := r10_o_at) (b := o_length) (tgt := 49) (by omega) (by omega) hx hb dX3_takes_21 (by decide) (fun c_2 => ?_) (fun c_2 => ?_)
    · rw [if_pos c_2] at hR
      refine lv_iconst (v := (0 : Int32)) hx hb dX3_takes_49 (by decide) ?_
      subst hR
      exact (hF _ _ _ _ hP hS).1 _ rfl ⟨.boolean, rfl, rfl⟩ dX3_takes_50
    · rw [if_neg c_2] at hR
      refine lv_aload_n hx hb dX3_takes_24 rfl (lv_at hl 0 rfl) ?_
      refine fget E hP 0 rfl fd_X3_9 (v := .ref a_o_bytes) rfl dX3_takes_25 ?_
      refine lv_aload_n hx hb dX3_takes_28 rfl (lv_at hl 0 rfl) ?_
      refine fget E hP 0 rfl fd_X3_25 (v := .int (nI r10_o_at)) rfl dX3_takes_29 ?_
      refine bld E hP 1 rfl (k := r10_o_at) (by omega) (by decide) dX3_takes_32 ?_
      refine lv_iload_n hx hb dX3_takes_33 rfl (lv_at hl 1 rfl) ?_
      refine lv_icmp_ne (tgt := 49) hx hb dX3_takes_34 (by decide) (fun c_3 => ?_) (fun c_3 => ?_)
      · rw [if_neg c_3] at hR
        refine lv_iconst (v := (0 : Int32)) hx hb dX3_takes_49 (by decide) ?_
        subst hR
        exact (hF _ _ _ _ hP hS).1 _ rfl ⟨.boolean, rfl, rfl⟩ dX3_takes_50
      · rw [if_pos c_3] at hR
        refine lv_aload_n hx hb dX3_takes_37 rfl (lv_at hl 0 rfl) ?_
        refine lv_dup hx hb dX3_takes_38 rfl ?_
        refine fget E hP 0 rfl fd_X3_25 (v := .int (nI r10_o_at)) rfl dX3_takes_39 ?_
        refine lv_iconst (v := (1 : Int32)) hx hb dX3_takes_42 (by decide) ?_
        refine lv_iadd hx hb dX3_takes_43 ?_
        refine lv_is (nI_add r10_o_at 1) ?_
        refine fput E hP hD hS 0 rfl fd_X3_25 fp_X3 (ty := .int) (v := .int (nI (r10_o_at + 1))) rfl rfl rfl rfl (Nat.le_of_ble_eq_true rfl) dX3_takes_44 (fun H locs hP hD hS => ?_)
        have hP : va_P D vwCl [(a_o, .inr (3, [.ref a_o_bytes, .int (nI o_length), .int o_faultPlace, .int o_faultNumber, .int (nI (r10_o_at + 1)), .int (nI o_numberPlace), .int o_yearClauses, .int o_knowsClauses, .int o_otherClauses])), (a_o_bytes, .inl (tB, 500, .inl o_bytes))] H := hP
        have hD : va_D A [(a_o, .inr (3, [.ref a_o_bytes, .int (nI o_length), .int o_faultPlace, .int o_faultNumber, .int (nI (r10_o_at + 1)), .int (nI o_numberPlace), .int o_yearClauses, .int o_knowsClauses, .int o_otherClauses])), (a_o_bytes, .inl (tB, 500, .inl o_bytes))] := hD
        refine lv_iconst (v := (1 : Int32)) hx hb dX3_takes_47 (by decide) ?_
        subst hR
        exact (hF _ _ _ _ hP hS).1 _ rfl ⟨.boolean, rfl, rfl⟩ dX3_takes_48
  · rw [if_neg c_1] at hR
    refine lv_iconst (v := (0 : Int32)) hx hb dX3_takes_7 (by decide) ?_
    subst hR
    exact (hF _ _ _ _ hP hS).1 _ rfl ⟨.boolean, rfl, rfl⟩ dX3_takes_8

theorem takes_p {x1 o_faultNumber : Int32} {o_length o_at : Nat} {o_bytes : Nat → Int32} (h : o_at ≤ o_length) : o_at ≤ (S_X3_takes x1 o_faultNumber o_length o_at o_bytes).2 ∧ (S_X3_takes x1 o_faultNumber o_length o_at o_bytes).2 ≤ o_length := by
  unfold S_X3_takes
  have hs := skip_p (o_bytes := o_bytes) h
  split
  · show o_at ≤ (K_X3_takes_10 x1 o_length o_bytes (S_X3_skipBlanks o_length o_bytes o_at)).2 ∧ (K_X3_takes_10 x1 o_length o_bytes (S_X3_skipBlanks o_length o_bytes o_at)).2 ≤ o_length
    generalize S_X3_skipBlanks o_length o_bytes o_at = q at hs
    unfold K_X3_takes_10
    (repeat' split) <;> (constructor <;> simp only <;> omega)
  · exact ⟨Nat.le_refl _, h⟩
theorem takes_ok {x1 o_faultNumber : Int32} {o_length o_at : Nat} {o_bytes : Nat → Int32} {r : Int32} {a : Nat} (hu : S_X3_takes x1 o_faultNumber o_length o_at o_bytes = (r, a)) (h : o_at ≤ o_length) : o_at ≤ a ∧ a ≤ o_length := by
  have := takes_p (x1 := x1) (o_faultNumber := o_faultNumber) (o_bytes := o_bytes) h
  rw [hu] at this
  exact this

def K_X3_number_147 (r10_o_at : Nat) (k_23 : Nat) (v3_23 : Int32) (r147_o_faultNumber : Int32) (r147_o_faultPlace : Int32) : Int32 × Nat × Nat × Int32 × Int32 := (if r147_o_faultNumber = 0 then (v3_23, k_23, r10_o_at, r147_o_faultNumber, r147_o_faultPlace) else ((0 : Int32), k_23, r10_o_at, r147_o_faultNumber, r147_o_faultPlace))
def K_X3_number_119 (r10_o_at : Nat) (k_23 : Nat) (v3_23 : Int32) (r119_o_faultNumber : Int32) (r119_o_faultPlace : Int32) : Int32 × Nat × Nat × Int32 × Int32 := (if r119_o_faultNumber = 0 then (v3_23, k_23, r10_o_at, r119_o_faultNumber, r119_o_faultPlace) else ((0 : Int32), k_23, r10_o_at, r119_o_faultNumber, r119_o_faultPlace))
def K_X3_number_23 (x1 : Int32) (x2 : Int32) (o_faultNumber : Int32) (o_faultPlace : Int32) (r10_o_at : Nat) (k_23 : Nat) (v3_23 : Int32) : Int32 × Nat × Nat × Int32 × Int32 := (if (k_23 - r10_o_at) = 0 then ((fun u => K_X3_number_119 r10_o_at k_23 v3_23 u.1 u.2) (S_X3_blame (1 : Int32) (nI r10_o_at))) else (if 3 < (k_23 - r10_o_at) then ((fun u => K_X3_number_147 r10_o_at k_23 v3_23 u.1 u.2) (S_X3_blame (2 : Int32) (nI r10_o_at))) else (if v3_23 < x1 then ((fun u => K_X3_number_147 r10_o_at k_23 v3_23 u.1 u.2) (S_X3_blame (2 : Int32) (nI r10_o_at))) else (if v3_23 ≤ x2 then (if o_faultNumber = 0 then (v3_23, k_23, r10_o_at, o_faultNumber, o_faultPlace) else ((0 : Int32), k_23, r10_o_at, o_faultNumber, o_faultPlace)) else ((fun u => K_X3_number_147 r10_o_at k_23 v3_23 u.1 u.2) (S_X3_blame (2 : Int32) (nI r10_o_at)))))))
def B_X3_number_23 (o_bytes : Nat → Int32) (r10_o_at : Nat) (k_23 : Nat) (v3_23 : Int32) : (Nat × Int32) ⊕ (Nat × Int32) := (if (S_X3_isFigure (o_bytes k_23)) = 0 then (.inr (k_23, v3_23)) else (if 3 ≤ (k_23 - r10_o_at) then (.inl ((k_23 + 1), v3_23)) else (.inl ((k_23 + 1), ((((10 : Int32) * v3_23) + (o_bytes k_23)) - (48 : Int32))))))
def K_X3_number_10 (x1 : Int32) (x2 : Int32) (o_faultNumber : Int32) (o_length : Nat) (o_faultPlace : Int32) (o_bytes : Nat → Int32) (r10_o_at : Nat) : Int32 × Nat × Nat × Int32 × Int32 := (outB (fun a => K_X3_number_23 x1 x2 o_faultNumber o_faultPlace r10_o_at a.1 a.2) (iterE (fun k a => B_X3_number_23 o_bytes r10_o_at k a.2) (o_length - r10_o_at) r10_o_at (r10_o_at, (0 : Int32))))
def S_X3_number (x1 : Int32) (x2 : Int32) (o_faultNumber : Int32) (o_length : Nat) (o_faultPlace : Int32) (o_at : Nat) (o_numberPlace : Nat) (o_bytes : Nat → Int32) : Int32 × Nat × Nat × Int32 × Int32 := (if o_faultNumber = 0 then ((fun u => K_X3_number_10 x1 x2 o_faultNumber o_length o_faultPlace o_bytes u) (S_X3_skipBlanks o_length o_bytes o_at)) else ((0 : Int32), o_at, o_numberPlace, o_faultNumber, o_faultPlace))
set_option maxHeartbeats 4000000 in
set_option maxRecDepth 100000 in
theorem c_X3_number (l : Launch) (D : va_G) (tB tI tZ : ClassId) (a_o a_o_bytes : Nat) (o_length : Nat) (o_faultPlace : Int32) (o_faultNumber : Int32) (o_at : Nat) (o_numberPlace : Nat) (o_yearClauses : Int32) (o_knowsClauses : Int32) (o_otherClauses : Int32) (o_bytes : Nat → Int32) (x1 : Int32) (x2 : Int32) (hlen : o_length ≤ 500) (hat : o_at ≤ o_length) : CT l D (tyL tB tI tZ) yX3_number (.code yX3_number cX3_number 5 (some .int)) 1 22 [.ref a_o, .int x1, .int x2] [(a_o, .inr (3, [.ref a_o_bytes, .int (nI o_length), .int o_faultPlace, .int o_faultNumber, .int (nI o_at), .int (nI o_numberPlace), .int o_yearClauses, .int o_knowsClauses, .int o_otherClauses])), (a_o_bytes, .inl (tB, 500, .inl o_bytes))] (fun u : Int32 × Nat × Nat × Int32 × Int32 => some (.int (u.1))) (fun u : Int32 × Nat × Nat × Int32 × Int32 => [(a_o, .inr (3, [.ref a_o_bytes, .int (nI o_length), .int (u.2.2.2.2), .int (u.2.2.2.1), .int (nI (u.2.1)), .int (nI (u.2.2.1)), .int o_yearClauses, .int o_knowsClauses, .int o_otherClauses])), (a_o_bytes, .inl (tB, 500, .inl o_bytes))]) (S_X3_number x1 x2 o_faultNumber o_length o_faultPlace o_at o_numberPlace o_bytes) := by
  refine CT.intro (k := 0) (Nat.le_of_ble_eq_true rfl) (by decide) ?_
  intro p e s m below meth c Q A ls E hA hP hD hS hl hF
  obtain ⟨⟨hx, hb, hml, hown, hts⟩, hK⟩ := id E
  generalize hR : S_X3_number x1 x2 o_faultNumber o_length o_faultPlace o_at o_numberPlace o_bytes = RES at hF
  unfold S_X3_number at hR
  have hl : lv_has ls 5 [(0, .ref a_o), (1, .int x1), (2, .int x2)] := hl
  refine lv_aload_n hx hb dX3_number_0 rfl (lv_at hl 0 rfl) ?_
  refine fget E hP 0 rfl fd_X3_22 (v := .int o_faultNumber) rfl dX3_number_1 ?_
  refine lv_if_eq (tgt := 9) hx hb dX3_number_4 (by decide) (fun c_1 => ?_) (fun c_1 => ?_)
  · rw [if_pos c_1] at hR
    refine lv_aload_n hx hb dX3_number_9 rfl (lv_at hl 0 rfl) ?_
    have hC_10 := (c_X3_skipBlanks l D tB tI tZ a_o a_o_bytes o_length o_faultPlace o_faultNumber o_at o_numberPlace o_yearClauses o_knowsClauses o_otherClauses o_bytes (show o_length ≤ 500 by first | assumption | omega | exact NN.none | exact NN.nat (by omega) (by omega) | exact NN.up (by assumption) (by omega)) (show o_at ≤ o_length by first | assumption | omega | exact NN.none | exact NN.nat (by omega) (by omega) | exact NN.up (by assumption) (by omega)))
    generalize hu_10 : (S_X3_skipBlanks o_length o_bytes o_at) = r10_o_at at hC_10 hR
    obtain ⟨hpa_10, hpb_10⟩ := skip_ok hu_10 (by omega)
    refine kcV E hl.1 hC_10 cv_X3_skipBlanks wm_X3_45 hP hD hS hA [0, 1] rfl rfl rfl (ws2 := [(a_o, .inr (3, [.ref a_o_bytes, .int (nI o_length), .int o_faultPlace, .int o_faultNumber, .int (nI r10_o_at), .int (nI o_numberPlace), .int o_yearClauses, .int o_knowsClauses, .int o_otherClauses])), (a_o_bytes, .inl (tB, 500, .inl o_bytes))]) rfl rfl (b := a_o) (As := []) (rest := []) 0 3 rfl rfl rfl rfl (Nat.le_of_ble_eq_true rfl) ⟨Nat.le_of_ble_eq_true rfl, Nat.le_of_ble_eq_true rfl⟩ ⟨Nat.zero_le _, Nat.zero_le _⟩ dX3_number_10 (fun H locs hP hD hS => ?_)
    have hP : va_P D vwCl [(a_o, .inr (3, [.ref a_o_bytes, .int (nI o_length), .int o_faultPlace, .int o_faultNumber, .int (nI r10_o_at), .int (nI o_numberPlace), .int o_yearClauses, .int o_knowsClauses, .int o_otherClauses])), (a_o_bytes, .inl (tB, 500, .inl o_bytes))] H := hP
    have hD : va_D A [(a_o, .inr (3, [.ref a_o_bytes, .int (nI o_length), .int o_faultPlace, .int o_faultNumber, .int (nI r10_o_at), .int (nI o_numberPlace), .int o_yearClauses, .int o_knowsClauses, .int o_otherClauses])), (a_o_bytes, .inl (tB, 500, .inl o_bytes))] := hD
    have hR : K_X3_number_10 x1 x2 o_faultNumber o_length o_faultPlace o_bytes r10_o_at = RES := hR
    unfold K_X3_number_10 at hR
    refine lv_aload_n hx hb dX3_number_13 rfl (lv_at hl 0 rfl) ?_
    refine lv_aload_n hx hb dX3_number_14 rfl (lv_at hl 0 rfl) ?_
    refine fget E hP 0 rfl fd_X3_25 (v := .int (nI r10_o_at)) rfl dX3_number_15 ?_
    refine fput E hP hD hS 0 rfl fd_X3_28 fp_X3 (ty := .int) (v := .int (nI r10_o_at)) rfl rfl rfl rfl (Nat.le_of_ble_eq_true rfl) dX3_number_18 (fun H locs hP hD hS => ?_)
    have hP : va_P D vwCl [(a_o, .inr (3, [.ref a_o_bytes, .int (nI o_length), .int o_faultPlace, .int o_faultNumber, .int (nI r10_o_at), .int (nI r10_o_at), .int o_yearClauses, .int o_knowsClauses, .int o_otherClauses])), (a_o_bytes, .inl (tB, 500, .inl o_bytes))] H := hP
    have hD : va_D A [(a_o, .inr (3, [.ref a_o_bytes, .int (nI o_length), .int o_faultPlace, .int o_faultNumber, .int (nI r10_o_at), .int (nI r10_o_at), .int o_yearClauses, .int o_knowsClauses, .int o_otherClauses])), (a_o_bytes, .inl (tB, 500, .inl o_bytes))] := hD
    refine lv_iconst (v := (0 : Int32)) hx hb dX3_number_21 (by decide) ?_
    refine lv_istore_n (lv' := [(3, .int (0 : Int32)), (0, .ref a_o), (1, .int x1), (2, .int x2)]) hx hb dX3_number_22 rfl hl (by decide) rfl (fun ls hl => ?_)
    have EX_23 : ∀ (k_23 : Nat) (v3_23 : Int32) (hnp : r10_o_at ≤ k_23) (hkl : k_23 ≤ o_length) (H : Heap) (locs : List Loc) (ls : Array Slot), K_X3_number_23 x1 x2 o_faultNumber o_faultPlace r10_o_at k_23 v3_23 = RES → va_P D vwCl [(a_o, .inr (3, [.ref a_o_bytes, .int (nI o_length), .int o_faultPlace, .int o_faultNumber, .int (nI k_23), .int (nI r10_o_at), .int o_yearClauses, .int o_knowsClauses, .int o_otherClauses])), (a_o_bytes, .inl (tB, 500, .inl o_bytes))] H → va_D A [(a_o, .inr (3, [.ref a_o_bytes, .int (nI o_length), .int o_faultPlace, .int o_faultNumber, .int (nI k_23), .int (nI r10_o_at), .int o_yearClauses, .int o_knowsClauses, .int o_otherClauses])), (a_o_bytes, .inl (tB, 500, .inl o_bytes))] → va_S A s.heap H locs → lv_has ls 5 [(3, .int v3_23), (0, .ref a_o), (1, .int x1), (2, .int x2)] → W p l e { frames := 1, cells := 0, slots := 0, locals := 22 } s m ([.ref a_o, .int x1, .int x2] : List Value).toArray below meth c H locs 0 0 Q (F0 m 97 ls []) := by
      intro k_23 v3_23 hnp hkl H locs ls hR hP hD hS hl
      unfold K_X3_number_23 at hR
      refine lv_aload_n hx hb dX3_number_97 rfl (lv_at hl 1 rfl) ?_
      refine fget E hP 0 rfl fd_X3_25 (v := .int (nI k_23)) rfl dX3_number_98 ?_
      refine lv_aload_n hx hb dX3_number_101 rfl (lv_at hl 1 rfl) ?_
      refine fget E hP 0 rfl fd_X3_28 (v := .int (nI r10_o_at)) rfl dX3_number_102 ?_
      refine lv_isub hx hb dX3_number_105 ?_
      refine lv_is (pk_sub (a := k_23) (b := r10_o_at) (by omega)) ?_
      refine lv_istore (lv' := [(4, .int (nI (k_23 - r10_o_at))), (3, .int v3_23), (0, .ref a_o), (1, .int x1), (2, .int x2)]) hx hb dX3_number_106 hl (by decide) rfl (fun ls hl => ?_)
      refine lv_iload hx hb dX3_number_108 (lv_at hl 0 rfl) ?_
      refine nz_ne (a := (k_23 - r10_o_at)) (tgt := 125) (by omega) hx hb dX3_number_110 (by decide) (fun c_2 => ?_) (fun c_2 => ?_)
      · rw [if_neg c_2] at hR
        refine lv_iload hx hb dX3_number_125 (lv_at hl 0 rfl) ?_
        refine lv_iconst (v := (3 : Int32)) hx hb dX3_number_127 (by decide) ?_
        refine ni_gt (a := (k_23 - r10_o_at)) (b := 3) (tgt := 141) (by omega) (by omega) hx hb dX3_number_128 (by decide) (fun c_3 => ?_) (fun c_3 => ?_)
        · rw [if_pos c_3] at hR
          refine lv_aload_n hx hb dX3_number_141 rfl (lv_at hl 2 rfl) ?_
          refine lv_iconst (v := (2 : Int32)) hx hb dX3_number_142 (by decide) ?_
          refine lv_aload_n hx hb dX3_number_143 rfl (lv_at hl 2 rfl) ?_
          refine fget E hP 0 rfl fd_X3_28 (v := .int (nI r10_o_at)) rfl dX3_number_144 ?_
          have hC_147 := (c_X3_blame l D tB tI tZ a_o a_o_bytes o_length o_faultPlace o_faultNumber k_23 r10_o_at o_yearClauses o_knowsClauses o_otherClauses (2 : Int32) (nI r10_o_at) )
          generalize hu_147 : (S_X3_blame (2 : Int32) (nI r10_o_at)) = u_147 at hC_147 hR
          obtain ⟨r147_o_faultNumber, r147_o_faultPlace⟩ := u_147
          refine kcV E hl.1 hC_147 cv_X3_blame wm_X3_64 hP hD hS hA [0] rfl rfl rfl (ws2 := [(a_o, .inr (3, [.ref a_o_bytes, .int (nI o_length), .int r147_o_faultPlace, .int r147_o_faultNumber, .int (nI k_23), .int (nI r10_o_at), .int o_yearClauses, .int o_knowsClauses, .int o_otherClauses])), (a_o_bytes, .inl (tB, 500, .inl o_bytes))]) rfl rfl (b := a_o) (As := [.int (2 : Int32), .int (nI r10_o_at)]) (rest := []) 0 3 rfl rfl rfl rfl (Nat.le_of_ble_eq_true rfl) ⟨Nat.le_of_ble_eq_true rfl, Nat.le_of_ble_eq_true rfl⟩ ⟨Nat.zero_le _, Nat.zero_le _⟩ dX3_number_147 (fun H locs hP hD hS => ?_)
          have hP : va_P D vwCl [(a_o, .inr (3, [.ref a_o_bytes, .int (nI o_length), .int r147_o_faultPlace, .int r147_o_faultNumber, .int (nI k_23), .int (nI r10_o_at), .int o_yearClauses, .int o_knowsClauses, .int o_otherClauses])), (a_o_bytes, .inl (tB, 500, .inl o_bytes))] H := hP
          have hD : va_D A [(a_o, .inr (3, [.ref a_o_bytes, .int (nI o_length), .int r147_o_faultPlace, .int r147_o_faultNumber, .int (nI k_23), .int (nI r10_o_at), .int o_yearClauses, .int o_knowsClauses, .int o_otherClauses])), (a_o_bytes, .inl (tB, 500, .inl o_bytes))] := hD
          have hR : K_X3_number_147 r10_o_at k_23 v3_23 r147_o_faultNumber r147_o_faultPlace = RES := hR
          unfold K_X3_number_147 at hR
          refine lv_aload_n hx hb dX3_number_150 rfl (lv_at hl 2 rfl) ?_
          refine fget E hP 0 rfl fd_X3_22 (v := .int r147_o_faultNumber) rfl dX3_number_151 ?_
          refine lv_if_ne (tgt := 161) hx hb dX3_number_154 (by decide) (fun c_4 => ?_) (fun c_4 => ?_)
          · rw [if_neg c_4] at hR
            refine lv_iconst (v := (0 : Int32)) hx hb dX3_number_161 (by decide) ?_
            subst hR
            exact (hF _ _ _ _ hP hS).1 _ rfl ⟨.int, rfl, rfl⟩ dX3_number_162
          · rw [if_pos c_4] at hR
            refine lv_iload_n hx hb dX3_number_157 rfl (lv_at hl 1 rfl) ?_
            refine lv_goto (tgt := 162) hx hb dX3_number_158 (by decide) ?_
            subst hR
            exact (hF _ _ _ _ hP hS).1 _ rfl ⟨.int, rfl, rfl⟩ dX3_number_162
        · rw [if_neg c_3] at hR
          refine lv_iload_n hx hb dX3_number_131 rfl (lv_at hl 1 rfl) ?_
          refine lv_iload_n hx hb dX3_number_132 rfl (lv_at hl 3 rfl) ?_
          refine lv_icmp_lt (tgt := 141) hx hb dX3_number_133 (by decide) (fun c_5 => ?_) (fun c_5 => ?_)
          · rw [if_pos c_5] at hR
            refine lv_aload_n hx hb dX3_number_141 rfl (lv_at hl 2 rfl) ?_
            refine lv_iconst (v := (2 : Int32)) hx hb dX3_number_142 (by decide) ?_
            refine lv_aload_n hx hb dX3_number_143 rfl (lv_at hl 2 rfl) ?_
            refine fget E hP 0 rfl fd_X3_28 (v := .int (nI r10_o_at)) rfl dX3_number_144 ?_
            have hC_147 := (c_X3_blame l D tB tI tZ a_o a_o_bytes o_length o_faultPlace o_faultNumber k_23 r10_o_at o_yearClauses o_knowsClauses o_otherClauses (2 : Int32) (nI r10_o_at) )
            generalize hu_147 : (S_X3_blame (2 : Int32) (nI r10_o_at)) = u_147 at hC_147 hR
            obtain ⟨r147_o_faultNumber, r147_o_faultPlace⟩ := u_147
            refine kcV E hl.1 hC_147 cv_X3_blame wm_X3_64 hP hD hS hA [0] rfl rfl rfl (ws2 := [(a_o, .inr (3, [.ref a_o_bytes, .int (nI o_length), .int r147_o_faultPlace, .int r147_o_faultNumber, .int (nI k_23), .int (nI r10_o_at), .int o_yearClauses, .int o_knowsClauses, .int o_otherClauses])), (a_o_bytes, .inl (tB, 500, .inl o_bytes))]) rfl rfl (b := a_o) (As := [.int (2 : Int32), .int (nI r10_o_at)]) (rest := []) 0 3 rfl rfl rfl rfl (Nat.le_of_ble_eq_true rfl) ⟨Nat.le_of_ble_eq_true rfl, Nat.le_of_ble_eq_true rfl⟩ ⟨Nat.zero_le _, Nat.zero_le _⟩ dX3_number_147 (fun H locs hP hD hS => ?_)
            have hP : va_P D vwCl [(a_o, .inr (3, [.ref a_o_bytes, .int (nI o_length), .int r147_o_faultPlace, .int r147_o_faultNumber, .int (nI k_23), .int (nI r10_o_at), .int o_yearClauses, .int o_knowsClauses, .int o_otherClauses])), (a_o_bytes, .inl (tB, 500, .inl o_bytes))] H := hP
            have hD : va_D A [(a_o, .inr (3, [.ref a_o_bytes, .int (nI o_length), .int r147_o_faultPlace, .int r147_o_faultNumber, .int (nI k_23), .int (nI r10_o_at), .int o_yearClauses, .int o_knowsClauses, .int o_otherClauses])), (a_o_bytes, .inl (tB, 500, .inl o_bytes))] := hD
            have hR : K_X3_number_147 r10_o_at k_23 v3_23 r147_o_faultNumber r147_o_faultPlace = RES := hR
            unfold K_X3_number_147 at hR
            refine lv_aload_n hx hb dX3_number_150 rfl (lv_at hl 2 rfl) ?_
            refine fget E hP 0 rfl fd_X3_22 (v := .int r147_o_faultNumber) rfl dX3_number_151 ?_
            refine lv_if_ne (tgt := 161) hx hb dX3_number_154 (by decide) (fun c_6 => ?_) (fun c_6 => ?_)
            · rw [if_neg c_6] at hR
              refine lv_iconst (v := (0 : Int32)) hx hb dX3_number_161 (by decide) ?_
              subst hR
              exact (hF _ _ _ _ hP hS).1 _ rfl ⟨.int, rfl, rfl⟩ dX3_number_162
            · rw [if_pos c_6] at hR
              refine lv_iload_n hx hb dX3_number_157 rfl (lv_at hl 1 rfl) ?_
              refine lv_goto (tgt := 162) hx hb dX3_number_158 (by decide) ?_
              subst hR
              exact (hF _ _ _ _ hP hS).1 _ rfl ⟨.int, rfl, rfl⟩ dX3_number_162
          · rw [if_neg c_5] at hR
            refine lv_iload_n hx hb dX3_number_136 rfl (lv_at hl 1 rfl) ?_
            refine lv_iload_n hx hb dX3_number_137 rfl (lv_at hl 4 rfl) ?_
            refine lv_icmp_le (tgt := 150) hx hb dX3_number_138 (by decide) (fun c_7 => ?_) (fun c_7 => ?_)
            · rw [if_pos c_7] at hR
              refine lv_aload_n hx hb dX3_number_150 rfl (lv_at hl 2 rfl) ?_
              refine fget E hP 0 rfl fd_X3_22 (v := .int o_faultNumber) rfl dX3_number_151 ?_
              refine lv_if_ne (tgt := 161) hx hb dX3_number_154 (by decide) (fun c_8 => ?_) (fun c_8 => ?_)
              · rw [if_neg c_8] at hR
                refine lv_iconst (v := (0 : Int32)) hx hb dX3_number_161 (by decide) ?_
                subst hR
                exact (hF _ _ _ _ hP hS).1 _ rfl ⟨.int, rfl, rfl⟩ dX3_number_162
              · rw [if_pos c_8] at hR
                refine lv_iload_n hx hb dX3_number_157 rfl (lv_at hl 1 rfl) ?_
                refine lv_goto (tgt := 162) hx hb dX3_number_158 (by decide) ?_
                subst hR
                exact (hF _ _ _ _ hP hS).1 _ rfl ⟨.int, rfl, rfl⟩ dX3_number_162
            · rw [if_neg c_7] at hR
              refine lv_aload_n hx hb dX3_number_141 rfl (lv_at hl 2 rfl) ?_
              refine lv_iconst (v := (2 : Int32)) hx hb dX3_number_142 (by decide) ?_
              refine lv_aload_n hx hb dX3_number_143 rfl (lv_at hl 2 rfl) ?_
              refine fget E hP 0 rfl fd_X3_28 (v := .int (nI r10_o_at)) rfl dX3_number_144 ?_
              have hC_147 := (c_X3_blame l D tB tI tZ a_o a_o_bytes o_length o_faultPlace o_faultNumber k_23 r10_o_at o_yearClauses o_knowsClauses o_otherClauses (2 : Int32) (nI r10_o_at) )
              generalize hu_147 : (S_X3_blame (2 : Int32) (nI r10_o_at)) = u_147 at hC_147 hR
              obtain ⟨r147_o_faultNumber, r147_o_faultPlace⟩ := u_147
              refine kcV E hl.1 hC_147 cv_X3_blame wm_X3_64 hP hD hS hA [0] rfl rfl rfl (ws2 := [(a_o, .inr (3, [.ref a_o_bytes, .int (nI o_length), .int r147_o_faultPlace, .int r147_o_faultNumber, .int (nI k_23), .int (nI r10_o_at), .int o_yearClauses, .int o_knowsClauses, .int o_otherClauses])), (a_o_bytes, .inl (tB, 500, .inl o_bytes))]) rfl rfl (b := a_o) (As := [.int (2 : Int32), .int (nI r10_o_at)]) (rest := []) 0 3 rfl rfl rfl rfl (Nat.le_of_ble_eq_true rfl) ⟨Nat.le_of_ble_eq_true rfl, Nat.le_of_ble_eq_true rfl⟩ ⟨Nat.zero_le _, Nat.zero_le _⟩ dX3_number_147 (fun H locs hP hD hS => ?_)
              have hP : va_P D vwCl [(a_o, .inr (3, [.ref a_o_bytes, .int (nI o_length), .int r147_o_faultPlace, .int r147_o_faultNumber, .int (nI k_23), .int (nI r10_o_at), .int o_yearClauses, .int o_knowsClauses, .int o_otherClauses])), (a_o_bytes, .inl (tB, 500, .inl o_bytes))] H := hP
              have hD : va_D A [(a_o, .inr (3, [.ref a_o_bytes, .int (nI o_length), .int r147_o_faultPlace, .int r147_o_faultNumber, .int (nI k_23), .int (nI r10_o_at), .int o_yearClauses, .int o_knowsClauses, .int o_otherClauses])), (a_o_bytes, .inl (tB, 500, .inl o_bytes))] := hD
              have hR : K_X3_number_147 r10_o_at k_23 v3_23 r147_o_faultNumber r147_o_faultPlace = RES := hR
              unfold K_X3_number_147 at hR
              refine lv_aload_n hx hb dX3_number_150 rfl (lv_at hl 2 rfl) ?_
              refine fget E hP 0 rfl fd_X3_22 (v := .int r147_o_faultNumber) rfl dX3_number_151 ?_
              refine lv_if_ne (tgt := 161) hx hb dX3_number_154 (by decide) (fun c_9 => ?_) (fun c_9 => ?_)
              · rw [if_neg c_9] at hR
                refine lv_iconst (v := (0 : Int32)) hx hb dX3_number_161 (by decide) ?_
                subst hR
                exact (hF _ _ _ _ hP hS).1 _ rfl ⟨.int, rfl, rfl⟩ dX3_number_162
              · rw [if_pos c_9] at hR
                refine lv_iload_n hx hb dX3_number_157 rfl (lv_at hl 1 rfl) ?_
                refine lv_goto (tgt := 162) hx hb dX3_number_158 (by decide) ?_
                subst hR
                exact (hF _ _ _ _ hP hS).1 _ rfl ⟨.int, rfl, rfl⟩ dX3_number_162
      · rw [if_pos c_2] at hR
        refine lv_aload_n hx hb dX3_number_113 rfl (lv_at hl 2 rfl) ?_
        refine lv_iconst (v := (1 : Int32)) hx hb dX3_number_114 (by decide) ?_
        refine lv_aload_n hx hb dX3_number_115 rfl (lv_at hl 2 rfl) ?_
        refine fget E hP 0 rfl fd_X3_28 (v := .int (nI r10_o_at)) rfl dX3_number_116 ?_
        have hC_119 := (c_X3_blame l D tB tI tZ a_o a_o_bytes o_length o_faultPlace o_faultNumber k_23 r10_o_at o_yearClauses o_knowsClauses o_otherClauses (1 : Int32) (nI r10_o_at) )
        generalize hu_119 : (S_X3_blame (1 : Int32) (nI r10_o_at)) = u_119 at hC_119 hR
        obtain ⟨r119_o_faultNumber, r119_o_faultPlace⟩ := u_119
        refine kcV E hl.1 hC_119 cv_X3_blame wm_X3_64 hP hD hS hA [0] rfl rfl rfl (ws2 := [(a_o, .inr (3, [.ref a_o_bytes, .int (nI o_length), .int r119_o_faultPlace, .int r119_o_faultNumber, .int (nI k_23), .int (nI r10_o_at), .int o_yearClauses, .int o_knowsClauses, .int o_otherClauses])), (a_o_bytes, .inl (tB, 500, .inl o_bytes))]) rfl rfl (b := a_o) (As := [.int (1 : Int32), .int (nI r10_o_at)]) (rest := []) 0 3 rfl rfl rfl rfl (Nat.le_of_ble_eq_true rfl) ⟨Nat.le_of_ble_eq_true rfl, Nat.le_of_ble_eq_true rfl⟩ ⟨Nat.zero_le _, Nat.zero_le _⟩ dX3_number_119 (fun H locs hP hD hS => ?_)
        have hP : va_P D vwCl [(a_o, .inr (3, [.ref a_o_bytes, .int (nI o_length), .int r119_o_faultPlace, .int r119_o_faultNumber, .int (nI k_23), .int (nI r10_o_at), .int o_yearClauses, .int o_knowsClauses, .int o_otherClauses])), (a_o_bytes, .inl (tB, 500, .inl o_bytes))] H := hP
        have hD : va_D A [(a_o, .inr (3, [.ref a_o_bytes, .int (nI o_length), .int r119_o_faultPlace, .int r119_o_faultNumber, .int (nI k_23), .int (nI r10_o_at), .int o_yearClauses, .int o_knowsClauses, .int o_otherClauses])), (a_o_bytes, .inl (tB, 500, .inl o_bytes))] := hD
        have hR : K_X3_number_119 r10_o_at k_23 v3_23 r119_o_faultNumber r119_o_faultPlace = RES := hR
        unfold K_X3_number_119 at hR
        refine lv_goto (tgt := 150) hx hb dX3_number_122 (by decide) ?_
        refine lv_aload_n hx hb dX3_number_150 rfl (lv_at hl 2 rfl) ?_
        refine fget E hP 0 rfl fd_X3_22 (v := .int r119_o_faultNumber) rfl dX3_number_151 ?_
        refine lv_if_ne (tgt := 161) hx hb dX3_number_154 (by decide) (fun c_10 => ?_) (fun c_10 => ?_)
        · rw [if_neg c_10] at hR
          refine lv_iconst (v := (0 : Int32)) hx hb dX3_number_161 (by decide) ?_
          subst hR
          exact (hF _ _ _ _ hP hS).1 _ rfl ⟨.int, rfl, rfl⟩ dX3_number_162
        · rw [if_pos c_10] at hR
          refine lv_iload_n hx hb dX3_number_157 rfl (lv_at hl 1 rfl) ?_
          refine lv_goto (tgt := 162) hx hb dX3_number_158 (by decide) ?_
          subst hR
          exact (hF _ _ _ _ hP hS).1 _ rfl ⟨.int, rfl, rfl⟩ dX3_number_162
    have LP_23 : ∀ (n_23 k_23 : Nat) (v3_23 : Int32) (hnp : r10_o_at ≤ k_23) (hkl : k_23 ≤ o_length) (H : Heap) (locs : List Loc) (ls : Array Slot), k_23 + n_23 = o_length → outB (fun a => K_X3_number_23 x1 x2 o_faultNumber o_faultPlace r10_o_at a.1 a.2) (iterE (fun k a => B_X3_number_23 o_bytes r10_o_at k a.2) n_23 k_23 (k_23, v3_23)) = RES → va_P D vwCl [(a_o, .inr (3, [.ref a_o_bytes, .int (nI o_length), .int o_faultPlace, .int o_faultNumber, .int (nI k_23), .int (nI r10_o_at), .int o_yearClauses, .int o_knowsClauses, .int o_otherClauses])), (a_o_bytes, .inl (tB, 500, .inl o_bytes))] H → va_D A [(a_o, .inr (3, [.ref a_o_bytes, .int (nI o_length), .int o_faultPlace, .int o_faultNumber, .int (nI k_23), .int (nI r10_o_at), .int o_yearClauses, .int o_knowsClauses, .int o_otherClauses])), (a_o_bytes, .inl (tB, 500, .inl o_bytes))] → va_S A s.heap H locs → lv_has ls 5 [(3, .int v3_23), (0, .ref a_o), (1, .int x1), (2, .int x2)] → W p l e { frames := 1, cells := 0, slots := 0, locals := 22 } s m ([.ref a_o, .int x1, .int x2] : List Value).toArray below meth c H locs 0 0 Q (F0 m 23 ls []) := by
      intro n_23
      induction n_23 with
      | zero =>
        intro k_23 v3_23 hnp hkl H locs ls hn_23 hR hP hD hS hl
        refine lv_aload_n hx hb dX3_number_23 rfl (lv_at hl 1 rfl) ?_
        refine fget E hP 0 rfl fd_X3_25 (v := .int (nI k_23)) rfl dX3_number_24 ?_
        refine lv_aload_n hx hb dX3_number_27 rfl (lv_at hl 1 rfl) ?_
        refine fget E hP 0 rfl fd_X3_15 (v := .int (nI o_length)) rfl dX3_number_28 ?_
        refine ni_ge (a := k_23) (b := o_length) (tgt := 97) (by omega) (by omega) hx hb dX3_number_31 (by decide) (fun g_23 => ?_) (fun g_23 => ?_)
        · exact EX_23 k_23 v3_23 hnp hkl _ _ _ hR hP hD hS (lv_sub hl [0, 1, 2, 3] rfl)
        · exfalso; omega
      | succ n_23 ih_23 =>
        intro k_23 v3_23 hnp hkl H locs ls hn_23 hR hP hD hS hl
        have hR : outB (fun a => K_X3_number_23 x1 x2 o_faultNumber o_faultPlace r10_o_at a.1 a.2) (stepE (iterE (fun k a => B_X3_number_23 o_bytes r10_o_at k a.2) n_23 (k_23 + 1)) (B_X3_number_23 o_bytes r10_o_at k_23 v3_23)) = RES := hR
        generalize hB_23 : B_X3_number_23 o_bytes r10_o_at k_23 v3_23 = RB_23 at hR
        unfold B_X3_number_23 at hB_23
        refine lv_aload_n hx hb dX3_number_23 rfl (lv_at hl 1 rfl) ?_
        refine fget E hP 0 rfl fd_X3_25 (v := .int (nI k_23)) rfl dX3_number_24 ?_
        refine lv_aload_n hx hb dX3_number_27 rfl (lv_at hl 1 rfl) ?_
        refine fget E hP 0 rfl fd_X3_15 (v := .int (nI o_length)) rfl dX3_number_28 ?_
        refine ni_ge (a := k_23) (b := o_length) (tgt := 97) (by omega) (by omega) hx hb dX3_number_31 (by decide) (fun g_23 => ?_) (fun g_23 => ?_)
        · exfalso; omega
        · refine lv_aload_n hx hb dX3_number_34 rfl (lv_at hl 1 rfl) ?_
          refine fget E hP 0 rfl fd_X3_9 (v := .ref a_o_bytes) rfl dX3_number_35 ?_
          refine lv_aload_n hx hb dX3_number_38 rfl (lv_at hl 1 rfl) ?_
          refine fget E hP 0 rfl fd_X3_25 (v := .int (nI k_23)) rfl dX3_number_39 ?_
          refine bld E hP 1 rfl (k := k_23) (by omega) (by decide) dX3_number_42 ?_
          refine kcS E hl.1 (c_X3_isFigure l D tB tI tZ (o_bytes k_23) ) cs_X3_isFigure wm_X3_151 hP hD hS hA [] rfl rfl rfl (ws2 := [(a_o, .inr (3, [.ref a_o_bytes, .int (nI o_length), .int o_faultPlace, .int o_faultNumber, .int (nI k_23), .int (nI r10_o_at), .int o_yearClauses, .int o_knowsClauses, .int o_otherClauses])), (a_o_bytes, .inl (tB, 500, .inl o_bytes))]) rfl rfl (As := [.int (o_bytes k_23)]) (rest := []) rfl rfl (Nat.le_of_ble_eq_true rfl) ⟨Nat.le_of_ble_eq_true rfl, Nat.le_of_ble_eq_true rfl⟩ ⟨Nat.zero_le _, Nat.zero_le _⟩ dX3_number_43 (fun H locs hP hD hS => ?_)
          refine lv_if_eq (tgt := 97) hx hb dX3_number_46 (by decide) (fun c_12 => ?_) (fun c_12 => ?_)
          · rw [if_pos c_12] at hB_23
            subst hB_23
            exact EX_23 k_23 v3_23 (show r10_o_at ≤ k_23 by omega) (show k_23 ≤ o_length by omega) _ _ _ hR hP hD hS (lv_sub hl [0, 1, 2, 3] rfl)
          · rw [if_neg c_12] at hB_23
            refine lv_aload_n hx hb dX3_number_49 rfl (lv_at hl 1 rfl) ?_
            refine fget E hP 0 rfl fd_X3_25 (v := .int (nI k_23)) rfl dX3_number_50 ?_
            refine lv_aload_n hx hb dX3_number_53 rfl (lv_at hl 1 rfl) ?_
            refine fget E hP 0 rfl fd_X3_28 (v := .int (nI r10_o_at)) rfl dX3_number_54 ?_
            refine lv_isub hx hb dX3_number_57 ?_
            refine lv_is (pk_sub (a := k_23) (b := r10_o_at) (by omega)) ?_
            refine lv_iconst (v := (3 : Int32)) hx hb dX3_number_58 (by decide) ?_
            refine ni_ge (a := (k_23 - r10_o_at)) (b := 3) (tgt := 82) (by omega) (by omega) hx hb dX3_number_59 (by decide) (fun c_13 => ?_) (fun c_13 => ?_)
            · rw [if_pos c_13] at hB_23
              refine lv_iload_n hx hb dX3_number_82 rfl (lv_at hl 0 rfl) ?_
              refine lv_istore_n (lv' := [(3, .int v3_23), (0, .ref a_o), (1, .int x1), (2, .int x2)]) hx hb dX3_number_83 rfl hl (by decide) rfl (fun ls hl => ?_)
              refine lv_aload_n hx hb dX3_number_84 rfl (lv_at hl 1 rfl) ?_
              refine lv_dup hx hb dX3_number_85 rfl ?_
              refine fget E hP 0 rfl fd_X3_25 (v := .int (nI k_23)) rfl dX3_number_86 ?_
              refine lv_iconst (v := (1 : Int32)) hx hb dX3_number_89 (by decide) ?_
              refine lv_iadd hx hb dX3_number_90 ?_
              refine lv_is (nI_add k_23 1) ?_
              refine fput E hP hD hS 0 rfl fd_X3_25 fp_X3 (ty := .int) (v := .int (nI (k_23 + 1))) rfl rfl rfl rfl (Nat.le_of_ble_eq_true rfl) dX3_number_91 (fun H locs hP hD hS => ?_)
              have hP : va_P D vwCl [(a_o, .inr (3, [.ref a_o_bytes, .int (nI o_length), .int o_faultPlace, .int o_faultNumber, .int (nI (k_23 + 1)), .int (nI r10_o_at), .int o_yearClauses, .int o_knowsClauses, .int o_otherClauses])), (a_o_bytes, .inl (tB, 500, .inl o_bytes))] H := hP
              have hD : va_D A [(a_o, .inr (3, [.ref a_o_bytes, .int (nI o_length), .int o_faultPlace, .int o_faultNumber, .int (nI (k_23 + 1)), .int (nI r10_o_at), .int o_yearClauses, .int o_knowsClauses, .int o_otherClauses])), (a_o_bytes, .inl (tB, 500, .inl o_bytes))] := hD
              refine lv_goto (tgt := 23) hx hb dX3_number_94 (by decide) ?_
              subst hB_23
              exact ih_23 (k_23 + 1) v3_23 (show r10_o_at ≤ (k_23 + 1) by omega) (show (k_23 + 1) ≤ o_length by omega) _ _ _ (by omega) hR hP hD hS (lv_sub hl [0, 1, 2, 3] rfl)
            · rw [if_neg c_13] at hB_23
              refine lv_bipush (v := (10 : Int32)) hx hb dX3_number_62 (by decide) ?_
              refine lv_iload_n hx hb dX3_number_64 rfl (lv_at hl 0 rfl) ?_
              refine lv_imul hx hb dX3_number_65 ?_
              refine lv_aload_n hx hb dX3_number_66 rfl (lv_at hl 1 rfl) ?_
              refine fget E hP 0 rfl fd_X3_9 (v := .ref a_o_bytes) rfl dX3_number_67 ?_
              refine lv_aload_n hx hb dX3_number_70 rfl (lv_at hl 1 rfl) ?_
              refine fget E hP 0 rfl fd_X3_25 (v := .int (nI k_23)) rfl dX3_number_71 ?_
              refine bld E hP 1 rfl (k := k_23) (by omega) (by decide) dX3_number_74 ?_
              refine lv_iadd hx hb dX3_number_75 ?_
              refine lv_bipush (v := (48 : Int32)) hx hb dX3_number_76 (by decide) ?_
              refine lv_isub hx hb dX3_number_78 ?_
              refine lv_goto (tgt := 83) hx hb dX3_number_79 (by decide) ?_
              refine lv_istore_n (lv' := [(3, .int ((((10 : Int32) * v3_23) + (o_bytes k_23)) - (48 : Int32))), (0, .ref a_o), (1, .int x1), (2, .int x2)]) hx hb dX3_number_83 rfl hl (by decide) rfl (fun ls hl => ?_)
              refine lv_aload_n hx hb dX3_number_84 rfl (lv_at hl 1 rfl) ?_
              refine lv_dup hx hb dX3_number_85 rfl ?_
              refine fget E hP 0 rfl fd_X3_25 (v := .int (nI k_23)) rfl dX3_number_86 ?_
              refine lv_iconst (v := (1 : Int32)) hx hb dX3_number_89 (by decide) ?_
              refine lv_iadd hx hb dX3_number_90 ?_
              refine lv_is (nI_add k_23 1) ?_
              refine fput E hP hD hS 0 rfl fd_X3_25 fp_X3 (ty := .int) (v := .int (nI (k_23 + 1))) rfl rfl rfl rfl (Nat.le_of_ble_eq_true rfl) dX3_number_91 (fun H locs hP hD hS => ?_)
              have hP : va_P D vwCl [(a_o, .inr (3, [.ref a_o_bytes, .int (nI o_length), .int o_faultPlace, .int o_faultNumber, .int (nI (k_23 + 1)), .int (nI r10_o_at), .int o_yearClauses, .int o_knowsClauses, .int o_otherClauses])), (a_o_bytes, .inl (tB, 500, .inl o_bytes))] H := hP
              have hD : va_D A [(a_o, .inr (3, [.ref a_o_bytes, .int (nI o_length), .int o_faultPlace, .int o_faultNumber, .int (nI (k_23 + 1)), .int (nI r10_o_at), .int o_yearClauses, .int o_knowsClauses, .int o_otherClauses])), (a_o_bytes, .inl (tB, 500, .inl o_bytes))] := hD
              refine lv_goto (tgt := 23) hx hb dX3_number_94 (by decide) ?_
              subst hB_23
              exact ih_23 (k_23 + 1) ((((10 : Int32) * v3_23) + (o_bytes k_23)) - (48 : Int32)) (show r10_o_at ≤ (k_23 + 1) by omega) (show (k_23 + 1) ≤ o_length by omega) _ _ _ (by omega) hR hP hD hS (lv_sub hl [0, 1, 2, 3] rfl)
    exact LP_23 (o_length - r10_o_at) r10_o_at (0 : Int32) (show r10_o_at ≤ r10_o_at by omega) (show r10_o_at ≤ o_length by omega) _ _ _ (by omega) hR hP hD hS (lv_sub hl [0, 1, 2, 3] rfl)
  · rw [if_neg c_1] at hR
    refine lv_iconst (v := (0 : Int32)) hx hb dX3_number_7 (by decide) ?_
    subst hR
    exact (hF _ _ _ _ hP hS).1 _ rfl ⟨.int, rfl, rfl⟩ dX3_number_8

theorem number_p {x1 x2 o_faultNumber o_faultPlace : Int32} {o_length o_at o_numberPlace : Nat} {o_bytes : Nat → Int32} (h : o_at ≤ o_length) : o_at ≤ (S_X3_number x1 x2 o_faultNumber o_length o_faultPlace o_at o_numberPlace o_bytes).2.1 ∧ (S_X3_number x1 x2 o_faultNumber o_length o_faultPlace o_at o_numberPlace o_bytes).2.1 ≤ o_length := by
  unfold S_X3_number
  have hs := skip_p (o_bytes := o_bytes) h
  split
  · show o_at ≤ (K_X3_number_10 x1 x2 o_faultNumber o_length o_faultPlace o_bytes (S_X3_skipBlanks o_length o_bytes o_at)).2.1 ∧ (K_X3_number_10 x1 x2 o_faultNumber o_length o_faultPlace o_bytes (S_X3_skipBlanks o_length o_bytes o_at)).2.1 ≤ o_length
    generalize S_X3_skipBlanks o_length o_bytes o_at = q at hs
    unfold K_X3_number_10
    have key : ∀ v k, (K_X3_number_23 x1 x2 o_faultNumber o_faultPlace q k v).2.1 = k := by
      intro v k
      have k1 : ∀ u : Int32 × Int32, (K_X3_number_119 q k v u.1 u.2).2.1 = k := by intro u; unfold K_X3_number_119; split <;> rfl
      have k2 : ∀ u : Int32 × Int32, (K_X3_number_147 q k v u.1 u.2).2.1 = k := by intro u; unfold K_X3_number_147; split <;> rfl
      unfold K_X3_number_23
      (repeat' split) <;> first | rfl | exact k1 _ | exact k2 _
    rcases iterE_ind (b := fun k (a : Nat × Int32) => B_X3_number_23 o_bytes q k a.2) (N := o_length) (fun k a => a.1 = k ∧ q ≤ k) (fun r => q ≤ r.1 ∧ r.1 ≤ o_length) (fun k a a' hk hp e => by
        unfold B_X3_number_23 at e; (repeat' split at e) <;> cases e <;> exact ⟨rfl, by omega⟩) (fun k a r hk hp e => by
        unfold B_X3_number_23 at e; (repeat' split at e) <;> cases e; exact ⟨hp.2, by show k ≤ _; omega⟩) (o_length - q) q (q, (0 : Int32)) (by omega) ⟨rfl, Nat.le_refl _⟩ with ⟨a, e, hp⟩ | ⟨a, e, hp⟩
    · rw [e]
      show o_at ≤ (K_X3_number_23 x1 x2 o_faultNumber o_faultPlace q a.1 a.2).2.1 ∧ (K_X3_number_23 x1 x2 o_faultNumber o_faultPlace q a.1 a.2).2.1 ≤ o_length
      rw [key]; omega
    · rw [e]
      show o_at ≤ (K_X3_number_23 x1 x2 o_faultNumber o_faultPlace q a.1 a.2).2.1 ∧ (K_X3_number_23 x1 x2 o_faultNumber o_faultPlace q a.1 a.2).2.1 ≤ o_length
      rw [key]; omega
  · exact ⟨Nat.le_refl _, h⟩
theorem number_ok {x1 x2 o_faultNumber o_faultPlace : Int32} {o_length o_at o_numberPlace : Nat} {o_bytes : Nat → Int32} {r f g : Int32} {a n : Nat} (hu : S_X3_number x1 x2 o_faultNumber o_length o_faultPlace o_at o_numberPlace o_bytes = (r, a, n, f, g)) (h : o_at ≤ o_length) : o_at ≤ a ∧ a ≤ o_length := by
  have := number_p (x1 := x1) (x2 := x2) (o_faultNumber := o_faultNumber) (o_faultPlace := o_faultPlace) (o_numberPlace := o_numberPlace) (o_bytes := o_bytes) h
  rw [hu] at this
  exact this

def K_X3_endClause_22 (r10_o_at : Nat) (r22_o_faultNumber : Int32) (r22_o_faultPlace : Int32) : Nat × Int32 × Int32 := (r10_o_at, r22_o_faultNumber, r22_o_faultPlace)
def K_X3_endClause_10 (o_faultNumber : Int32) (o_faultPlace : Int32) (r10_r : Int32) (r10_o_at : Nat) : Nat × Int32 × Int32 := (if r10_r = 0 then ((fun u => K_X3_endClause_22 r10_o_at u.1 u.2) (S_X3_blame (1 : Int32) (nI r10_o_at))) else (r10_o_at, o_faultNumber, o_faultPlace))
def S_X3_endClause (o_faultNumber : Int32) (o_length : Nat) (o_faultPlace : Int32) (o_at : Nat) (o_bytes : Nat → Int32) : Nat × Int32 × Int32 := (if o_faultNumber = 0 then ((fun u => K_X3_endClause_10 o_faultNumber o_faultPlace u.1 u.2) (S_X3_takes (59 : Int32) o_faultNumber o_length o_at o_bytes)) else (o_at, o_faultNumber, o_faultPlace))
set_option maxHeartbeats 4000000 in
set_option maxRecDepth 100000 in
theorem c_X3_endClause (l : Launch) (D : va_G) (tB tI tZ : ClassId) (a_o a_o_bytes : Nat) (o_length : Nat) (o_faultPlace : Int32) (o_faultNumber : Int32) (o_at : Nat) (o_numberPlace : Nat) (o_yearClauses : Int32) (o_knowsClauses : Int32) (o_otherClauses : Int32) (o_bytes : Nat → Int32)  (hlen : o_length ≤ 500) (hat : o_at ≤ o_length) : CT l D (tyL tB tI tZ) yX3_endClause (.code yX3_endClause cX3_endClause 1 none) 2 41 [.ref a_o] [(a_o, .inr (3, [.ref a_o_bytes, .int (nI o_length), .int o_faultPlace, .int o_faultNumber, .int (nI o_at), .int (nI o_numberPlace), .int o_yearClauses, .int o_knowsClauses, .int o_otherClauses])), (a_o_bytes, .inl (tB, 500, .inl o_bytes))] (fun _ : Nat × Int32 × Int32 => none) (fun u : Nat × Int32 × Int32 => [(a_o, .inr (3, [.ref a_o_bytes, .int (nI o_length), .int (u.2.2), .int (u.2.1), .int (nI (u.1)), .int (nI o_numberPlace), .int o_yearClauses, .int o_knowsClauses, .int o_otherClauses])), (a_o_bytes, .inl (tB, 500, .inl o_bytes))]) (S_X3_endClause o_faultNumber o_length o_faultPlace o_at o_bytes) := by
  refine CT.intro (k := 0) (Nat.le_of_ble_eq_true rfl) (by decide) ?_
  intro p e s m below meth c Q A ls E hA hP hD hS hl hF
  obtain ⟨⟨hx, hb, hml, hown, hts⟩, hK⟩ := id E
  generalize hR : S_X3_endClause o_faultNumber o_length o_faultPlace o_at o_bytes = RES at hF
  unfold S_X3_endClause at hR
  have hl : lv_has ls 1 [(0, .ref a_o)] := hl
  refine lv_aload_n hx hb dX3_endClause_0 rfl (lv_at hl 0 rfl) ?_
  refine fget E hP 0 rfl fd_X3_22 (v := .int o_faultNumber) rfl dX3_endClause_1 ?_
  refine lv_if_ne (tgt := 25) hx hb dX3_endClause_4 (by decide) (fun c_1 => ?_) (fun c_1 => ?_)
  · rw [if_neg c_1] at hR
    subst hR
    exact (hF _ _ _ _ hP hS).2.2.2 rfl rfl dX3_endClause_25
  · rw [if_pos c_1] at hR
    refine lv_aload_n hx hb dX3_endClause_7 rfl (lv_at hl 0 rfl) ?_
    refine lv_bipush (v := (59 : Int32)) hx hb dX3_endClause_8 (by decide) ?_
    have hC_10 := (c_X3_takes l D tB tI tZ a_o a_o_bytes o_length o_faultPlace o_faultNumber o_at o_numberPlace o_yearClauses o_knowsClauses o_otherClauses o_bytes (59 : Int32) (show o_length ≤ 500 by first | assumption | omega | exact NN.none | exact NN.nat (by omega) (by omega) | exact NN.up (by assumption) (by omega)) (show o_at ≤ o_length by first | assumption | omega | exact NN.none | exact NN.nat (by omega) (by omega) | exact NN.up (by assumption) (by omega)))
    generalize hu_10 : (S_X3_takes (59 : Int32) o_faultNumber o_length o_at o_bytes) = u_10 at hC_10 hR
    obtain ⟨r10_r, r10_o_at⟩ := u_10
    obtain ⟨hpa_10, hpb_10⟩ := takes_ok hu_10 (by omega)
    refine kcV E hl.1 hC_10 cv_X3_takes wm_X3_131 hP hD hS hA [0, 1] rfl rfl rfl (ws2 := [(a_o, .inr (3, [.ref a_o_bytes, .int (nI o_length), .int o_faultPlace, .int o_faultNumber, .int (nI r10_o_at), .int (nI o_numberPlace), .int o_yearClauses, .int o_knowsClauses, .int o_otherClauses])), (a_o_bytes, .inl (tB, 500, .inl o_bytes))]) rfl rfl (b := a_o) (As := [.int (59 : Int32)]) (rest := []) 0 3 rfl rfl rfl rfl (Nat.le_of_ble_eq_true rfl) ⟨Nat.le_of_ble_eq_true rfl, Nat.le_of_ble_eq_true rfl⟩ ⟨Nat.zero_le _, Nat.zero_le _⟩ dX3_endClause_10 (fun H locs hP hD hS => ?_)
    have hP : va_P D vwCl [(a_o, .inr (3, [.ref a_o_bytes, .int (nI o_length), .int o_faultPlace, .int o_faultNumber, .int (nI r10_o_at), .int (nI o_numberPlace), .int o_yearClauses, .int o_knowsClauses, .int o_otherClauses])), (a_o_bytes, .inl (tB, 500, .inl o_bytes))] H := hP
    have hD : va_D A [(a_o, .inr (3, [.ref a_o_bytes, .int (nI o_length), .int o_faultPlace, .int o_faultNumber, .int (nI r10_o_at), .int (nI o_numberPlace), .int o_yearClauses, .int o_knowsClauses, .int o_otherClauses])), (a_o_bytes, .inl (tB, 500, .inl o_bytes))] := hD
    have hR : K_X3_endClause_10 o_faultNumber o_faultPlace r10_r r10_o_at = RES := hR
    unfold K_X3_endClause_10 at hR
    refine lv_if_ne (tgt := 25) hx hb dX3_endClause_13 (by decide) (fun c_2 => ?_) (fun c_2 => ?_)
    · rw [if_neg c_2] at hR
      subst hR
      exact (hF _ _ _ _ hP hS).2.2.2 rfl rfl dX3_endClause_25
    · rw [if_pos c_2] at hR
      refine lv_aload_n hx hb dX3_endClause_16 rfl (lv_at hl 0 rfl) ?_
      refine lv_iconst (v := (1 : Int32)) hx hb dX3_endClause_17 (by decide) ?_
      refine lv_aload_n hx hb dX3_endClause_18 rfl (lv_at hl 0 rfl) ?_
      refine fget E hP 0 rfl fd_X3_25 (v := .int (nI r10_o_at)) rfl dX3_endClause_19 ?_
      have hC_22 := (c_X3_blame l D tB tI tZ a_o a_o_bytes o_length o_faultPlace o_faultNumber r10_o_at o_numberPlace o_yearClauses o_knowsClauses o_otherClauses (1 : Int32) (nI r10_o_at) )
      generalize hu_22 : (S_X3_blame (1 : Int32) (nI r10_o_at)) = u_22 at hC_22 hR
      obtain ⟨r22_o_faultNumber, r22_o_faultPlace⟩ := u_22
      refine kcV E hl.1 hC_22 cv_X3_blame wm_X3_64 hP hD hS hA [0] rfl rfl rfl (ws2 := [(a_o, .inr (3, [.ref a_o_bytes, .int (nI o_length), .int r22_o_faultPlace, .int r22_o_faultNumber, .int (nI r10_o_at), .int (nI o_numberPlace), .int o_yearClauses, .int o_knowsClauses, .int o_otherClauses])), (a_o_bytes, .inl (tB, 500, .inl o_bytes))]) rfl rfl (b := a_o) (As := [.int (1 : Int32), .int (nI r10_o_at)]) (rest := []) 0 3 rfl rfl rfl rfl (Nat.le_of_ble_eq_true rfl) ⟨Nat.le_of_ble_eq_true rfl, Nat.le_of_ble_eq_true rfl⟩ ⟨Nat.zero_le _, Nat.zero_le _⟩ dX3_endClause_22 (fun H locs hP hD hS => ?_)
      have hP : va_P D vwCl [(a_o, .inr (3, [.ref a_o_bytes, .int (nI o_length), .int r22_o_faultPlace, .int r22_o_faultNumber, .int (nI r10_o_at), .int (nI o_numberPlace), .int o_yearClauses, .int o_knowsClauses, .int o_otherClauses])), (a_o_bytes, .inl (tB, 500, .inl o_bytes))] H := hP
      have hD : va_D A [(a_o, .inr (3, [.ref a_o_bytes, .int (nI o_length), .int r22_o_faultPlace, .int r22_o_faultNumber, .int (nI r10_o_at), .int (nI o_numberPlace), .int o_yearClauses, .int o_knowsClauses, .int o_otherClauses])), (a_o_bytes, .inl (tB, 500, .inl o_bytes))] := hD
      have hR : K_X3_endClause_22 r10_o_at r22_o_faultNumber r22_o_faultPlace = RES := hR
      unfold K_X3_endClause_22 at hR
      subst hR
      exact (hF _ _ _ _ hP hS).2.2.2 rfl rfl dX3_endClause_25

theorem endClause_p {o_faultNumber o_faultPlace : Int32} {o_length o_at : Nat} {o_bytes : Nat → Int32} (h : o_at ≤ o_length) : o_at ≤ (S_X3_endClause o_faultNumber o_length o_faultPlace o_at o_bytes).1 ∧ (S_X3_endClause o_faultNumber o_length o_faultPlace o_at o_bytes).1 ≤ o_length := by
  unfold S_X3_endClause
  split
  · have ht := takes_p (x1 := (59 : Int32)) (o_faultNumber := o_faultNumber) (o_bytes := o_bytes) h
    generalize S_X3_takes (59 : Int32) o_faultNumber o_length o_at o_bytes = q at ht
    show o_at ≤ (K_X3_endClause_10 o_faultNumber o_faultPlace q.1 q.2).1 ∧ (K_X3_endClause_10 o_faultNumber o_faultPlace q.1 q.2).1 ≤ o_length
    unfold K_X3_endClause_10
    split <;> exact ht
  · exact ⟨Nat.le_refl _, h⟩
theorem endClause_ok {o_faultNumber o_faultPlace : Int32} {o_length o_at : Nat} {o_bytes : Nat → Int32} {a : Nat} {f g : Int32} (hu : S_X3_endClause o_faultNumber o_length o_faultPlace o_at o_bytes = (a, f, g)) (h : o_at ≤ o_length) : o_at ≤ a ∧ a ≤ o_length := by
  have := endClause_p (o_faultNumber := o_faultNumber) (o_faultPlace := o_faultPlace) (o_bytes := o_bytes) h
  rw [hu] at this
  exact this

def K_X3_readKnown_33 (x1_knowsAtFirst : Nat → Int32) (r33_o_faultNumber : Int32) (r33_o_faultPlace : Int32) : Int32 × Int32 × (Nat → Int32) := (r33_o_faultNumber, r33_o_faultPlace, x1_knowsAtFirst)
def S_X3_readKnown (x2 : Int32) (x3 : Int32) (x1_men : Nat) (o_numberPlace : Nat) (o_faultPlace : Int32) (o_faultNumber : Int32) (x1_knowsAtFirst : Nat → Int32) : Int32 × Int32 × (Nat → Int32) := (if (S_X1_hasMan x2 x1_men) = 0 then (o_faultNumber, o_faultPlace, x1_knowsAtFirst) else (if (nI x2.toNatClampNeg) = x3 then ((fun u => K_X3_readKnown_33 x1_knowsAtFirst u.1 u.2) (S_X3_blame (4 : Int32) (nI o_numberPlace))) else (if (S_X6_has (x1_knowsAtFirst x2.toNatClampNeg) x3) = 0 then (o_faultNumber, o_faultPlace, (upd x1_knowsAtFirst x2.toNatClampNeg ((x1_knowsAtFirst x2.toNatClampNeg) ||| (S_X6_bit x3)))) else ((fun u => K_X3_readKnown_33 x1_knowsAtFirst u.1 u.2) (S_X3_blame (4 : Int32) (nI o_numberPlace))))))
set_option maxHeartbeats 4000000 in
set_option maxRecDepth 100000 in
theorem c_X3_readKnown (l : Launch) (D : va_G) (tB tI tZ : ClassId) (a_x1 a_x1_forgets a_x1_weight a_x1_chance a_x1_knowsAtFirst a_x1_oxWeight a_x1_oxPrice a_o a_o_bytes : Nat) (x1_year : Int32) (x1_bridges : Nat) (x1_men : Nat) (x1_oxen : Nat) (o_length : Nat) (o_faultPlace : Int32) (o_faultNumber : Int32) (o_at : Nat) (o_numberPlace : Nat) (o_yearClauses : Int32) (o_knowsClauses : Int32) (o_otherClauses : Int32) (x1_knowsAtFirst : Nat → Int32) (x2 : Int32) (x3 : Int32) (hmen : x1_men ≤ 6) : CT l D (tyL tB tI tZ) yX3_readKnown (.code yX3_readKnown cX3_readKnown 4 none) 2 41 [.ref a_o, .ref a_x1, .int x2, .int x3] [(a_x1, .inr (1, [.int x1_year, .int (nI x1_bridges), .int (nI x1_men), .int (nI x1_oxen), .ref a_x1_forgets, .ref a_x1_weight, .ref a_x1_chance, .ref a_x1_knowsAtFirst, .ref a_x1_oxWeight, .ref a_x1_oxPrice])), (a_o, .inr (3, [.ref a_o_bytes, .int (nI o_length), .int o_faultPlace, .int o_faultNumber, .int (nI o_at), .int (nI o_numberPlace), .int o_yearClauses, .int o_knowsClauses, .int o_otherClauses])), (a_x1_knowsAtFirst, .inl (tI, 6, .inl x1_knowsAtFirst))] (fun _ : Int32 × Int32 × (Nat → Int32) => none) (fun u : Int32 × Int32 × (Nat → Int32) => [(a_x1, .inr (1, [.int x1_year, .int (nI x1_bridges), .int (nI x1_men), .int (nI x1_oxen), .ref a_x1_forgets, .ref a_x1_weight, .ref a_x1_chance, .ref a_x1_knowsAtFirst, .ref a_x1_oxWeight, .ref a_x1_oxPrice])), (a_o, .inr (3, [.ref a_o_bytes, .int (nI o_length), .int (u.2.1), .int (u.1), .int (nI o_at), .int (nI o_numberPlace), .int o_yearClauses, .int o_knowsClauses, .int o_otherClauses])), (a_x1_knowsAtFirst, .inl (tI, 6, .inl (u.2.2)))]) (S_X3_readKnown x2 x3 x1_men o_numberPlace o_faultPlace o_faultNumber x1_knowsAtFirst) := by
  refine CT.intro (k := 0) (Nat.le_of_ble_eq_true rfl) (by decide) ?_
  intro p e s m below meth c Q A ls E hA hP hD hS hl hF
  obtain ⟨⟨hx, hb, hml, hown, hts⟩, hK⟩ := id E
  generalize hR : S_X3_readKnown x2 x3 x1_men o_numberPlace o_faultPlace o_faultNumber x1_knowsAtFirst = RES at hF
  unfold S_X3_readKnown at hR
  have hl : lv_has ls 4 [(0, .ref a_o), (1, .ref a_x1), (2, .int x2), (3, .int x3)] := hl
  refine lv_aload_n hx hb dX3_readKnown_0 rfl (lv_at hl 1 rfl) ?_
  refine lv_iload_n hx hb dX3_readKnown_1 rfl (lv_at hl 2 rfl) ?_
  refine kcV E hl.1 (c_X1_hasMan l D tB tI tZ a_x1 a_x1_forgets a_x1_weight a_x1_chance a_x1_knowsAtFirst a_x1_oxWeight a_x1_oxPrice x1_year x1_bridges x1_men x1_oxen x2 ) cv_X1_hasMan wm_X3_135 hP hD hS hA [0] rfl rfl rfl (ws2 := [(a_x1, .inr (1, [.int x1_year, .int (nI x1_bridges), .int (nI x1_men), .int (nI x1_oxen), .ref a_x1_forgets, .ref a_x1_weight, .ref a_x1_chance, .ref a_x1_knowsAtFirst, .ref a_x1_oxWeight, .ref a_x1_oxPrice])), (a_o, .inr (3, [.ref a_o_bytes, .int (nI o_length), .int o_faultPlace, .int o_faultNumber, .int (nI o_at), .int (nI o_numberPlace), .int o_yearClauses, .int o_knowsClauses, .int o_otherClauses])), (a_x1_knowsAtFirst, .inl (tI, 6, .inl x1_knowsAtFirst))]) rfl rfl (b := a_x1) (As := [.int x2]) (rest := []) 0 1 rfl rfl rfl rfl (Nat.le_of_ble_eq_true rfl) ⟨Nat.le_of_ble_eq_true rfl, Nat.le_of_ble_eq_true rfl⟩ ⟨Nat.zero_le _, Nat.zero_le _⟩ dX3_readKnown_2 (fun H locs hP hD hS => ?_)
  refine lv_if_ne (tgt := 9) hx hb dX3_readKnown_5 (by decide) (fun c_1 => ?_) (fun c_1 => ?_)
  · rw [if_neg c_1] at hR
    obtain ⟨fa_c_1, fb_c_1⟩ := hasMan_of c_1 (by omega)
    refine lv_iload_n hx hb dX3_readKnown_9 rfl (lv_at hl 2 rfl) ?_
    refine lv_is fa_c_1 ?_
    refine lv_iload_n hx hb dX3_readKnown_10 rfl (lv_at hl 3 rfl) ?_
    refine lv_icmp_eq (tgt := 27) hx hb dX3_readKnown_11 (by decide) (fun c_2 => ?_) (fun c_2 => ?_)
    · rw [if_pos c_2] at hR
      refine lv_aload_n hx hb dX3_readKnown_27 rfl (lv_at hl 0 rfl) ?_
      refine lv_iconst (v := (4 : Int32)) hx hb dX3_readKnown_28 (by decide) ?_
      refine lv_aload_n hx hb dX3_readKnown_29 rfl (lv_at hl 0 rfl) ?_
      refine fget E hP 1 rfl fd_X3_28 (v := .int (nI o_numberPlace)) rfl dX3_readKnown_30 ?_
      have hC_33 := (c_X3_blame l D tB tI tZ a_o a_o_bytes o_length o_faultPlace o_faultNumber o_at o_numberPlace o_yearClauses o_knowsClauses o_otherClauses (4 : Int32) (nI o_numberPlace) )
      generalize hu_33 : (S_X3_blame (4 : Int32) (nI o_numberPlace)) = u_33 at hC_33 hR
      obtain ⟨r33_o_faultNumber, r33_o_faultPlace⟩ := u_33
      refine kcV E hl.1 hC_33 cv_X3_blame wm_X3_64 hP hD hS hA [1] rfl rfl rfl (ws2 := [(a_x1, .inr (1, [.int x1_year, .int (nI x1_bridges), .int (nI x1_men), .int (nI x1_oxen), .ref a_x1_forgets, .ref a_x1_weight, .ref a_x1_chance, .ref a_x1_knowsAtFirst, .ref a_x1_oxWeight, .ref a_x1_oxPrice])), (a_o, .inr (3, [.ref a_o_bytes, .int (nI o_length), .int r33_o_faultPlace, .int r33_o_faultNumber, .int (nI o_at), .int (nI o_numberPlace), .int o_yearClauses, .int o_knowsClauses, .int o_otherClauses])), (a_x1_knowsAtFirst, .inl (tI, 6, .inl x1_knowsAtFirst))]) rfl rfl (b := a_o) (As := [.int (4 : Int32), .int (nI o_numberPlace)]) (rest := []) 0 3 rfl rfl rfl rfl (Nat.le_of_ble_eq_true rfl) ⟨Nat.le_of_ble_eq_true rfl, Nat.le_of_ble_eq_true rfl⟩ ⟨Nat.zero_le _, Nat.zero_le _⟩ dX3_readKnown_33 (fun H locs hP hD hS => ?_)
      have hP : va_P D vwCl [(a_x1, .inr (1, [.int x1_year, .int (nI x1_bridges), .int (nI x1_men), .int (nI x1_oxen), .ref a_x1_forgets, .ref a_x1_weight, .ref a_x1_chance, .ref a_x1_knowsAtFirst, .ref a_x1_oxWeight, .ref a_x1_oxPrice])), (a_o, .inr (3, [.ref a_o_bytes, .int (nI o_length), .int r33_o_faultPlace, .int r33_o_faultNumber, .int (nI o_at), .int (nI o_numberPlace), .int o_yearClauses, .int o_knowsClauses, .int o_otherClauses])), (a_x1_knowsAtFirst, .inl (tI, 6, .inl x1_knowsAtFirst))] H := hP
      have hD : va_D A [(a_x1, .inr (1, [.int x1_year, .int (nI x1_bridges), .int (nI x1_men), .int (nI x1_oxen), .ref a_x1_forgets, .ref a_x1_weight, .ref a_x1_chance, .ref a_x1_knowsAtFirst, .ref a_x1_oxWeight, .ref a_x1_oxPrice])), (a_o, .inr (3, [.ref a_o_bytes, .int (nI o_length), .int r33_o_faultPlace, .int r33_o_faultNumber, .int (nI o_at), .int (nI o_numberPlace), .int o_yearClauses, .int o_knowsClauses, .int o_otherClauses])), (a_x1_knowsAtFirst, .inl (tI, 6, .inl x1_knowsAtFirst))] := hD
      have hR : K_X3_readKnown_33 x1_knowsAtFirst r33_o_faultNumber r33_o_faultPlace = RES := hR
      unfold K_X3_readKnown_33 at hR
      refine lv_goto (tgt := 52) hx hb dX3_readKnown_36 (by decide) ?_
      subst hR
      exact (hF _ _ _ _ hP hS).2.2.2 rfl rfl dX3_readKnown_52
    · rw [if_neg c_2] at hR
      refine lv_aload_n hx hb dX3_readKnown_14 rfl (lv_at hl 1 rfl) ?_
      refine fget E hP 0 rfl fd_X3_139 (v := .ref a_x1_knowsAtFirst) rfl dX3_readKnown_15 ?_
      refine lv_iload_n hx hb dX3_readKnown_18 rfl (lv_at hl 2 rfl) ?_
      refine lv_is fa_c_1 ?_
      refine ild E hP 2 rfl (k := x2.toNatClampNeg) (by omega) (by decide) dX3_readKnown_19 ?_
      refine lv_iload_n hx hb dX3_readKnown_20 rfl (lv_at hl 3 rfl) ?_
      refine kcSN E hl.1 (c_X6_has l D tB tI tZ (x1_knowsAtFirst x2.toNatClampNeg) x3 ) cs_X6_has 3 rfl hP hD hS hA [] rfl rfl rfl (ws2 := [(a_x1, .inr (1, [.int x1_year, .int (nI x1_bridges), .int (nI x1_men), .int (nI x1_oxen), .ref a_x1_forgets, .ref a_x1_weight, .ref a_x1_chance, .ref a_x1_knowsAtFirst, .ref a_x1_oxWeight, .ref a_x1_oxPrice])), (a_o, .inr (3, [.ref a_o_bytes, .int (nI o_length), .int o_faultPlace, .int o_faultNumber, .int (nI o_at), .int (nI o_numberPlace), .int o_yearClauses, .int o_knowsClauses, .int o_otherClauses])), (a_x1_knowsAtFirst, .inl (tI, 6, .inl x1_knowsAtFirst))]) rfl rfl (As := [.int (x1_knowsAtFirst x2.toNatClampNeg), .int x3]) (rest := []) rfl rfl (Nat.le_of_ble_eq_true rfl) ⟨Nat.le_of_ble_eq_true rfl, Nat.le_of_ble_eq_true rfl⟩ ⟨Nat.zero_le _, Nat.zero_le _⟩ dX3_readKnown_21 (fun H locs hP hD hS => ?_)
      refine lv_if_eq (tgt := 39) hx hb dX3_readKnown_24 (by decide) (fun c_3 => ?_) (fun c_3 => ?_)
      · rw [if_pos c_3] at hR
        refine lv_aload_n hx hb dX3_readKnown_39 rfl (lv_at hl 1 rfl) ?_
        refine fget E hP 0 rfl fd_X3_139 (v := .ref a_x1_knowsAtFirst) rfl dX3_readKnown_40 ?_
        refine lv_iload_n hx hb dX3_readKnown_43 rfl (lv_at hl 2 rfl) ?_
        refine lv_is fa_c_1 ?_
        refine lv_dup2_11 hx hb dX3_readKnown_44 rfl rfl ?_
        refine ild E hP 2 rfl (k := x2.toNatClampNeg) (by omega) (by decide) dX3_readKnown_45 ?_
        refine lv_iload_n hx hb dX3_readKnown_46 rfl (lv_at hl 3 rfl) ?_
        refine kcSN E hl.1 (c_X6_bit l D tB tI tZ x3 ) cs_X6_bit 4 rfl hP hD hS hA [] rfl rfl rfl (ws2 := [(a_x1, .inr (1, [.int x1_year, .int (nI x1_bridges), .int (nI x1_men), .int (nI x1_oxen), .ref a_x1_forgets, .ref a_x1_weight, .ref a_x1_chance, .ref a_x1_knowsAtFirst, .ref a_x1_oxWeight, .ref a_x1_oxPrice])), (a_o, .inr (3, [.ref a_o_bytes, .int (nI o_length), .int o_faultPlace, .int o_faultNumber, .int (nI o_at), .int (nI o_numberPlace), .int o_yearClauses, .int o_knowsClauses, .int o_otherClauses])), (a_x1_knowsAtFirst, .inl (tI, 6, .inl x1_knowsAtFirst))]) rfl rfl (As := [.int x3]) (rest := [.int (x1_knowsAtFirst x2.toNatClampNeg), .int (nI x2.toNatClampNeg), .ref a_x1_knowsAtFirst]) rfl rfl (Nat.le_of_ble_eq_true rfl) ⟨Nat.le_of_ble_eq_true rfl, Nat.le_of_ble_eq_true rfl⟩ ⟨Nat.zero_le _, Nat.zero_le _⟩ dX3_readKnown_47 (fun H locs hP hD hS => ?_)
        refine lv_ior hx hb dX3_readKnown_50 ?_
        refine ist E hP hD hS 2 rfl (k := x2.toNatClampNeg) (by omega) (by decide) dX3_readKnown_51 (fun H locs hP hD hS => ?_)
        have hP : va_P D vwCl [(a_x1, .inr (1, [.int x1_year, .int (nI x1_bridges), .int (nI x1_men), .int (nI x1_oxen), .ref a_x1_forgets, .ref a_x1_weight, .ref a_x1_chance, .ref a_x1_knowsAtFirst, .ref a_x1_oxWeight, .ref a_x1_oxPrice])), (a_o, .inr (3, [.ref a_o_bytes, .int (nI o_length), .int o_faultPlace, .int o_faultNumber, .int (nI o_at), .int (nI o_numberPlace), .int o_yearClauses, .int o_knowsClauses, .int o_otherClauses])), (a_x1_knowsAtFirst, .inl (tI, 6, .inl (upd x1_knowsAtFirst x2.toNatClampNeg ((x1_knowsAtFirst x2.toNatClampNeg) ||| (S_X6_bit x3)))))] H := hP
        have hD : va_D A [(a_x1, .inr (1, [.int x1_year, .int (nI x1_bridges), .int (nI x1_men), .int (nI x1_oxen), .ref a_x1_forgets, .ref a_x1_weight, .ref a_x1_chance, .ref a_x1_knowsAtFirst, .ref a_x1_oxWeight, .ref a_x1_oxPrice])), (a_o, .inr (3, [.ref a_o_bytes, .int (nI o_length), .int o_faultPlace, .int o_faultNumber, .int (nI o_at), .int (nI o_numberPlace), .int o_yearClauses, .int o_knowsClauses, .int o_otherClauses])), (a_x1_knowsAtFirst, .inl (tI, 6, .inl (upd x1_knowsAtFirst x2.toNatClampNeg ((x1_knowsAtFirst x2.toNatClampNeg) ||| (S_X6_bit x3)))))] := hD
        subst hR
        exact (hF _ _ _ _ hP hS).2.2.2 rfl rfl dX3_readKnown_52
      · rw [if_neg c_3] at hR
        refine lv_aload_n hx hb dX3_readKnown_27 rfl (lv_at hl 0 rfl) ?_
        refine lv_iconst (v := (4 : Int32)) hx hb dX3_readKnown_28 (by decide) ?_
        refine lv_aload_n hx hb dX3_readKnown_29 rfl (lv_at hl 0 rfl) ?_
        refine fget E hP 1 rfl fd_X3_28 (v := .int (nI o_numberPlace)) rfl dX3_readKnown_30 ?_
        have hC_33 := (c_X3_blame l D tB tI tZ a_o a_o_bytes o_length o_faultPlace o_faultNumber o_at o_numberPlace o_yearClauses o_knowsClauses o_otherClauses (4 : Int32) (nI o_numberPlace) )
        generalize hu_33 : (S_X3_blame (4 : Int32) (nI o_numberPlace)) = u_33 at hC_33 hR
        obtain ⟨r33_o_faultNumber, r33_o_faultPlace⟩ := u_33
        refine kcV E hl.1 hC_33 cv_X3_blame wm_X3_64 hP hD hS hA [1] rfl rfl rfl (ws2 := [(a_x1, .inr (1, [.int x1_year, .int (nI x1_bridges), .int (nI x1_men), .int (nI x1_oxen), .ref a_x1_forgets, .ref a_x1_weight, .ref a_x1_chance, .ref a_x1_knowsAtFirst, .ref a_x1_oxWeight, .ref a_x1_oxPrice])), (a_o, .inr (3, [.ref a_o_bytes, .int (nI o_length), .int r33_o_faultPlace, .int r33_o_faultNumber, .int (nI o_at), .int (nI o_numberPlace), .int o_yearClauses, .int o_knowsClauses, .int o_otherClauses])), (a_x1_knowsAtFirst, .inl (tI, 6, .inl x1_knowsAtFirst))]) rfl rfl (b := a_o) (As := [.int (4 : Int32), .int (nI o_numberPlace)]) (rest := []) 0 3 rfl rfl rfl rfl (Nat.le_of_ble_eq_true rfl) ⟨Nat.le_of_ble_eq_true rfl, Nat.le_of_ble_eq_true rfl⟩ ⟨Nat.zero_le _, Nat.zero_le _⟩ dX3_readKnown_33 (fun H locs hP hD hS => ?_)
        have hP : va_P D vwCl [(a_x1, .inr (1, [.int x1_year, .int (nI x1_bridges), .int (nI x1_men), .int (nI x1_oxen), .ref a_x1_forgets, .ref a_x1_weight, .ref a_x1_chance, .ref a_x1_knowsAtFirst, .ref a_x1_oxWeight, .ref a_x1_oxPrice])), (a_o, .inr (3, [.ref a_o_bytes, .int (nI o_length), .int r33_o_faultPlace, .int r33_o_faultNumber, .int (nI o_at), .int (nI o_numberPlace), .int o_yearClauses, .int o_knowsClauses, .int o_otherClauses])), (a_x1_knowsAtFirst, .inl (tI, 6, .inl x1_knowsAtFirst))] H := hP
        have hD : va_D A [(a_x1, .inr (1, [.int x1_year, .int (nI x1_bridges), .int (nI x1_men), .int (nI x1_oxen), .ref a_x1_forgets, .ref a_x1_weight, .ref a_x1_chance, .ref a_x1_knowsAtFirst, .ref a_x1_oxWeight, .ref a_x1_oxPrice])), (a_o, .inr (3, [.ref a_o_bytes, .int (nI o_length), .int r33_o_faultPlace, .int r33_o_faultNumber, .int (nI o_at), .int (nI o_numberPlace), .int o_yearClauses, .int o_knowsClauses, .int o_otherClauses])), (a_x1_knowsAtFirst, .inl (tI, 6, .inl x1_knowsAtFirst))] := hD
        have hR : K_X3_readKnown_33 x1_knowsAtFirst r33_o_faultNumber r33_o_faultPlace = RES := hR
        unfold K_X3_readKnown_33 at hR
        refine lv_goto (tgt := 52) hx hb dX3_readKnown_36 (by decide) ?_
        subst hR
        exact (hF _ _ _ _ hP hS).2.2.2 rfl rfl dX3_readKnown_52
  · rw [if_pos c_1] at hR
    subst hR
    exact (hF _ _ _ _ hP hS).2.2.2 rfl rfl dX3_readKnown_8

def S_X3_whyNot (x1 : Int32) (o_otherClauses : Int32) (o_yearClauses : Int32) (o_knowsClauses : Int32) (x2_bridges : Nat) (x2_men : Nat) (x2_oxen : Nat) : Int32 := (if x1 = (1 : Int32) then (if o_otherClauses ≤ 0 then (S_X3_overMost o_yearClauses (1 : Int32)) else (1 : Int32)) else (if x1 = (2 : Int32) then (S_X3_overMost (nI x2_bridges) (5 : Int32)) else (if x1 = (3 : Int32) then (S_X3_overMost (nI x2_men) (6 : Int32)) else (if x1 = (4 : Int32) then (S_X3_overMost o_knowsClauses (12 : Int32)) else (if x1 = (5 : Int32) then (S_X3_overMost (nI x2_oxen) (5 : Int32)) else (1 : Int32))))))
set_option maxHeartbeats 4000000 in
set_option maxRecDepth 100000 in
theorem c_X3_whyNot (l : Launch) (D : va_G) (tB tI tZ : ClassId) (a_o a_o_bytes a_x2 a_x2_forgets a_x2_weight a_x2_chance a_x2_knowsAtFirst a_x2_oxWeight a_x2_oxPrice : Nat) (o_length : Nat) (o_faultPlace : Int32) (o_faultNumber : Int32) (o_at : Nat) (o_numberPlace : Nat) (o_yearClauses : Int32) (o_knowsClauses : Int32) (o_otherClauses : Int32) (x2_year : Int32) (x2_bridges : Nat) (x2_men : Nat) (x2_oxen : Nat) (x1 : Int32)  : CT l D (tyL tB tI tZ) yX3_whyNot (.code yX3_whyNot cX3_whyNot 3 (some .int)) 1 21 [.ref a_o, .int x1, .ref a_x2] [(a_o, .inr (3, [.ref a_o_bytes, .int (nI o_length), .int o_faultPlace, .int o_faultNumber, .int (nI o_at), .int (nI o_numberPlace), .int o_yearClauses, .int o_knowsClauses, .int o_otherClauses])), (a_x2, .inr (1, [.int x2_year, .int (nI x2_bridges), .int (nI x2_men), .int (nI x2_oxen), .ref a_x2_forgets, .ref a_x2_weight, .ref a_x2_chance, .ref a_x2_knowsAtFirst, .ref a_x2_oxWeight, .ref a_x2_oxPrice]))] (fun u : Int32 => some (.int (u))) (fun _ : Int32 => [(a_o, .inr (3, [.ref a_o_bytes, .int (nI o_length), .int o_faultPlace, .int o_faultNumber, .int (nI o_at), .int (nI o_numberPlace), .int o_yearClauses, .int o_knowsClauses, .int o_otherClauses])), (a_x2, .inr (1, [.int x2_year, .int (nI x2_bridges), .int (nI x2_men), .int (nI x2_oxen), .ref a_x2_forgets, .ref a_x2_weight, .ref a_x2_chance, .ref a_x2_knowsAtFirst, .ref a_x2_oxWeight, .ref a_x2_oxPrice]))]) (S_X3_whyNot x1 o_otherClauses o_yearClauses o_knowsClauses x2_bridges x2_men x2_oxen) := by
  refine CT.intro (k := 0) (Nat.le_of_ble_eq_true rfl) (by decide) ?_
  intro p e s m below meth c Q A ls E hA hP hD hS hl hF
  obtain ⟨⟨hx, hb, hml, hown, hts⟩, hK⟩ := id E
  generalize hR : S_X3_whyNot x1 o_otherClauses o_yearClauses o_knowsClauses x2_bridges x2_men x2_oxen = RES at hF
  unfold S_X3_whyNot at hR
  have hl : lv_has ls 3 [(0, .ref a_o), (1, .int x1), (2, .ref a_x2)] := hl
  refine lv_iload_n hx hb dX3_whyNot_0 rfl (lv_at hl 1 rfl) ?_
  by_cases c_1 : x1 = (1 : Int32)
  · rw [if_pos c_1] at hR
    refine lv_is c_1 ?_
    refine lv_tableIn (tgt := 36) hx hb dX3_whyNot_1 (by decide) (by decide) rfl (by decide) ?_
    refine lv_aload_n hx hb dX3_whyNot_36 rfl (lv_at hl 0 rfl) ?_
    refine fget E hP 0 rfl fd_X3_37 (v := .int o_otherClauses) rfl dX3_whyNot_37 ?_
    refine lv_if_le (tgt := 47) hx hb dX3_whyNot_40 (by decide) (fun c_2 => ?_) (fun c_2 => ?_)
    · rw [if_pos c_2] at hR
      refine lv_aload_n hx hb dX3_whyNot_47 rfl (lv_at hl 0 rfl) ?_
      refine fget E hP 0 rfl fd_X3_31 (v := .int o_yearClauses) rfl dX3_whyNot_48 ?_
      refine lv_iconst (v := (1 : Int32)) hx hb dX3_whyNot_51 (by decide) ?_
      refine kcS E hl.1 (c_X3_overMost l D tB tI tZ o_yearClauses (1 : Int32) ) cs_X3_overMost wm_X3_97 hP hD hS hA [] rfl rfl rfl (ws2 := [(a_o, .inr (3, [.ref a_o_bytes, .int (nI o_length), .int o_faultPlace, .int o_faultNumber, .int (nI o_at), .int (nI o_numberPlace), .int o_yearClauses, .int o_knowsClauses, .int o_otherClauses])), (a_x2, .inr (1, [.int x2_year, .int (nI x2_bridges), .int (nI x2_men), .int (nI x2_oxen), .ref a_x2_forgets, .ref a_x2_weight, .ref a_x2_chance, .ref a_x2_knowsAtFirst, .ref a_x2_oxWeight, .ref a_x2_oxPrice]))]) rfl rfl (As := [.int o_yearClauses, .int (1 : Int32)]) (rest := []) rfl rfl (Nat.le_of_ble_eq_true rfl) ⟨Nat.le_of_ble_eq_true rfl, Nat.le_of_ble_eq_true rfl⟩ ⟨Nat.zero_le _, Nat.zero_le _⟩ dX3_whyNot_52 (fun H locs hP hD hS => ?_)
      subst hR
      exact (hF _ _ _ _ hP hS).1 _ rfl ⟨.int, rfl, rfl⟩ dX3_whyNot_55
    · rw [if_neg c_2] at hR
      refine lv_iconst (v := (1 : Int32)) hx hb dX3_whyNot_43 (by decide) ?_
      refine lv_goto (tgt := 55) hx hb dX3_whyNot_44 (by decide) ?_
      subst hR
      exact (hF _ _ _ _ hP hS).1 _ rfl ⟨.int, rfl, rfl⟩ dX3_whyNot_55
  rw [if_neg c_1] at hR
  by_cases c_3 : x1 = (2 : Int32)
  · rw [if_pos c_3] at hR
    refine lv_is c_3 ?_
    refine lv_tableIn (tgt := 56) hx hb dX3_whyNot_1 (by decide) (by decide) rfl (by decide) ?_
    refine lv_aload_n hx hb dX3_whyNot_56 rfl (lv_at hl 2 rfl) ?_
    refine fget E hP 1 rfl fd_X3_100 (v := .int (nI x2_bridges)) rfl dX3_whyNot_57 ?_
    refine lv_iconst (v := (5 : Int32)) hx hb dX3_whyNot_60 (by decide) ?_
    refine kcS E hl.1 (c_X3_overMost l D tB tI tZ (nI x2_bridges) (5 : Int32) ) cs_X3_overMost wm_X3_97 hP hD hS hA [] rfl rfl rfl (ws2 := [(a_o, .inr (3, [.ref a_o_bytes, .int (nI o_length), .int o_faultPlace, .int o_faultNumber, .int (nI o_at), .int (nI o_numberPlace), .int o_yearClauses, .int o_knowsClauses, .int o_otherClauses])), (a_x2, .inr (1, [.int x2_year, .int (nI x2_bridges), .int (nI x2_men), .int (nI x2_oxen), .ref a_x2_forgets, .ref a_x2_weight, .ref a_x2_chance, .ref a_x2_knowsAtFirst, .ref a_x2_oxWeight, .ref a_x2_oxPrice]))]) rfl rfl (As := [.int (nI x2_bridges), .int (5 : Int32)]) (rest := []) rfl rfl (Nat.le_of_ble_eq_true rfl) ⟨Nat.le_of_ble_eq_true rfl, Nat.le_of_ble_eq_true rfl⟩ ⟨Nat.zero_le _, Nat.zero_le _⟩ dX3_whyNot_61 (fun H locs hP hD hS => ?_)
    subst hR
    exact (hF _ _ _ _ hP hS).1 _ rfl ⟨.int, rfl, rfl⟩ dX3_whyNot_64
  rw [if_neg c_3] at hR
  by_cases c_4 : x1 = (3 : Int32)
  · rw [if_pos c_4] at hR
    refine lv_is c_4 ?_
    refine lv_tableIn (tgt := 65) hx hb dX3_whyNot_1 (by decide) (by decide) rfl (by decide) ?_
    refine lv_aload_n hx hb dX3_whyNot_65 rfl (lv_at hl 2 rfl) ?_
    refine fget E hP 1 rfl fd_X3_103 (v := .int (nI x2_men)) rfl dX3_whyNot_66 ?_
    refine lv_bipush (v := (6 : Int32)) hx hb dX3_whyNot_69 (by decide) ?_
    refine kcS E hl.1 (c_X3_overMost l D tB tI tZ (nI x2_men) (6 : Int32) ) cs_X3_overMost wm_X3_97 hP hD hS hA [] rfl rfl rfl (ws2 := [(a_o, .inr (3, [.ref a_o_bytes, .int (nI o_length), .int o_faultPlace, .int o_faultNumber, .int (nI o_at), .int (nI o_numberPlace), .int o_yearClauses, .int o_knowsClauses, .int o_otherClauses])), (a_x2, .inr (1, [.int x2_year, .int (nI x2_bridges), .int (nI x2_men), .int (nI x2_oxen), .ref a_x2_forgets, .ref a_x2_weight, .ref a_x2_chance, .ref a_x2_knowsAtFirst, .ref a_x2_oxWeight, .ref a_x2_oxPrice]))]) rfl rfl (As := [.int (nI x2_men), .int (6 : Int32)]) (rest := []) rfl rfl (Nat.le_of_ble_eq_true rfl) ⟨Nat.le_of_ble_eq_true rfl, Nat.le_of_ble_eq_true rfl⟩ ⟨Nat.zero_le _, Nat.zero_le _⟩ dX3_whyNot_71 (fun H locs hP hD hS => ?_)
    subst hR
    exact (hF _ _ _ _ hP hS).1 _ rfl ⟨.int, rfl, rfl⟩ dX3_whyNot_74
  rw [if_neg c_4] at hR
  by_cases c_5 : x1 = (4 : Int32)
  · rw [if_pos c_5] at hR
    refine lv_is c_5 ?_
    refine lv_tableIn (tgt := 75) hx hb dX3_whyNot_1 (by decide) (by decide) rfl (by decide) ?_
    refine lv_aload_n hx hb dX3_whyNot_75 rfl (lv_at hl 0 rfl) ?_
    refine fget E hP 0 rfl fd_X3_34 (v := .int o_knowsClauses) rfl dX3_whyNot_76 ?_
    refine lv_bipush (v := (12 : Int32)) hx hb dX3_whyNot_79 (by decide) ?_
    refine kcS E hl.1 (c_X3_overMost l D tB tI tZ o_knowsClauses (12 : Int32) ) cs_X3_overMost wm_X3_97 hP hD hS hA [] rfl rfl rfl (ws2 := [(a_o, .inr (3, [.ref a_o_bytes, .int (nI o_length), .int o_faultPlace, .int o_faultNumber, .int (nI o_at), .int (nI o_numberPlace), .int o_yearClauses, .int o_knowsClauses, .int o_otherClauses])), (a_x2, .inr (1, [.int x2_year, .int (nI x2_bridges), .int (nI x2_men), .int (nI x2_oxen), .ref a_x2_forgets, .ref a_x2_weight, .ref a_x2_chance, .ref a_x2_knowsAtFirst, .ref a_x2_oxWeight, .ref a_x2_oxPrice]))]) rfl rfl (As := [.int o_knowsClauses, .int (12 : Int32)]) (rest := []) rfl rfl (Nat.le_of_ble_eq_true rfl) ⟨Nat.le_of_ble_eq_true rfl, Nat.le_of_ble_eq_true rfl⟩ ⟨Nat.zero_le _, Nat.zero_le _⟩ dX3_whyNot_81 (fun H locs hP hD hS => ?_)
    subst hR
    exact (hF _ _ _ _ hP hS).1 _ rfl ⟨.int, rfl, rfl⟩ dX3_whyNot_84
  rw [if_neg c_5] at hR
  by_cases c_6 : x1 = (5 : Int32)
  · rw [if_pos c_6] at hR
    refine lv_is c_6 ?_
    refine lv_tableIn (tgt := 85) hx hb dX3_whyNot_1 (by decide) (by decide) rfl (by decide) ?_
    refine lv_aload_n hx hb dX3_whyNot_85 rfl (lv_at hl 2 rfl) ?_
    refine fget E hP 1 rfl fd_X3_106 (v := .int (nI x2_oxen)) rfl dX3_whyNot_86 ?_
    refine lv_iconst (v := (5 : Int32)) hx hb dX3_whyNot_89 (by decide) ?_
    refine kcS E hl.1 (c_X3_overMost l D tB tI tZ (nI x2_oxen) (5 : Int32) ) cs_X3_overMost wm_X3_97 hP hD hS hA [] rfl rfl rfl (ws2 := [(a_o, .inr (3, [.ref a_o_bytes, .int (nI o_length), .int o_faultPlace, .int o_faultNumber, .int (nI o_at), .int (nI o_numberPlace), .int o_yearClauses, .int o_knowsClauses, .int o_otherClauses])), (a_x2, .inr (1, [.int x2_year, .int (nI x2_bridges), .int (nI x2_men), .int (nI x2_oxen), .ref a_x2_forgets, .ref a_x2_weight, .ref a_x2_chance, .ref a_x2_knowsAtFirst, .ref a_x2_oxWeight, .ref a_x2_oxPrice]))]) rfl rfl (As := [.int (nI x2_oxen), .int (5 : Int32)]) (rest := []) rfl rfl (Nat.le_of_ble_eq_true rfl) ⟨Nat.le_of_ble_eq_true rfl, Nat.le_of_ble_eq_true rfl⟩ ⟨Nat.zero_le _, Nat.zero_le _⟩ dX3_whyNot_90 (fun H locs hP hD hS => ?_)
    subst hR
    exact (hF _ _ _ _ hP hS).1 _ rfl ⟨.int, rfl, rfl⟩ dX3_whyNot_93
  rw [if_neg c_6] at hR
  refine lv_tableOut (tgt := 94) hx hb dX3_whyNot_1 (sw_out_1_5 c_1 c_3 c_4 c_5 c_6) (by decide) ?_
  refine lv_iconst (v := (1 : Int32)) hx hb dX3_whyNot_94 (by decide) ?_
  subst hR
  exact (hF _ _ _ _ hP hS).1 _ rfl ⟨.int, rfl, rfl⟩ dX3_whyNot_95

def K_X3_readYear_19 (o_yearClauses : Int32) (r14_r : Int32) (r14_o_numberPlace : Nat) (r19_o_at : Nat) (r19_o_faultNumber : Int32) (r19_o_faultPlace : Int32) : Int32 × Nat × Nat × Int32 × Int32 × Int32 := ((o_yearClauses + (1 : Int32)), r19_o_at, r14_o_numberPlace, r19_o_faultNumber, r19_o_faultPlace, r14_r)
def K_X3_readYear_14 (o_yearClauses : Int32) (o_length : Nat) (o_bytes : Nat → Int32) (r14_r : Int32) (r14_o_at : Nat) (r14_o_numberPlace : Nat) (r14_o_faultNumber : Int32) (r14_o_faultPlace : Int32) : Int32 × Nat × Nat × Int32 × Int32 × Int32 := ((fun u => K_X3_readYear_19 o_yearClauses r14_r r14_o_numberPlace u.1 u.2.1 u.2.2) (S_X3_endClause r14_o_faultNumber o_length r14_o_faultPlace r14_o_at o_bytes))
def S_X3_readYear (o_yearClauses : Int32) (o_length : Nat) (o_faultPlace : Int32) (o_faultNumber : Int32) (o_at : Nat) (o_numberPlace : Nat) (o_bytes : Nat → Int32) : Int32 × Nat × Nat × Int32 × Int32 × Int32 := ((fun u => K_X3_readYear_14 o_yearClauses o_length o_bytes u.1 u.2.1 u.2.2.1 u.2.2.2.1 u.2.2.2.2) (S_X3_number (1 : Int32) (99 : Int32) o_faultNumber o_length o_faultPlace o_at o_numberPlace o_bytes))
set_option maxHeartbeats 4000000 in
set_option maxRecDepth 100000 in
theorem c_X3_readYear (l : Launch) (D : va_G) (tB tI tZ : ClassId) (a_o a_o_bytes a_x1 a_x1_forgets a_x1_weight a_x1_chance a_x1_knowsAtFirst a_x1_oxWeight a_x1_oxPrice : Nat) (o_length : Nat) (o_faultPlace : Int32) (o_faultNumber : Int32) (o_at : Nat) (o_numberPlace : Nat) (o_yearClauses : Int32) (o_knowsClauses : Int32) (o_otherClauses : Int32) (o_bytes : Nat → Int32) (x1_year : Int32) (x1_bridges : Nat) (x1_men : Nat) (x1_oxen : Nat)  (hlen : o_length ≤ 500) (hat : o_at ≤ o_length) (hbr : x1_bridges ≤ 5) (hmen : x1_men ≤ 6) (hox : x1_oxen ≤ 5) : CT l D (tyL tB tI tZ) yX3_readYear (.code yX3_readYear cX3_readYear 3 none) 3 61 [.ref a_o, .ref a_x1] [(a_o, .inr (3, [.ref a_o_bytes, .int (nI o_length), .int o_faultPlace, .int o_faultNumber, .int (nI o_at), .int (nI o_numberPlace), .int o_yearClauses, .int o_knowsClauses, .int o_otherClauses])), (a_o_bytes, .inl (tB, 500, .inl o_bytes)), (a_x1, .inr (1, [.int x1_year, .int (nI x1_bridges), .int (nI x1_men), .int (nI x1_oxen), .ref a_x1_forgets, .ref a_x1_weight, .ref a_x1_chance, .ref a_x1_knowsAtFirst, .ref a_x1_oxWeight, .ref a_x1_oxPrice]))] (fun _ : Int32 × Nat × Nat × Int32 × Int32 × Int32 => none) (fun u : Int32 × Nat × Nat × Int32 × Int32 × Int32 => [(a_o, .inr (3, [.ref a_o_bytes, .int (nI o_length), .int (u.2.2.2.2.1), .int (u.2.2.2.1), .int (nI (u.2.1)), .int (nI (u.2.2.1)), .int (u.1), .int o_knowsClauses, .int o_otherClauses])), (a_o_bytes, .inl (tB, 500, .inl o_bytes)), (a_x1, .inr (1, [.int (u.2.2.2.2.2), .int (nI x1_bridges), .int (nI x1_men), .int (nI x1_oxen), .ref a_x1_forgets, .ref a_x1_weight, .ref a_x1_chance, .ref a_x1_knowsAtFirst, .ref a_x1_oxWeight, .ref a_x1_oxPrice]))]) (S_X3_readYear o_yearClauses o_length o_faultPlace o_faultNumber o_at o_numberPlace o_bytes) := by
  refine CT.intro (k := 0) (Nat.le_of_ble_eq_true rfl) (by decide) ?_
  intro p e s m below meth c Q A ls E hA hP hD hS hl hF
  obtain ⟨⟨hx, hb, hml, hown, hts⟩, hK⟩ := id E
  generalize hR : S_X3_readYear o_yearClauses o_length o_faultPlace o_faultNumber o_at o_numberPlace o_bytes = RES at hF
  unfold S_X3_readYear at hR
  have hl : lv_has ls 3 [(0, .ref a_o), (1, .ref a_x1)] := hl
  refine lv_aload_n hx hb dX3_readYear_0 rfl (lv_at hl 0 rfl) ?_
  refine lv_dup hx hb dX3_readYear_1 rfl ?_
  refine fget E hP 0 rfl fd_X3_31 (v := .int o_yearClauses) rfl dX3_readYear_2 ?_
  refine lv_iconst (v := (1 : Int32)) hx hb dX3_readYear_5 (by decide) ?_
  refine lv_iadd hx hb dX3_readYear_6 ?_
  refine fput E hP hD hS 0 rfl fd_X3_31 fp_X3 (ty := .int) (v := .int (o_yearClauses + (1 : Int32))) rfl rfl rfl rfl (Nat.le_of_ble_eq_true rfl) dX3_readYear_7 (fun H locs hP hD hS => ?_)
  have hP : va_P D vwCl [(a_o, .inr (3, [.ref a_o_bytes, .int (nI o_length), .int o_faultPlace, .int o_faultNumber, .int (nI o_at), .int (nI o_numberPlace), .int (o_yearClauses + (1 : Int32)), .int o_knowsClauses, .int o_otherClauses])), (a_o_bytes, .inl (tB, 500, .inl o_bytes)), (a_x1, .inr (1, [.int x1_year, .int (nI x1_bridges), .int (nI x1_men), .int (nI x1_oxen), .ref a_x1_forgets, .ref a_x1_weight, .ref a_x1_chance, .ref a_x1_knowsAtFirst, .ref a_x1_oxWeight, .ref a_x1_oxPrice]))] H := hP
  have hD : va_D A [(a_o, .inr (3, [.ref a_o_bytes, .int (nI o_length), .int o_faultPlace, .int o_faultNumber, .int (nI o_at), .int (nI o_numberPlace), .int (o_yearClauses + (1 : Int32)), .int o_knowsClauses, .int o_otherClauses])), (a_o_bytes, .inl (tB, 500, .inl o_bytes)), (a_x1, .inr (1, [.int x1_year, .int (nI x1_bridges), .int (nI x1_men), .int (nI x1_oxen), .ref a_x1_forgets, .ref a_x1_weight, .ref a_x1_chance, .ref a_x1_knowsAtFirst, .ref a_x1_oxWeight, .ref a_x1_oxPrice]))] := hD
  refine lv_aload_n hx hb dX3_readYear_10 rfl (lv_at hl 0 rfl) ?_
  refine lv_iconst (v := (1 : Int32)) hx hb dX3_readYear_11 (by decide) ?_
  refine lv_bipush (v := (99 : Int32)) hx hb dX3_readYear_12 (by decide) ?_
  have hC_14 := (c_X3_number l D tB tI tZ a_o a_o_bytes o_length o_faultPlace o_faultNumber o_at o_numberPlace (o_yearClauses + (1 : Int32)) o_knowsClauses o_otherClauses o_bytes (1 : Int32) (99 : Int32) (show o_length ≤ 500 by first | assumption | omega | exact NN.none | exact NN.nat (by omega) (by omega) | exact NN.up (by assumption) (by omega)) (show o_at ≤ o_length by first | assumption | omega | exact NN.none | exact NN.nat (by omega) (by omega) | exact NN.up (by assumption) (by omega)))
  generalize hu_14 : (S_X3_number (1 : Int32) (99 : Int32) o_faultNumber o_length o_faultPlace o_at o_numberPlace o_bytes) = u_14 at hC_14 hR
  obtain ⟨r14_r, r14_o_at, r14_o_numberPlace, r14_o_faultNumber, r14_o_faultPlace⟩ := u_14
  obtain ⟨hpa_14, hpb_14⟩ := number_ok hu_14 (by omega)
  refine kcV E hl.1 hC_14 cv_X3_number wm_X3_109 hP hD hS hA [0, 1] rfl rfl rfl (ws2 := [(a_o, .inr (3, [.ref a_o_bytes, .int (nI o_length), .int r14_o_faultPlace, .int r14_o_faultNumber, .int (nI r14_o_at), .int (nI r14_o_numberPlace), .int (o_yearClauses + (1 : Int32)), .int o_knowsClauses, .int o_otherClauses])), (a_o_bytes, .inl (tB, 500, .inl o_bytes)), (a_x1, .inr (1, [.int x1_year, .int (nI x1_bridges), .int (nI x1_men), .int (nI x1_oxen), .ref a_x1_forgets, .ref a_x1_weight, .ref a_x1_chance, .ref a_x1_knowsAtFirst, .ref a_x1_oxWeight, .ref a_x1_oxPrice]))]) rfl rfl (b := a_o) (As := [.int (1 : Int32), .int (99 : Int32)]) (rest := []) 0 3 rfl rfl rfl rfl (Nat.le_of_ble_eq_true rfl) ⟨Nat.le_of_ble_eq_true rfl, Nat.le_of_ble_eq_true rfl⟩ ⟨Nat.zero_le _, Nat.zero_le _⟩ dX3_readYear_14 (fun H locs hP hD hS => ?_)
  have hP : va_P D vwCl [(a_o, .inr (3, [.ref a_o_bytes, .int (nI o_length), .int r14_o_faultPlace, .int r14_o_faultNumber, .int (nI r14_o_at), .int (nI r14_o_numberPlace), .int (o_yearClauses + (1 : Int32)), .int o_knowsClauses, .int o_otherClauses])), (a_o_bytes, .inl (tB, 500, .inl o_bytes)), (a_x1, .inr (1, [.int x1_year, .int (nI x1_bridges), .int (nI x1_men), .int (nI x1_oxen), .ref a_x1_forgets, .ref a_x1_weight, .ref a_x1_chance, .ref a_x1_knowsAtFirst, .ref a_x1_oxWeight, .ref a_x1_oxPrice]))] H := hP
  have hD : va_D A [(a_o, .inr (3, [.ref a_o_bytes, .int (nI o_length), .int r14_o_faultPlace, .int r14_o_faultNumber, .int (nI r14_o_at), .int (nI r14_o_numberPlace), .int (o_yearClauses + (1 : Int32)), .int o_knowsClauses, .int o_otherClauses])), (a_o_bytes, .inl (tB, 500, .inl o_bytes)), (a_x1, .inr (1, [.int x1_year, .int (nI x1_bridges), .int (nI x1_men), .int (nI x1_oxen), .ref a_x1_forgets, .ref a_x1_weight, .ref a_x1_chance, .ref a_x1_knowsAtFirst, .ref a_x1_oxWeight, .ref a_x1_oxPrice]))] := hD
  have hR : K_X3_readYear_14 o_yearClauses o_length o_bytes r14_r r14_o_at r14_o_numberPlace r14_o_faultNumber r14_o_faultPlace = RES := hR
  unfold K_X3_readYear_14 at hR
  refine lv_istore_n (lv' := [(2, .int r14_r), (0, .ref a_o), (1, .ref a_x1)]) hx hb dX3_readYear_17 rfl hl (by decide) rfl (fun ls hl => ?_)
  refine lv_aload_n hx hb dX3_readYear_18 rfl (lv_at hl 1 rfl) ?_
  have hC_19 := (c_X3_endClause l D tB tI tZ a_o a_o_bytes o_length r14_o_faultPlace r14_o_faultNumber r14_o_at r14_o_numberPlace (o_yearClauses + (1 : Int32)) o_knowsClauses o_otherClauses o_bytes (show o_length ≤ 500 by first | assumption | omega | exact NN.none | exact NN.nat (by omega) (by omega) | exact NN.up (by assumption) (by omega)) (show r14_o_at ≤ o_length by first | assumption | omega | exact NN.none | exact NN.nat (by omega) (by omega) | exact NN.up (by assumption) (by omega)))
  generalize hu_19 : (S_X3_endClause r14_o_faultNumber o_length r14_o_faultPlace r14_o_at o_bytes) = u_19 at hC_19 hR
  obtain ⟨r19_o_at, r19_o_faultNumber, r19_o_faultPlace⟩ := u_19
  obtain ⟨hpa_19, hpb_19⟩ := endClause_ok hu_19 (by omega)
  refine kcV E hl.1 hC_19 cv_X3_endClause wm_X3_112 hP hD hS hA [0, 1] rfl rfl rfl (ws2 := [(a_o, .inr (3, [.ref a_o_bytes, .int (nI o_length), .int r19_o_faultPlace, .int r19_o_faultNumber, .int (nI r19_o_at), .int (nI r14_o_numberPlace), .int (o_yearClauses + (1 : Int32)), .int o_knowsClauses, .int o_otherClauses])), (a_o_bytes, .inl (tB, 500, .inl o_bytes)), (a_x1, .inr (1, [.int x1_year, .int (nI x1_bridges), .int (nI x1_men), .int (nI x1_oxen), .ref a_x1_forgets, .ref a_x1_weight, .ref a_x1_chance, .ref a_x1_knowsAtFirst, .ref a_x1_oxWeight, .ref a_x1_oxPrice]))]) rfl rfl (b := a_o) (As := []) (rest := []) 0 3 rfl rfl rfl rfl (Nat.le_of_ble_eq_true rfl) ⟨Nat.le_of_ble_eq_true rfl, Nat.le_of_ble_eq_true rfl⟩ ⟨Nat.zero_le _, Nat.zero_le _⟩ dX3_readYear_19 (fun H locs hP hD hS => ?_)
  have hP : va_P D vwCl [(a_o, .inr (3, [.ref a_o_bytes, .int (nI o_length), .int r19_o_faultPlace, .int r19_o_faultNumber, .int (nI r19_o_at), .int (nI r14_o_numberPlace), .int (o_yearClauses + (1 : Int32)), .int o_knowsClauses, .int o_otherClauses])), (a_o_bytes, .inl (tB, 500, .inl o_bytes)), (a_x1, .inr (1, [.int x1_year, .int (nI x1_bridges), .int (nI x1_men), .int (nI x1_oxen), .ref a_x1_forgets, .ref a_x1_weight, .ref a_x1_chance, .ref a_x1_knowsAtFirst, .ref a_x1_oxWeight, .ref a_x1_oxPrice]))] H := hP
  have hD : va_D A [(a_o, .inr (3, [.ref a_o_bytes, .int (nI o_length), .int r19_o_faultPlace, .int r19_o_faultNumber, .int (nI r19_o_at), .int (nI r14_o_numberPlace), .int (o_yearClauses + (1 : Int32)), .int o_knowsClauses, .int o_otherClauses])), (a_o_bytes, .inl (tB, 500, .inl o_bytes)), (a_x1, .inr (1, [.int x1_year, .int (nI x1_bridges), .int (nI x1_men), .int (nI x1_oxen), .ref a_x1_forgets, .ref a_x1_weight, .ref a_x1_chance, .ref a_x1_knowsAtFirst, .ref a_x1_oxWeight, .ref a_x1_oxPrice]))] := hD
  have hR : K_X3_readYear_19 o_yearClauses r14_r r14_o_numberPlace r19_o_at r19_o_faultNumber r19_o_faultPlace = RES := hR
  unfold K_X3_readYear_19 at hR
  refine lv_aload_n hx hb dX3_readYear_22 rfl (lv_at hl 2 rfl) ?_
  refine lv_iload_n hx hb dX3_readYear_23 rfl (lv_at hl 0 rfl) ?_
  refine fput E hP hD hS 2 rfl fd_X3_115 fp_X1 (ty := .int) (v := .int r14_r) rfl rfl rfl rfl (Nat.le_of_ble_eq_true rfl) dX3_readYear_24 (fun H locs hP hD hS => ?_)
  have hP : va_P D vwCl [(a_o, .inr (3, [.ref a_o_bytes, .int (nI o_length), .int r19_o_faultPlace, .int r19_o_faultNumber, .int (nI r19_o_at), .int (nI r14_o_numberPlace), .int (o_yearClauses + (1 : Int32)), .int o_knowsClauses, .int o_otherClauses])), (a_o_bytes, .inl (tB, 500, .inl o_bytes)), (a_x1, .inr (1, [.int r14_r, .int (nI x1_bridges), .int (nI x1_men), .int (nI x1_oxen), .ref a_x1_forgets, .ref a_x1_weight, .ref a_x1_chance, .ref a_x1_knowsAtFirst, .ref a_x1_oxWeight, .ref a_x1_oxPrice]))] H := hP
  have hD : va_D A [(a_o, .inr (3, [.ref a_o_bytes, .int (nI o_length), .int r19_o_faultPlace, .int r19_o_faultNumber, .int (nI r19_o_at), .int (nI r14_o_numberPlace), .int (o_yearClauses + (1 : Int32)), .int o_knowsClauses, .int o_otherClauses])), (a_o_bytes, .inl (tB, 500, .inl o_bytes)), (a_x1, .inr (1, [.int r14_r, .int (nI x1_bridges), .int (nI x1_men), .int (nI x1_oxen), .ref a_x1_forgets, .ref a_x1_weight, .ref a_x1_chance, .ref a_x1_knowsAtFirst, .ref a_x1_oxWeight, .ref a_x1_oxPrice]))] := hD
  subst hR
  exact (hF _ _ _ _ hP hS).2.2.2 rfl rfl dX3_readYear_27

def K_X3_readBridge_24 (o_otherClauses : Int32) (r14_o_numberPlace : Nat) (r19_o_at : Nat) (r19_o_faultNumber : Int32) (r19_o_faultPlace : Int32) (r24_o_forgets : Nat → Int32) (r24_o_bridges : Nat) : Int32 × Nat × Nat × Int32 × Int32 × (Nat → Int32) × Nat := ((o_otherClauses + (1 : Int32)), r19_o_at, r14_o_numberPlace, r19_o_faultNumber, r19_o_faultPlace, r24_o_forgets, r24_o_bridges)
def K_X3_readBridge_19 (o_otherClauses : Int32) (r14_r : Int32) (r14_o_numberPlace : Nat) (x1_bridges : Nat) (x1_forgets : Nat → Int32) (r19_o_at : Nat) (r19_o_faultNumber : Int32) (r19_o_faultPlace : Int32) : Int32 × Nat × Nat × Int32 × Int32 × (Nat → Int32) × Nat := ((fun u => K_X3_readBridge_24 o_otherClauses r14_o_numberPlace r19_o_at r19_o_faultNumber r19_o_faultPlace u.1 u.2) (S_X1_addBridge r14_r x1_bridges x1_forgets))
def K_X3_readBridge_14 (o_otherClauses : Int32) (o_length : Nat) (o_bytes : Nat → Int32) (x1_bridges : Nat) (x1_forgets : Nat → Int32) (r14_r : Int32) (r14_o_at : Nat) (r14_o_numberPlace : Nat) (r14_o_faultNumber : Int32) (r14_o_faultPlace : Int32) : Int32 × Nat × Nat × Int32 × Int32 × (Nat → Int32) × Nat := ((fun u => K_X3_readBridge_19 o_otherClauses r14_r r14_o_numberPlace x1_bridges x1_forgets u.1 u.2.1 u.2.2) (S_X3_endClause r14_o_faultNumber o_length r14_o_faultPlace r14_o_at o_bytes))
def S_X3_readBridge (o_otherClauses : Int32) (o_length : Nat) (o_faultPlace : Int32) (o_faultNumber : Int32) (o_at : Nat) (o_numberPlace : Nat) (o_bytes : Nat → Int32) (x1_bridges : Nat) (x1_forgets : Nat → Int32) : Int32 × Nat × Nat × Int32 × Int32 × (Nat → Int32) × Nat := ((fun u => K_X3_readBridge_14 o_otherClauses o_length o_bytes x1_bridges x1_forgets u.1 u.2.1 u.2.2.1 u.2.2.2.1 u.2.2.2.2) (S_X3_number (0 : Int32) (9 : Int32) o_faultNumber o_length o_faultPlace o_at o_numberPlace o_bytes))
set_option maxHeartbeats 4000000 in
set_option maxRecDepth 100000 in
theorem c_X3_readBridge (l : Launch) (D : va_G) (tB tI tZ : ClassId) (a_o a_o_bytes a_x1 a_x1_forgets a_x1_weight a_x1_chance a_x1_knowsAtFirst a_x1_oxWeight a_x1_oxPrice : Nat) (o_length : Nat) (o_faultPlace : Int32) (o_faultNumber : Int32) (o_at : Nat) (o_numberPlace : Nat) (o_yearClauses : Int32) (o_knowsClauses : Int32) (o_otherClauses : Int32) (o_bytes : Nat → Int32) (x1_year : Int32) (x1_bridges : Nat) (x1_men : Nat) (x1_oxen : Nat) (x1_forgets : Nat → Int32)  (hlen : o_length ≤ 500) (hat : o_at ≤ o_length) (hbr : x1_bridges ≤ 5) (hmen : x1_men ≤ 6) (hox : x1_oxen ≤ 5) : CT l D (tyL tB tI tZ) yX3_readBridge (.code yX3_readBridge cX3_readBridge 3 none) 3 61 [.ref a_o, .ref a_x1] [(a_o, .inr (3, [.ref a_o_bytes, .int (nI o_length), .int o_faultPlace, .int o_faultNumber, .int (nI o_at), .int (nI o_numberPlace), .int o_yearClauses, .int o_knowsClauses, .int o_otherClauses])), (a_o_bytes, .inl (tB, 500, .inl o_bytes)), (a_x1, .inr (1, [.int x1_year, .int (nI x1_bridges), .int (nI x1_men), .int (nI x1_oxen), .ref a_x1_forgets, .ref a_x1_weight, .ref a_x1_chance, .ref a_x1_knowsAtFirst, .ref a_x1_oxWeight, .ref a_x1_oxPrice])), (a_x1_forgets, .inl (tI, 5, .inl x1_forgets))] (fun _ : Int32 × Nat × Nat × Int32 × Int32 × (Nat → Int32) × Nat => none) (fun u : Int32 × Nat × Nat × Int32 × Int32 × (Nat → Int32) × Nat => [(a_o, .inr (3, [.ref a_o_bytes, .int (nI o_length), .int (u.2.2.2.2.1), .int (u.2.2.2.1), .int (nI (u.2.1)), .int (nI (u.2.2.1)), .int o_yearClauses, .int o_knowsClauses, .int (u.1)])), (a_o_bytes, .inl (tB, 500, .inl o_bytes)), (a_x1, .inr (1, [.int x1_year, .int (nI (u.2.2.2.2.2.2)), .int (nI x1_men), .int (nI x1_oxen), .ref a_x1_forgets, .ref a_x1_weight, .ref a_x1_chance, .ref a_x1_knowsAtFirst, .ref a_x1_oxWeight, .ref a_x1_oxPrice])), (a_x1_forgets, .inl (tI, 5, .inl (u.2.2.2.2.2.1)))]) (S_X3_readBridge o_otherClauses o_length o_faultPlace o_faultNumber o_at o_numberPlace o_bytes x1_bridges x1_forgets) := by
  refine CT.intro (k := 0) (Nat.le_of_ble_eq_true rfl) (by decide) ?_
  intro p e s m below meth c Q A ls E hA hP hD hS hl hF
  obtain ⟨⟨hx, hb, hml, hown, hts⟩, hK⟩ := id E
  generalize hR : S_X3_readBridge o_otherClauses o_length o_faultPlace o_faultNumber o_at o_numberPlace o_bytes x1_bridges x1_forgets = RES at hF
  unfold S_X3_readBridge at hR
  have hl : lv_has ls 3 [(0, .ref a_o), (1, .ref a_x1)] := hl
  refine lv_aload_n hx hb dX3_readBridge_0 rfl (lv_at hl 0 rfl) ?_
  refine lv_dup hx hb dX3_readBridge_1 rfl ?_
  refine fget E hP 0 rfl fd_X3_37 (v := .int o_otherClauses) rfl dX3_readBridge_2 ?_
  refine lv_iconst (v := (1 : Int32)) hx hb dX3_readBridge_5 (by decide) ?_
  refine lv_iadd hx hb dX3_readBridge_6 ?_
  refine fput E hP hD hS 0 rfl fd_X3_37 fp_X3 (ty := .int) (v := .int (o_otherClauses + (1 : Int32))) rfl rfl rfl rfl (Nat.le_of_ble_eq_true rfl) dX3_readBridge_7 (fun H locs hP hD hS => ?_)
  have hP : va_P D vwCl [(a_o, .inr (3, [.ref a_o_bytes, .int (nI o_length), .int o_faultPlace, .int o_faultNumber, .int (nI o_at), .int (nI o_numberPlace), .int o_yearClauses, .int o_knowsClauses, .int (o_otherClauses + (1 : Int32))])), (a_o_bytes, .inl (tB, 500, .inl o_bytes)), (a_x1, .inr (1, [.int x1_year, .int (nI x1_bridges), .int (nI x1_men), .int (nI x1_oxen), .ref a_x1_forgets, .ref a_x1_weight, .ref a_x1_chance, .ref a_x1_knowsAtFirst, .ref a_x1_oxWeight, .ref a_x1_oxPrice])), (a_x1_forgets, .inl (tI, 5, .inl x1_forgets))] H := hP
  have hD : va_D A [(a_o, .inr (3, [.ref a_o_bytes, .int (nI o_length), .int o_faultPlace, .int o_faultNumber, .int (nI o_at), .int (nI o_numberPlace), .int o_yearClauses, .int o_knowsClauses, .int (o_otherClauses + (1 : Int32))])), (a_o_bytes, .inl (tB, 500, .inl o_bytes)), (a_x1, .inr (1, [.int x1_year, .int (nI x1_bridges), .int (nI x1_men), .int (nI x1_oxen), .ref a_x1_forgets, .ref a_x1_weight, .ref a_x1_chance, .ref a_x1_knowsAtFirst, .ref a_x1_oxWeight, .ref a_x1_oxPrice])), (a_x1_forgets, .inl (tI, 5, .inl x1_forgets))] := hD
  refine lv_aload_n hx hb dX3_readBridge_10 rfl (lv_at hl 0 rfl) ?_
  refine lv_iconst (v := (0 : Int32)) hx hb dX3_readBridge_11 (by decide) ?_
  refine lv_bipush (v := (9 : Int32)) hx hb dX3_readBridge_12 (by decide) ?_
  have hC_14 := (c_X3_number l D tB tI tZ a_o a_o_bytes o_length o_faultPlace o_faultNumber o_at o_numberPlace o_yearClauses o_knowsClauses (o_otherClauses + (1 : Int32)) o_bytes (0 : Int32) (9 : Int32) (show o_length ≤ 500 by first | assumption | omega | exact NN.none | exact NN.nat (by omega) (by omega) | exact NN.up (by assumption) (by omega)) (show o_at ≤ o_length by first | assumption | omega | exact NN.none | exact NN.nat (by omega) (by omega) | exact NN.up (by assumption) (by omega)))
  generalize hu_14 : (S_X3_number (0 : Int32) (9 : Int32) o_faultNumber o_length o_faultPlace o_at o_numberPlace o_bytes) = u_14 at hC_14 hR
  obtain ⟨r14_r, r14_o_at, r14_o_numberPlace, r14_o_faultNumber, r14_o_faultPlace⟩ := u_14
  obtain ⟨hpa_14, hpb_14⟩ := number_ok hu_14 (by omega)
  refine kcV E hl.1 hC_14 cv_X3_number wm_X3_109 hP hD hS hA [0, 1] rfl rfl rfl (ws2 := [(a_o, .inr (3, [.ref a_o_bytes, .int (nI o_length), .int r14_o_faultPlace, .int r14_o_faultNumber, .int (nI r14_o_at), .int (nI r14_o_numberPlace), .int o_yearClauses, .int o_knowsClauses, .int (o_otherClauses + (1 : Int32))])), (a_o_bytes, .inl (tB, 500, .inl o_bytes)), (a_x1, .inr (1, [.int x1_year, .int (nI x1_bridges), .int (nI x1_men), .int (nI x1_oxen), .ref a_x1_forgets, .ref a_x1_weight, .ref a_x1_chance, .ref a_x1_knowsAtFirst, .ref a_x1_oxWeight, .ref a_x1_oxPrice])), (a_x1_forgets, .inl (tI, 5, .inl x1_forgets))]) rfl rfl (b := a_o) (As := [.int (0 : Int32), .int (9 : Int32)]) (rest := []) 0 3 rfl rfl rfl rfl (Nat.le_of_ble_eq_true rfl) ⟨Nat.le_of_ble_eq_true rfl, Nat.le_of_ble_eq_true rfl⟩ ⟨Nat.zero_le _, Nat.zero_le _⟩ dX3_readBridge_14 (fun H locs hP hD hS => ?_)
  have hP : va_P D vwCl [(a_o, .inr (3, [.ref a_o_bytes, .int (nI o_length), .int r14_o_faultPlace, .int r14_o_faultNumber, .int (nI r14_o_at), .int (nI r14_o_numberPlace), .int o_yearClauses, .int o_knowsClauses, .int (o_otherClauses + (1 : Int32))])), (a_o_bytes, .inl (tB, 500, .inl o_bytes)), (a_x1, .inr (1, [.int x1_year, .int (nI x1_bridges), .int (nI x1_men), .int (nI x1_oxen), .ref a_x1_forgets, .ref a_x1_weight, .ref a_x1_chance, .ref a_x1_knowsAtFirst, .ref a_x1_oxWeight, .ref a_x1_oxPrice])), (a_x1_forgets, .inl (tI, 5, .inl x1_forgets))] H := hP
  have hD : va_D A [(a_o, .inr (3, [.ref a_o_bytes, .int (nI o_length), .int r14_o_faultPlace, .int r14_o_faultNumber, .int (nI r14_o_at), .int (nI r14_o_numberPlace), .int o_yearClauses, .int o_knowsClauses, .int (o_otherClauses + (1 : Int32))])), (a_o_bytes, .inl (tB, 500, .inl o_bytes)), (a_x1, .inr (1, [.int x1_year, .int (nI x1_bridges), .int (nI x1_men), .int (nI x1_oxen), .ref a_x1_forgets, .ref a_x1_weight, .ref a_x1_chance, .ref a_x1_knowsAtFirst, .ref a_x1_oxWeight, .ref a_x1_oxPrice])), (a_x1_forgets, .inl (tI, 5, .inl x1_forgets))] := hD
  have hR : K_X3_readBridge_14 o_otherClauses o_length o_bytes x1_bridges x1_forgets r14_r r14_o_at r14_o_numberPlace r14_o_faultNumber r14_o_faultPlace = RES := hR
  unfold K_X3_readBridge_14 at hR
  refine lv_istore_n (lv' := [(2, .int r14_r), (0, .ref a_o), (1, .ref a_x1)]) hx hb dX3_readBridge_17 rfl hl (by decide) rfl (fun ls hl => ?_)
  refine lv_aload_n hx hb dX3_readBridge_18 rfl (lv_at hl 1 rfl) ?_
  have hC_19 := (c_X3_endClause l D tB tI tZ a_o a_o_bytes o_length r14_o_faultPlace r14_o_faultNumber r14_o_at r14_o_numberPlace o_yearClauses o_knowsClauses (o_otherClauses + (1 : Int32)) o_bytes (show o_length ≤ 500 by first | assumption | omega | exact NN.none | exact NN.nat (by omega) (by omega) | exact NN.up (by assumption) (by omega)) (show r14_o_at ≤ o_length by first | assumption | omega | exact NN.none | exact NN.nat (by omega) (by omega) | exact NN.up (by assumption) (by omega)))
  generalize hu_19 : (S_X3_endClause r14_o_faultNumber o_length r14_o_faultPlace r14_o_at o_bytes) = u_19 at hC_19 hR
  obtain ⟨r19_o_at, r19_o_faultNumber, r19_o_faultPlace⟩ := u_19
  obtain ⟨hpa_19, hpb_19⟩ := endClause_ok hu_19 (by omega)
  refine kcV E hl.1 hC_19 cv_X3_endClause wm_X3_112 hP hD hS hA [0, 1] rfl rfl rfl (ws2 := [(a_o, .inr (3, [.ref a_o_bytes, .int (nI o_length), .int r19_o_faultPlace, .int r19_o_faultNumber, .int (nI r19_o_at), .int (nI r14_o_numberPlace), .int o_yearClauses, .int o_knowsClauses, .int (o_otherClauses + (1 : Int32))])), (a_o_bytes, .inl (tB, 500, .inl o_bytes)), (a_x1, .inr (1, [.int x1_year, .int (nI x1_bridges), .int (nI x1_men), .int (nI x1_oxen), .ref a_x1_forgets, .ref a_x1_weight, .ref a_x1_chance, .ref a_x1_knowsAtFirst, .ref a_x1_oxWeight, .ref a_x1_oxPrice])), (a_x1_forgets, .inl (tI, 5, .inl x1_forgets))]) rfl rfl (b := a_o) (As := []) (rest := []) 0 3 rfl rfl rfl rfl (Nat.le_of_ble_eq_true rfl) ⟨Nat.le_of_ble_eq_true rfl, Nat.le_of_ble_eq_true rfl⟩ ⟨Nat.zero_le _, Nat.zero_le _⟩ dX3_readBridge_19 (fun H locs hP hD hS => ?_)
  have hP : va_P D vwCl [(a_o, .inr (3, [.ref a_o_bytes, .int (nI o_length), .int r19_o_faultPlace, .int r19_o_faultNumber, .int (nI r19_o_at), .int (nI r14_o_numberPlace), .int o_yearClauses, .int o_knowsClauses, .int (o_otherClauses + (1 : Int32))])), (a_o_bytes, .inl (tB, 500, .inl o_bytes)), (a_x1, .inr (1, [.int x1_year, .int (nI x1_bridges), .int (nI x1_men), .int (nI x1_oxen), .ref a_x1_forgets, .ref a_x1_weight, .ref a_x1_chance, .ref a_x1_knowsAtFirst, .ref a_x1_oxWeight, .ref a_x1_oxPrice])), (a_x1_forgets, .inl (tI, 5, .inl x1_forgets))] H := hP
  have hD : va_D A [(a_o, .inr (3, [.ref a_o_bytes, .int (nI o_length), .int r19_o_faultPlace, .int r19_o_faultNumber, .int (nI r19_o_at), .int (nI r14_o_numberPlace), .int o_yearClauses, .int o_knowsClauses, .int (o_otherClauses + (1 : Int32))])), (a_o_bytes, .inl (tB, 500, .inl o_bytes)), (a_x1, .inr (1, [.int x1_year, .int (nI x1_bridges), .int (nI x1_men), .int (nI x1_oxen), .ref a_x1_forgets, .ref a_x1_weight, .ref a_x1_chance, .ref a_x1_knowsAtFirst, .ref a_x1_oxWeight, .ref a_x1_oxPrice])), (a_x1_forgets, .inl (tI, 5, .inl x1_forgets))] := hD
  have hR : K_X3_readBridge_19 o_otherClauses r14_r r14_o_numberPlace x1_bridges x1_forgets r19_o_at r19_o_faultNumber r19_o_faultPlace = RES := hR
  unfold K_X3_readBridge_19 at hR
  refine lv_aload_n hx hb dX3_readBridge_22 rfl (lv_at hl 2 rfl) ?_
  refine lv_iload_n hx hb dX3_readBridge_23 rfl (lv_at hl 0 rfl) ?_
  have hC_24 := (c_X1_addBridge l D tB tI tZ a_x1 a_x1_forgets a_x1_weight a_x1_chance a_x1_knowsAtFirst a_x1_oxWeight a_x1_oxPrice x1_year x1_bridges x1_men x1_oxen x1_forgets r14_r (show x1_bridges ≤ 5 by first | assumption | omega | exact NN.none | exact NN.nat (by omega) (by omega) | exact NN.up (by assumption) (by omega)) (show x1_men ≤ 6 by first | assumption | omega | exact NN.none | exact NN.nat (by omega) (by omega) | exact NN.up (by assumption) (by omega)) (show x1_oxen ≤ 5 by first | assumption | omega | exact NN.none | exact NN.nat (by omega) (by omega) | exact NN.up (by assumption) (by omega)))
  generalize hu_24 : (S_X1_addBridge r14_r x1_bridges x1_forgets) = u_24 at hC_24 hR
  obtain ⟨r24_o_forgets, r24_o_bridges⟩ := u_24
  refine kcV E hl.1 hC_24 cv_X1_addBridge wm_X3_117 hP hD hS hA [2, 3] rfl rfl rfl (ws2 := [(a_o, .inr (3, [.ref a_o_bytes, .int (nI o_length), .int r19_o_faultPlace, .int r19_o_faultNumber, .int (nI r19_o_at), .int (nI r14_o_numberPlace), .int o_yearClauses, .int o_knowsClauses, .int (o_otherClauses + (1 : Int32))])), (a_o_bytes, .inl (tB, 500, .inl o_bytes)), (a_x1, .inr (1, [.int x1_year, .int (nI r24_o_bridges), .int (nI x1_men), .int (nI x1_oxen), .ref a_x1_forgets, .ref a_x1_weight, .ref a_x1_chance, .ref a_x1_knowsAtFirst, .ref a_x1_oxWeight, .ref a_x1_oxPrice])), (a_x1_forgets, .inl (tI, 5, .inl r24_o_forgets))]) rfl rfl (b := a_x1) (As := [.int r14_r]) (rest := []) 0 1 rfl rfl rfl rfl (Nat.le_of_ble_eq_true rfl) ⟨Nat.le_of_ble_eq_true rfl, Nat.le_of_ble_eq_true rfl⟩ ⟨Nat.zero_le _, Nat.zero_le _⟩ dX3_readBridge_24 (fun H locs hP hD hS => ?_)
  have hP : va_P D vwCl [(a_o, .inr (3, [.ref a_o_bytes, .int (nI o_length), .int r19_o_faultPlace, .int r19_o_faultNumber, .int (nI r19_o_at), .int (nI r14_o_numberPlace), .int o_yearClauses, .int o_knowsClauses, .int (o_otherClauses + (1 : Int32))])), (a_o_bytes, .inl (tB, 500, .inl o_bytes)), (a_x1, .inr (1, [.int x1_year, .int (nI r24_o_bridges), .int (nI x1_men), .int (nI x1_oxen), .ref a_x1_forgets, .ref a_x1_weight, .ref a_x1_chance, .ref a_x1_knowsAtFirst, .ref a_x1_oxWeight, .ref a_x1_oxPrice])), (a_x1_forgets, .inl (tI, 5, .inl r24_o_forgets))] H := hP
  have hD : va_D A [(a_o, .inr (3, [.ref a_o_bytes, .int (nI o_length), .int r19_o_faultPlace, .int r19_o_faultNumber, .int (nI r19_o_at), .int (nI r14_o_numberPlace), .int o_yearClauses, .int o_knowsClauses, .int (o_otherClauses + (1 : Int32))])), (a_o_bytes, .inl (tB, 500, .inl o_bytes)), (a_x1, .inr (1, [.int x1_year, .int (nI r24_o_bridges), .int (nI x1_men), .int (nI x1_oxen), .ref a_x1_forgets, .ref a_x1_weight, .ref a_x1_chance, .ref a_x1_knowsAtFirst, .ref a_x1_oxWeight, .ref a_x1_oxPrice])), (a_x1_forgets, .inl (tI, 5, .inl r24_o_forgets))] := hD
  have hR : K_X3_readBridge_24 o_otherClauses r14_o_numberPlace r19_o_at r19_o_faultNumber r19_o_faultPlace r24_o_forgets r24_o_bridges = RES := hR
  unfold K_X3_readBridge_24 at hR
  subst hR
  exact (hF _ _ _ _ hP hS).2.2.2 rfl rfl dX3_readBridge_27

def K_X3_readMan_34 (o_otherClauses : Int32) (r23_o_numberPlace : Nat) (r28_o_at : Nat) (r28_o_faultNumber : Int32) (r28_o_faultPlace : Int32) (r34_o_weight : Nat → Int32) (r34_o_chance : Nat → Int32) (r34_o_knowsAtFirst : Nat → Int32) (r34_o_men : Nat) : Int32 × Nat × Nat × Int32 × Int32 × (Nat → Int32) × (Nat → Int32) × (Nat → Int32) × Nat := ((o_otherClauses + (1 : Int32)), r28_o_at, r23_o_numberPlace, r28_o_faultNumber, r28_o_faultPlace, r34_o_weight, r34_o_chance, r34_o_knowsAtFirst, r34_o_men)
def K_X3_readMan_28 (o_otherClauses : Int32) (r15_r : Int32) (r23_r : Int32) (r23_o_numberPlace : Nat) (x1_men : Nat) (x1_weight : Nat → Int32) (x1_chance : Nat → Int32) (x1_knowsAtFirst : Nat → Int32) (r28_o_at : Nat) (r28_o_faultNumber : Int32) (r28_o_faultPlace : Int32) : Int32 × Nat × Nat × Int32 × Int32 × (Nat → Int32) × (Nat → Int32) × (Nat → Int32) × Nat := ((fun u => K_X3_readMan_34 o_otherClauses r23_o_numberPlace r28_o_at r28_o_faultNumber r28_o_faultPlace u.1 u.2.1 u.2.2.1 u.2.2.2) (S_X1_addMan r15_r r23_r x1_men x1_weight x1_chance x1_knowsAtFirst))
def K_X3_readMan_23 (o_otherClauses : Int32) (o_length : Nat) (o_bytes : Nat → Int32) (r15_r : Int32) (x1_men : Nat) (x1_weight : Nat → Int32) (x1_chance : Nat → Int32) (x1_knowsAtFirst : Nat → Int32) (r23_r : Int32) (r23_o_at : Nat) (r23_o_numberPlace : Nat) (r23_o_faultNumber : Int32) (r23_o_faultPlace : Int32) : Int32 × Nat × Nat × Int32 × Int32 × (Nat → Int32) × (Nat → Int32) × (Nat → Int32) × Nat := ((fun u => K_X3_readMan_28 o_otherClauses r15_r r23_r r23_o_numberPlace x1_men x1_weight x1_chance x1_knowsAtFirst u.1 u.2.1 u.2.2) (S_X3_endClause r23_o_faultNumber o_length r23_o_faultPlace r23_o_at o_bytes))
def K_X3_readMan_15 (o_otherClauses : Int32) (o_length : Nat) (o_bytes : Nat → Int32) (x1_men : Nat) (x1_weight : Nat → Int32) (x1_chance : Nat → Int32) (x1_knowsAtFirst : Nat → Int32) (r15_r : Int32) (r15_o_at : Nat) (r15_o_numberPlace : Nat) (r15_o_faultNumber : Int32) (r15_o_faultPlace : Int32) : Int32 × Nat × Nat × Int32 × Int32 × (Nat → Int32) × (Nat → Int32) × (Nat → Int32) × Nat := ((fun u => K_X3_readMan_23 o_otherClauses o_length o_bytes r15_r x1_men x1_weight x1_chance x1_knowsAtFirst u.1 u.2.1 u.2.2.1 u.2.2.2.1 u.2.2.2.2) (S_X3_number (0 : Int32) (100 : Int32) r15_o_faultNumber o_length r15_o_faultPlace r15_o_at r15_o_numberPlace o_bytes))
def S_X3_readMan (o_otherClauses : Int32) (o_length : Nat) (o_faultPlace : Int32) (o_faultNumber : Int32) (o_at : Nat) (o_numberPlace : Nat) (o_bytes : Nat → Int32) (x1_men : Nat) (x1_weight : Nat → Int32) (x1_chance : Nat → Int32) (x1_knowsAtFirst : Nat → Int32) : Int32 × Nat × Nat × Int32 × Int32 × (Nat → Int32) × (Nat → Int32) × (Nat → Int32) × Nat := ((fun u => K_X3_readMan_15 o_otherClauses o_length o_bytes x1_men x1_weight x1_chance x1_knowsAtFirst u.1 u.2.1 u.2.2.1 u.2.2.2.1 u.2.2.2.2) (S_X3_number (1 : Int32) (999 : Int32) o_faultNumber o_length o_faultPlace o_at o_numberPlace o_bytes))
set_option maxHeartbeats 4000000 in
set_option maxRecDepth 100000 in
theorem c_X3_readMan (l : Launch) (D : va_G) (tB tI tZ : ClassId) (a_o a_o_bytes a_x1 a_x1_forgets a_x1_weight a_x1_chance a_x1_knowsAtFirst a_x1_oxWeight a_x1_oxPrice : Nat) (o_length : Nat) (o_faultPlace : Int32) (o_faultNumber : Int32) (o_at : Nat) (o_numberPlace : Nat) (o_yearClauses : Int32) (o_knowsClauses : Int32) (o_otherClauses : Int32) (o_bytes : Nat → Int32) (x1_year : Int32) (x1_bridges : Nat) (x1_men : Nat) (x1_oxen : Nat) (x1_weight : Nat → Int32) (x1_chance : Nat → Int32) (x1_knowsAtFirst : Nat → Int32)  (hlen : o_length ≤ 500) (hat : o_at ≤ o_length) (hbr : x1_bridges ≤ 5) (hmen : x1_men ≤ 6) (hox : x1_oxen ≤ 5) : CT l D (tyL tB tI tZ) yX3_readMan (.code yX3_readMan cX3_readMan 4 none) 3 61 [.ref a_o, .ref a_x1] [(a_o, .inr (3, [.ref a_o_bytes, .int (nI o_length), .int o_faultPlace, .int o_faultNumber, .int (nI o_at), .int (nI o_numberPlace), .int o_yearClauses, .int o_knowsClauses, .int o_otherClauses])), (a_o_bytes, .inl (tB, 500, .inl o_bytes)), (a_x1, .inr (1, [.int x1_year, .int (nI x1_bridges), .int (nI x1_men), .int (nI x1_oxen), .ref a_x1_forgets, .ref a_x1_weight, .ref a_x1_chance, .ref a_x1_knowsAtFirst, .ref a_x1_oxWeight, .ref a_x1_oxPrice])), (a_x1_weight, .inl (tI, 6, .inl x1_weight)), (a_x1_chance, .inl (tI, 6, .inl x1_chance)), (a_x1_knowsAtFirst, .inl (tI, 6, .inl x1_knowsAtFirst))] (fun _ : Int32 × Nat × Nat × Int32 × Int32 × (Nat → Int32) × (Nat → Int32) × (Nat → Int32) × Nat => none) (fun u : Int32 × Nat × Nat × Int32 × Int32 × (Nat → Int32) × (Nat → Int32) × (Nat → Int32) × Nat => [(a_o, .inr (3, [.ref a_o_bytes, .int (nI o_length), .int (u.2.2.2.2.1), .int (u.2.2.2.1), .int (nI (u.2.1)), .int (nI (u.2.2.1)), .int o_yearClauses, .int o_knowsClauses, .int (u.1)])), (a_o_bytes, .inl (tB, 500, .inl o_bytes)), (a_x1, .inr (1, [.int x1_year, .int (nI x1_bridges), .int (nI (u.2.2.2.2.2.2.2.2)), .int (nI x1_oxen), .ref a_x1_forgets, .ref a_x1_weight, .ref a_x1_chance, .ref a_x1_knowsAtFirst, .ref a_x1_oxWeight, .ref a_x1_oxPrice])), (a_x1_weight, .inl (tI, 6, .inl (u.2.2.2.2.2.1))), (a_x1_chance, .inl (tI, 6, .inl (u.2.2.2.2.2.2.1))), (a_x1_knowsAtFirst, .inl (tI, 6, .inl (u.2.2.2.2.2.2.2.1)))]) (S_X3_readMan o_otherClauses o_length o_faultPlace o_faultNumber o_at o_numberPlace o_bytes x1_men x1_weight x1_chance x1_knowsAtFirst) := by
  refine CT.intro (k := 0) (Nat.le_of_ble_eq_true rfl) (by decide) ?_
  intro p e s m below meth c Q A ls E hA hP hD hS hl hF
  obtain ⟨⟨hx, hb, hml, hown, hts⟩, hK⟩ := id E
  generalize hR : S_X3_readMan o_otherClauses o_length o_faultPlace o_faultNumber o_at o_numberPlace o_bytes x1_men x1_weight x1_chance x1_knowsAtFirst = RES at hF
  unfold S_X3_readMan at hR
  have hl : lv_has ls 4 [(0, .ref a_o), (1, .ref a_x1)] := hl
  refine lv_aload_n hx hb dX3_readMan_0 rfl (lv_at hl 0 rfl) ?_
  refine lv_dup hx hb dX3_readMan_1 rfl ?_
  refine fget E hP 0 rfl fd_X3_37 (v := .int o_otherClauses) rfl dX3_readMan_2 ?_
  refine lv_iconst (v := (1 : Int32)) hx hb dX3_readMan_5 (by decide) ?_
  refine lv_iadd hx hb dX3_readMan_6 ?_
  refine fput E hP hD hS 0 rfl fd_X3_37 fp_X3 (ty := .int) (v := .int (o_otherClauses + (1 : Int32))) rfl rfl rfl rfl (Nat.le_of_ble_eq_true rfl) dX3_readMan_7 (fun H locs hP hD hS => ?_)
  have hP : va_P D vwCl [(a_o, .inr (3, [.ref a_o_bytes, .int (nI o_length), .int o_faultPlace, .int o_faultNumber, .int (nI o_at), .int (nI o_numberPlace), .int o_yearClauses, .int o_knowsClauses, .int (o_otherClauses + (1 : Int32))])), (a_o_bytes, .inl (tB, 500, .inl o_bytes)), (a_x1, .inr (1, [.int x1_year, .int (nI x1_bridges), .int (nI x1_men), .int (nI x1_oxen), .ref a_x1_forgets, .ref a_x1_weight, .ref a_x1_chance, .ref a_x1_knowsAtFirst, .ref a_x1_oxWeight, .ref a_x1_oxPrice])), (a_x1_weight, .inl (tI, 6, .inl x1_weight)), (a_x1_chance, .inl (tI, 6, .inl x1_chance)), (a_x1_knowsAtFirst, .inl (tI, 6, .inl x1_knowsAtFirst))] H := hP
  have hD : va_D A [(a_o, .inr (3, [.ref a_o_bytes, .int (nI o_length), .int o_faultPlace, .int o_faultNumber, .int (nI o_at), .int (nI o_numberPlace), .int o_yearClauses, .int o_knowsClauses, .int (o_otherClauses + (1 : Int32))])), (a_o_bytes, .inl (tB, 500, .inl o_bytes)), (a_x1, .inr (1, [.int x1_year, .int (nI x1_bridges), .int (nI x1_men), .int (nI x1_oxen), .ref a_x1_forgets, .ref a_x1_weight, .ref a_x1_chance, .ref a_x1_knowsAtFirst, .ref a_x1_oxWeight, .ref a_x1_oxPrice])), (a_x1_weight, .inl (tI, 6, .inl x1_weight)), (a_x1_chance, .inl (tI, 6, .inl x1_chance)), (a_x1_knowsAtFirst, .inl (tI, 6, .inl x1_knowsAtFirst))] := hD
  refine lv_aload_n hx hb dX3_readMan_10 rfl (lv_at hl 0 rfl) ?_
  refine lv_iconst (v := (1 : Int32)) hx hb dX3_readMan_11 (by decide) ?_
  refine lv_sipush (v := (999 : Int32)) hx hb dX3_readMan_12 (by decide) ?_
  have hC_15 := (c_X3_number l D tB tI tZ a_o a_o_bytes o_length o_faultPlace o_faultNumber o_at o_numberPlace o_yearClauses o_knowsClauses (o_otherClauses + (1 : Int32)) o_bytes (1 : Int32) (999 : Int32) (show o_length ≤ 500 by first | assumption | omega | exact NN.none | exact NN.nat (by omega) (by omega) | exact NN.up (by assumption) (by omega)) (show o_at ≤ o_length by first | assumption | omega | exact NN.none | exact NN.nat (by omega) (by omega) | exact NN.up (by assumption) (by omega)))
  generalize hu_15 : (S_X3_number (1 : Int32) (999 : Int32) o_faultNumber o_length o_faultPlace o_at o_numberPlace o_bytes) = u_15 at hC_15 hR
  obtain ⟨r15_r, r15_o_at, r15_o_numberPlace, r15_o_faultNumber, r15_o_faultPlace⟩ := u_15
  obtain ⟨hpa_15, hpb_15⟩ := number_ok hu_15 (by omega)
  refine kcV E hl.1 hC_15 cv_X3_number wm_X3_109 hP hD hS hA [0, 1] rfl rfl rfl (ws2 := [(a_o, .inr (3, [.ref a_o_bytes, .int (nI o_length), .int r15_o_faultPlace, .int r15_o_faultNumber, .int (nI r15_o_at), .int (nI r15_o_numberPlace), .int o_yearClauses, .int o_knowsClauses, .int (o_otherClauses + (1 : Int32))])), (a_o_bytes, .inl (tB, 500, .inl o_bytes)), (a_x1, .inr (1, [.int x1_year, .int (nI x1_bridges), .int (nI x1_men), .int (nI x1_oxen), .ref a_x1_forgets, .ref a_x1_weight, .ref a_x1_chance, .ref a_x1_knowsAtFirst, .ref a_x1_oxWeight, .ref a_x1_oxPrice])), (a_x1_weight, .inl (tI, 6, .inl x1_weight)), (a_x1_chance, .inl (tI, 6, .inl x1_chance)), (a_x1_knowsAtFirst, .inl (tI, 6, .inl x1_knowsAtFirst))]) rfl rfl (b := a_o) (As := [.int (1 : Int32), .int (999 : Int32)]) (rest := []) 0 3 rfl rfl rfl rfl (Nat.le_of_ble_eq_true rfl) ⟨Nat.le_of_ble_eq_true rfl, Nat.le_of_ble_eq_true rfl⟩ ⟨Nat.zero_le _, Nat.zero_le _⟩ dX3_readMan_15 (fun H locs hP hD hS => ?_)
  have hP : va_P D vwCl [(a_o, .inr (3, [.ref a_o_bytes, .int (nI o_length), .int r15_o_faultPlace, .int r15_o_faultNumber, .int (nI r15_o_at), .int (nI r15_o_numberPlace), .int o_yearClauses, .int o_knowsClauses, .int (o_otherClauses + (1 : Int32))])), (a_o_bytes, .inl (tB, 500, .inl o_bytes)), (a_x1, .inr (1, [.int x1_year, .int (nI x1_bridges), .int (nI x1_men), .int (nI x1_oxen), .ref a_x1_forgets, .ref a_x1_weight, .ref a_x1_chance, .ref a_x1_knowsAtFirst, .ref a_x1_oxWeight, .ref a_x1_oxPrice])), (a_x1_weight, .inl (tI, 6, .inl x1_weight)), (a_x1_chance, .inl (tI, 6, .inl x1_chance)), (a_x1_knowsAtFirst, .inl (tI, 6, .inl x1_knowsAtFirst))] H := hP
  have hD : va_D A [(a_o, .inr (3, [.ref a_o_bytes, .int (nI o_length), .int r15_o_faultPlace, .int r15_o_faultNumber, .int (nI r15_o_at), .int (nI r15_o_numberPlace), .int o_yearClauses, .int o_knowsClauses, .int (o_otherClauses + (1 : Int32))])), (a_o_bytes, .inl (tB, 500, .inl o_bytes)), (a_x1, .inr (1, [.int x1_year, .int (nI x1_bridges), .int (nI x1_men), .int (nI x1_oxen), .ref a_x1_forgets, .ref a_x1_weight, .ref a_x1_chance, .ref a_x1_knowsAtFirst, .ref a_x1_oxWeight, .ref a_x1_oxPrice])), (a_x1_weight, .inl (tI, 6, .inl x1_weight)), (a_x1_chance, .inl (tI, 6, .inl x1_chance)), (a_x1_knowsAtFirst, .inl (tI, 6, .inl x1_knowsAtFirst))] := hD
  have hR : K_X3_readMan_15 o_otherClauses o_length o_bytes x1_men x1_weight x1_chance x1_knowsAtFirst r15_r r15_o_at r15_o_numberPlace r15_o_faultNumber r15_o_faultPlace = RES := hR
  unfold K_X3_readMan_15 at hR
  refine lv_istore_n (lv' := [(2, .int r15_r), (0, .ref a_o), (1, .ref a_x1)]) hx hb dX3_readMan_18 rfl hl (by decide) rfl (fun ls hl => ?_)
  refine lv_aload_n hx hb dX3_readMan_19 rfl (lv_at hl 1 rfl) ?_
  refine lv_iconst (v := (0 : Int32)) hx hb dX3_readMan_20 (by decide) ?_
  refine lv_bipush (v := (100 : Int32)) hx hb dX3_readMan_21 (by decide) ?_
  have hC_23 := (c_X3_number l D tB tI tZ a_o a_o_bytes o_length r15_o_faultPlace r15_o_faultNumber r15_o_at r15_o_numberPlace o_yearClauses o_knowsClauses (o_otherClauses + (1 : Int32)) o_bytes (0 : Int32) (100 : Int32) (show o_length ≤ 500 by first | assumption | omega | exact NN.none | exact NN.nat (by omega) (by omega) | exact NN.up (by assumption) (by omega)) (show r15_o_at ≤ o_length by first | assumption | omega | exact NN.none | exact NN.nat (by omega) (by omega) | exact NN.up (by assumption) (by omega)))
  generalize hu_23 : (S_X3_number (0 : Int32) (100 : Int32) r15_o_faultNumber o_length r15_o_faultPlace r15_o_at r15_o_numberPlace o_bytes) = u_23 at hC_23 hR
  obtain ⟨r23_r, r23_o_at, r23_o_numberPlace, r23_o_faultNumber, r23_o_faultPlace⟩ := u_23
  obtain ⟨hpa_23, hpb_23⟩ := number_ok hu_23 (by omega)
  refine kcV E hl.1 hC_23 cv_X3_number wm_X3_109 hP hD hS hA [0, 1] rfl rfl rfl (ws2 := [(a_o, .inr (3, [.ref a_o_bytes, .int (nI o_length), .int r23_o_faultPlace, .int r23_o_faultNumber, .int (nI r23_o_at), .int (nI r23_o_numberPlace), .int o_yearClauses, .int o_knowsClauses, .int (o_otherClauses + (1 : Int32))])), (a_o_bytes, .inl (tB, 500, .inl o_bytes)), (a_x1, .inr (1, [.int x1_year, .int (nI x1_bridges), .int (nI x1_men), .int (nI x1_oxen), .ref a_x1_forgets, .ref a_x1_weight, .ref a_x1_chance, .ref a_x1_knowsAtFirst, .ref a_x1_oxWeight, .ref a_x1_oxPrice])), (a_x1_weight, .inl (tI, 6, .inl x1_weight)), (a_x1_chance, .inl (tI, 6, .inl x1_chance)), (a_x1_knowsAtFirst, .inl (tI, 6, .inl x1_knowsAtFirst))]) rfl rfl (b := a_o) (As := [.int (0 : Int32), .int (100 : Int32)]) (rest := []) 0 3 rfl rfl rfl rfl (Nat.le_of_ble_eq_true rfl) ⟨Nat.le_of_ble_eq_true rfl, Nat.le_of_ble_eq_true rfl⟩ ⟨Nat.zero_le _, Nat.zero_le _⟩ dX3_readMan_23 (fun H locs hP hD hS => ?_)
  have hP : va_P D vwCl [(a_o, .inr (3, [.ref a_o_bytes, .int (nI o_length), .int r23_o_faultPlace, .int r23_o_faultNumber, .int (nI r23_o_at), .int (nI r23_o_numberPlace), .int o_yearClauses, .int o_knowsClauses, .int (o_otherClauses + (1 : Int32))])), (a_o_bytes, .inl (tB, 500, .inl o_bytes)), (a_x1, .inr (1, [.int x1_year, .int (nI x1_bridges), .int (nI x1_men), .int (nI x1_oxen), .ref a_x1_forgets, .ref a_x1_weight, .ref a_x1_chance, .ref a_x1_knowsAtFirst, .ref a_x1_oxWeight, .ref a_x1_oxPrice])), (a_x1_weight, .inl (tI, 6, .inl x1_weight)), (a_x1_chance, .inl (tI, 6, .inl x1_chance)), (a_x1_knowsAtFirst, .inl (tI, 6, .inl x1_knowsAtFirst))] H := hP
  have hD : va_D A [(a_o, .inr (3, [.ref a_o_bytes, .int (nI o_length), .int r23_o_faultPlace, .int r23_o_faultNumber, .int (nI r23_o_at), .int (nI r23_o_numberPlace), .int o_yearClauses, .int o_knowsClauses, .int (o_otherClauses + (1 : Int32))])), (a_o_bytes, .inl (tB, 500, .inl o_bytes)), (a_x1, .inr (1, [.int x1_year, .int (nI x1_bridges), .int (nI x1_men), .int (nI x1_oxen), .ref a_x1_forgets, .ref a_x1_weight, .ref a_x1_chance, .ref a_x1_knowsAtFirst, .ref a_x1_oxWeight, .ref a_x1_oxPrice])), (a_x1_weight, .inl (tI, 6, .inl x1_weight)), (a_x1_chance, .inl (tI, 6, .inl x1_chance)), (a_x1_knowsAtFirst, .inl (tI, 6, .inl x1_knowsAtFirst))] := hD
  have hR : K_X3_readMan_23 o_otherClauses o_length o_bytes r15_r x1_men x1_weight x1_chance x1_knowsAtFirst r23_r r23_o_at r23_o_numberPlace r23_o_faultNumber r23_o_faultPlace = RES := hR
  unfold K_X3_readMan_23 at hR
  refine lv_istore_n (lv' := [(3, .int r23_r), (2, .int r15_r), (0, .ref a_o), (1, .ref a_x1)]) hx hb dX3_readMan_26 rfl hl (by decide) rfl (fun ls hl => ?_)
  refine lv_aload_n hx hb dX3_readMan_27 rfl (lv_at hl 2 rfl) ?_
  have hC_28 := (c_X3_endClause l D tB tI tZ a_o a_o_bytes o_length r23_o_faultPlace r23_o_faultNumber r23_o_at r23_o_numberPlace o_yearClauses o_knowsClauses (o_otherClauses + (1 : Int32)) o_bytes (show o_length ≤ 500 by first | assumption | omega | exact NN.none | exact NN.nat (by omega) (by omega) | exact NN.up (by assumption) (by omega)) (show r23_o_at ≤ o_length by first | assumption | omega | exact NN.none | exact NN.nat (by omega) (by omega) | exact NN.up (by assumption) (by omega)))
  generalize hu_28 : (S_X3_endClause r23_o_faultNumber o_length r23_o_faultPlace r23_o_at o_bytes) = u_28 at hC_28 hR
  obtain ⟨r28_o_at, r28_o_faultNumber, r28_o_faultPlace⟩ := u_28
  obtain ⟨hpa_28, hpb_28⟩ := endClause_ok hu_28 (by omega)
  refine kcV E hl.1 hC_28 cv_X3_endClause wm_X3_112 hP hD hS hA [0, 1] rfl rfl rfl (ws2 := [(a_o, .inr (3, [.ref a_o_bytes, .int (nI o_length), .int r28_o_faultPlace, .int r28_o_faultNumber, .int (nI r28_o_at), .int (nI r23_o_numberPlace), .int o_yearClauses, .int o_knowsClauses, .int (o_otherClauses + (1 : Int32))])), (a_o_bytes, .inl (tB, 500, .inl o_bytes)), (a_x1, .inr (1, [.int x1_year, .int (nI x1_bridges), .int (nI x1_men), .int (nI x1_oxen), .ref a_x1_forgets, .ref a_x1_weight, .ref a_x1_chance, .ref a_x1_knowsAtFirst, .ref a_x1_oxWeight, .ref a_x1_oxPrice])), (a_x1_weight, .inl (tI, 6, .inl x1_weight)), (a_x1_chance, .inl (tI, 6, .inl x1_chance)), (a_x1_knowsAtFirst, .inl (tI, 6, .inl x1_knowsAtFirst))]) rfl rfl (b := a_o) (As := []) (rest := []) 0 3 rfl rfl rfl rfl (Nat.le_of_ble_eq_true rfl) ⟨Nat.le_of_ble_eq_true rfl, Nat.le_of_ble_eq_true rfl⟩ ⟨Nat.zero_le _, Nat.zero_le _⟩ dX3_readMan_28 (fun H locs hP hD hS => ?_)
  have hP : va_P D vwCl [(a_o, .inr (3, [.ref a_o_bytes, .int (nI o_length), .int r28_o_faultPlace, .int r28_o_faultNumber, .int (nI r28_o_at), .int (nI r23_o_numberPlace), .int o_yearClauses, .int o_knowsClauses, .int (o_otherClauses + (1 : Int32))])), (a_o_bytes, .inl (tB, 500, .inl o_bytes)), (a_x1, .inr (1, [.int x1_year, .int (nI x1_bridges), .int (nI x1_men), .int (nI x1_oxen), .ref a_x1_forgets, .ref a_x1_weight, .ref a_x1_chance, .ref a_x1_knowsAtFirst, .ref a_x1_oxWeight, .ref a_x1_oxPrice])), (a_x1_weight, .inl (tI, 6, .inl x1_weight)), (a_x1_chance, .inl (tI, 6, .inl x1_chance)), (a_x1_knowsAtFirst, .inl (tI, 6, .inl x1_knowsAtFirst))] H := hP
  have hD : va_D A [(a_o, .inr (3, [.ref a_o_bytes, .int (nI o_length), .int r28_o_faultPlace, .int r28_o_faultNumber, .int (nI r28_o_at), .int (nI r23_o_numberPlace), .int o_yearClauses, .int o_knowsClauses, .int (o_otherClauses + (1 : Int32))])), (a_o_bytes, .inl (tB, 500, .inl o_bytes)), (a_x1, .inr (1, [.int x1_year, .int (nI x1_bridges), .int (nI x1_men), .int (nI x1_oxen), .ref a_x1_forgets, .ref a_x1_weight, .ref a_x1_chance, .ref a_x1_knowsAtFirst, .ref a_x1_oxWeight, .ref a_x1_oxPrice])), (a_x1_weight, .inl (tI, 6, .inl x1_weight)), (a_x1_chance, .inl (tI, 6, .inl x1_chance)), (a_x1_knowsAtFirst, .inl (tI, 6, .inl x1_knowsAtFirst))] := hD
  have hR : K_X3_readMan_28 o_otherClauses r15_r r23_r r23_o_numberPlace x1_men x1_weight x1_chance x1_knowsAtFirst r28_o_at r28_o_faultNumber r28_o_faultPlace = RES := hR
  unfold K_X3_readMan_28 at hR
  refine lv_aload_n hx hb dX3_readMan_31 rfl (lv_at hl 3 rfl) ?_
  refine lv_iload_n hx hb dX3_readMan_32 rfl (lv_at hl 1 rfl) ?_
  refine lv_iload_n hx hb dX3_readMan_33 rfl (lv_at hl 0 rfl) ?_
  have hC_34 := (c_X1_addMan l D tB tI tZ a_x1 a_x1_forgets a_x1_weight a_x1_chance a_x1_knowsAtFirst a_x1_oxWeight a_x1_oxPrice x1_year x1_bridges x1_men x1_oxen x1_weight x1_chance x1_knowsAtFirst r15_r r23_r (show x1_bridges ≤ 5 by first | assumption | omega | exact NN.none | exact NN.nat (by omega) (by omega) | exact NN.up (by assumption) (by omega)) (show x1_men ≤ 6 by first | assumption | omega | exact NN.none | exact NN.nat (by omega) (by omega) | exact NN.up (by assumption) (by omega)) (show x1_oxen ≤ 5 by first | assumption | omega | exact NN.none | exact NN.nat (by omega) (by omega) | exact NN.up (by assumption) (by omega)))
  generalize hu_34 : (S_X1_addMan r15_r r23_r x1_men x1_weight x1_chance x1_knowsAtFirst) = u_34 at hC_34 hR
  obtain ⟨r34_o_weight, r34_o_chance, r34_o_knowsAtFirst, r34_o_men⟩ := u_34
  refine kcV E hl.1 hC_34 cv_X1_addMan wm_X3_121 hP hD hS hA [2, 3, 4, 5] rfl rfl rfl (ws2 := [(a_o, .inr (3, [.ref a_o_bytes, .int (nI o_length), .int r28_o_faultPlace, .int r28_o_faultNumber, .int (nI r28_o_at), .int (nI r23_o_numberPlace), .int o_yearClauses, .int o_knowsClauses, .int (o_otherClauses + (1 : Int32))])), (a_o_bytes, .inl (tB, 500, .inl o_bytes)), (a_x1, .inr (1, [.int x1_year, .int (nI x1_bridges), .int (nI r34_o_men), .int (nI x1_oxen), .ref a_x1_forgets, .ref a_x1_weight, .ref a_x1_chance, .ref a_x1_knowsAtFirst, .ref a_x1_oxWeight, .ref a_x1_oxPrice])), (a_x1_weight, .inl (tI, 6, .inl r34_o_weight)), (a_x1_chance, .inl (tI, 6, .inl r34_o_chance)), (a_x1_knowsAtFirst, .inl (tI, 6, .inl r34_o_knowsAtFirst))]) rfl rfl (b := a_x1) (As := [.int r15_r, .int r23_r]) (rest := []) 0 1 rfl rfl rfl rfl (Nat.le_of_ble_eq_true rfl) ⟨Nat.le_of_ble_eq_true rfl, Nat.le_of_ble_eq_true rfl⟩ ⟨Nat.zero_le _, Nat.zero_le _⟩ dX3_readMan_34 (fun H locs hP hD hS => ?_)
  have hP : va_P D vwCl [(a_o, .inr (3, [.ref a_o_bytes, .int (nI o_length), .int r28_o_faultPlace, .int r28_o_faultNumber, .int (nI r28_o_at), .int (nI r23_o_numberPlace), .int o_yearClauses, .int o_knowsClauses, .int (o_otherClauses + (1 : Int32))])), (a_o_bytes, .inl (tB, 500, .inl o_bytes)), (a_x1, .inr (1, [.int x1_year, .int (nI x1_bridges), .int (nI r34_o_men), .int (nI x1_oxen), .ref a_x1_forgets, .ref a_x1_weight, .ref a_x1_chance, .ref a_x1_knowsAtFirst, .ref a_x1_oxWeight, .ref a_x1_oxPrice])), (a_x1_weight, .inl (tI, 6, .inl r34_o_weight)), (a_x1_chance, .inl (tI, 6, .inl r34_o_chance)), (a_x1_knowsAtFirst, .inl (tI, 6, .inl r34_o_knowsAtFirst))] H := hP
  have hD : va_D A [(a_o, .inr (3, [.ref a_o_bytes, .int (nI o_length), .int r28_o_faultPlace, .int r28_o_faultNumber, .int (nI r28_o_at), .int (nI r23_o_numberPlace), .int o_yearClauses, .int o_knowsClauses, .int (o_otherClauses + (1 : Int32))])), (a_o_bytes, .inl (tB, 500, .inl o_bytes)), (a_x1, .inr (1, [.int x1_year, .int (nI x1_bridges), .int (nI r34_o_men), .int (nI x1_oxen), .ref a_x1_forgets, .ref a_x1_weight, .ref a_x1_chance, .ref a_x1_knowsAtFirst, .ref a_x1_oxWeight, .ref a_x1_oxPrice])), (a_x1_weight, .inl (tI, 6, .inl r34_o_weight)), (a_x1_chance, .inl (tI, 6, .inl r34_o_chance)), (a_x1_knowsAtFirst, .inl (tI, 6, .inl r34_o_knowsAtFirst))] := hD
  have hR : K_X3_readMan_34 o_otherClauses r23_o_numberPlace r28_o_at r28_o_faultNumber r28_o_faultPlace r34_o_weight r34_o_chance r34_o_knowsAtFirst r34_o_men = RES := hR
  unfold K_X3_readMan_34 at hR
  subst hR
  exact (hF _ _ _ _ hP hS).2.2.2 rfl rfl dX3_readMan_37

def K_X3_readOx_35 (o_otherClauses : Int32) (r24_o_numberPlace : Nat) (r29_o_at : Nat) (r29_o_faultNumber : Int32) (r29_o_faultPlace : Int32) (r35_o_oxWeight : Nat → Int32) (r35_o_oxPrice : Nat → Int32) (r35_o_oxen : Nat) : Int32 × Nat × Nat × Int32 × Int32 × (Nat → Int32) × (Nat → Int32) × Nat := ((o_otherClauses + (1 : Int32)), r29_o_at, r24_o_numberPlace, r29_o_faultNumber, r29_o_faultPlace, r35_o_oxWeight, r35_o_oxPrice, r35_o_oxen)
def K_X3_readOx_29 (o_otherClauses : Int32) (r15_r : Int32) (r24_r : Int32) (r24_o_numberPlace : Nat) (x1_oxen : Nat) (x1_oxWeight : Nat → Int32) (x1_oxPrice : Nat → Int32) (r29_o_at : Nat) (r29_o_faultNumber : Int32) (r29_o_faultPlace : Int32) : Int32 × Nat × Nat × Int32 × Int32 × (Nat → Int32) × (Nat → Int32) × Nat := ((fun u => K_X3_readOx_35 o_otherClauses r24_o_numberPlace r29_o_at r29_o_faultNumber r29_o_faultPlace u.1 u.2.1 u.2.2) (S_X1_addOx r15_r r24_r x1_oxen x1_oxWeight x1_oxPrice))
def K_X3_readOx_24 (o_otherClauses : Int32) (o_length : Nat) (o_bytes : Nat → Int32) (r15_r : Int32) (x1_oxen : Nat) (x1_oxWeight : Nat → Int32) (x1_oxPrice : Nat → Int32) (r24_r : Int32) (r24_o_at : Nat) (r24_o_numberPlace : Nat) (r24_o_faultNumber : Int32) (r24_o_faultPlace : Int32) : Int32 × Nat × Nat × Int32 × Int32 × (Nat → Int32) × (Nat → Int32) × Nat := ((fun u => K_X3_readOx_29 o_otherClauses r15_r r24_r r24_o_numberPlace x1_oxen x1_oxWeight x1_oxPrice u.1 u.2.1 u.2.2) (S_X3_endClause r24_o_faultNumber o_length r24_o_faultPlace r24_o_at o_bytes))
def K_X3_readOx_15 (o_otherClauses : Int32) (o_length : Nat) (o_bytes : Nat → Int32) (x1_oxen : Nat) (x1_oxWeight : Nat → Int32) (x1_oxPrice : Nat → Int32) (r15_r : Int32) (r15_o_at : Nat) (r15_o_numberPlace : Nat) (r15_o_faultNumber : Int32) (r15_o_faultPlace : Int32) : Int32 × Nat × Nat × Int32 × Int32 × (Nat → Int32) × (Nat → Int32) × Nat := ((fun u => K_X3_readOx_24 o_otherClauses o_length o_bytes r15_r x1_oxen x1_oxWeight x1_oxPrice u.1 u.2.1 u.2.2.1 u.2.2.2.1 u.2.2.2.2) (S_X3_number (0 : Int32) (999 : Int32) r15_o_faultNumber o_length r15_o_faultPlace r15_o_at r15_o_numberPlace o_bytes))
def S_X3_readOx (o_otherClauses : Int32) (o_length : Nat) (o_faultPlace : Int32) (o_faultNumber : Int32) (o_at : Nat) (o_numberPlace : Nat) (o_bytes : Nat → Int32) (x1_oxen : Nat) (x1_oxWeight : Nat → Int32) (x1_oxPrice : Nat → Int32) : Int32 × Nat × Nat × Int32 × Int32 × (Nat → Int32) × (Nat → Int32) × Nat := ((fun u => K_X3_readOx_15 o_otherClauses o_length o_bytes x1_oxen x1_oxWeight x1_oxPrice u.1 u.2.1 u.2.2.1 u.2.2.2.1 u.2.2.2.2) (S_X3_number (1 : Int32) (999 : Int32) o_faultNumber o_length o_faultPlace o_at o_numberPlace o_bytes))
set_option maxHeartbeats 4000000 in
set_option maxRecDepth 100000 in
theorem c_X3_readOx (l : Launch) (D : va_G) (tB tI tZ : ClassId) (a_o a_o_bytes a_x1 a_x1_forgets a_x1_weight a_x1_chance a_x1_knowsAtFirst a_x1_oxWeight a_x1_oxPrice : Nat) (o_length : Nat) (o_faultPlace : Int32) (o_faultNumber : Int32) (o_at : Nat) (o_numberPlace : Nat) (o_yearClauses : Int32) (o_knowsClauses : Int32) (o_otherClauses : Int32) (o_bytes : Nat → Int32) (x1_year : Int32) (x1_bridges : Nat) (x1_men : Nat) (x1_oxen : Nat) (x1_oxWeight : Nat → Int32) (x1_oxPrice : Nat → Int32)  (hlen : o_length ≤ 500) (hat : o_at ≤ o_length) (hbr : x1_bridges ≤ 5) (hmen : x1_men ≤ 6) (hox : x1_oxen ≤ 5) : CT l D (tyL tB tI tZ) yX3_readOx (.code yX3_readOx cX3_readOx 4 none) 3 61 [.ref a_o, .ref a_x1] [(a_o, .inr (3, [.ref a_o_bytes, .int (nI o_length), .int o_faultPlace, .int o_faultNumber, .int (nI o_at), .int (nI o_numberPlace), .int o_yearClauses, .int o_knowsClauses, .int o_otherClauses])), (a_o_bytes, .inl (tB, 500, .inl o_bytes)), (a_x1, .inr (1, [.int x1_year, .int (nI x1_bridges), .int (nI x1_men), .int (nI x1_oxen), .ref a_x1_forgets, .ref a_x1_weight, .ref a_x1_chance, .ref a_x1_knowsAtFirst, .ref a_x1_oxWeight, .ref a_x1_oxPrice])), (a_x1_oxWeight, .inl (tI, 5, .inl x1_oxWeight)), (a_x1_oxPrice, .inl (tI, 5, .inl x1_oxPrice))] (fun _ : Int32 × Nat × Nat × Int32 × Int32 × (Nat → Int32) × (Nat → Int32) × Nat => none) (fun u : Int32 × Nat × Nat × Int32 × Int32 × (Nat → Int32) × (Nat → Int32) × Nat => [(a_o, .inr (3, [.ref a_o_bytes, .int (nI o_length), .int (u.2.2.2.2.1), .int (u.2.2.2.1), .int (nI (u.2.1)), .int (nI (u.2.2.1)), .int o_yearClauses, .int o_knowsClauses, .int (u.1)])), (a_o_bytes, .inl (tB, 500, .inl o_bytes)), (a_x1, .inr (1, [.int x1_year, .int (nI x1_bridges), .int (nI x1_men), .int (nI (u.2.2.2.2.2.2.2)), .ref a_x1_forgets, .ref a_x1_weight, .ref a_x1_chance, .ref a_x1_knowsAtFirst, .ref a_x1_oxWeight, .ref a_x1_oxPrice])), (a_x1_oxWeight, .inl (tI, 5, .inl (u.2.2.2.2.2.1))), (a_x1_oxPrice, .inl (tI, 5, .inl (u.2.2.2.2.2.2.1)))]) (S_X3_readOx o_otherClauses o_length o_faultPlace o_faultNumber o_at o_numberPlace o_bytes x1_oxen x1_oxWeight x1_oxPrice) := by
  refine CT.intro (k := 0) (Nat.le_of_ble_eq_true rfl) (by decide) ?_
  intro p e s m below meth c Q A ls E hA hP hD hS hl hF
  obtain ⟨⟨hx, hb, hml, hown, hts⟩, hK⟩ := id E
  generalize hR : S_X3_readOx o_otherClauses o_length o_faultPlace o_faultNumber o_at o_numberPlace o_bytes x1_oxen x1_oxWeight x1_oxPrice = RES at hF
  unfold S_X3_readOx at hR
  have hl : lv_has ls 4 [(0, .ref a_o), (1, .ref a_x1)] := hl
  refine lv_aload_n hx hb dX3_readOx_0 rfl (lv_at hl 0 rfl) ?_
  refine lv_dup hx hb dX3_readOx_1 rfl ?_
  refine fget E hP 0 rfl fd_X3_37 (v := .int o_otherClauses) rfl dX3_readOx_2 ?_
  refine lv_iconst (v := (1 : Int32)) hx hb dX3_readOx_5 (by decide) ?_
  refine lv_iadd hx hb dX3_readOx_6 ?_
  refine fput E hP hD hS 0 rfl fd_X3_37 fp_X3 (ty := .int) (v := .int (o_otherClauses + (1 : Int32))) rfl rfl rfl rfl (Nat.le_of_ble_eq_true rfl) dX3_readOx_7 (fun H locs hP hD hS => ?_)
  have hP : va_P D vwCl [(a_o, .inr (3, [.ref a_o_bytes, .int (nI o_length), .int o_faultPlace, .int o_faultNumber, .int (nI o_at), .int (nI o_numberPlace), .int o_yearClauses, .int o_knowsClauses, .int (o_otherClauses + (1 : Int32))])), (a_o_bytes, .inl (tB, 500, .inl o_bytes)), (a_x1, .inr (1, [.int x1_year, .int (nI x1_bridges), .int (nI x1_men), .int (nI x1_oxen), .ref a_x1_forgets, .ref a_x1_weight, .ref a_x1_chance, .ref a_x1_knowsAtFirst, .ref a_x1_oxWeight, .ref a_x1_oxPrice])), (a_x1_oxWeight, .inl (tI, 5, .inl x1_oxWeight)), (a_x1_oxPrice, .inl (tI, 5, .inl x1_oxPrice))] H := hP
  have hD : va_D A [(a_o, .inr (3, [.ref a_o_bytes, .int (nI o_length), .int o_faultPlace, .int o_faultNumber, .int (nI o_at), .int (nI o_numberPlace), .int o_yearClauses, .int o_knowsClauses, .int (o_otherClauses + (1 : Int32))])), (a_o_bytes, .inl (tB, 500, .inl o_bytes)), (a_x1, .inr (1, [.int x1_year, .int (nI x1_bridges), .int (nI x1_men), .int (nI x1_oxen), .ref a_x1_forgets, .ref a_x1_weight, .ref a_x1_chance, .ref a_x1_knowsAtFirst, .ref a_x1_oxWeight, .ref a_x1_oxPrice])), (a_x1_oxWeight, .inl (tI, 5, .inl x1_oxWeight)), (a_x1_oxPrice, .inl (tI, 5, .inl x1_oxPrice))] := hD
  refine lv_aload_n hx hb dX3_readOx_10 rfl (lv_at hl 0 rfl) ?_
  refine lv_iconst (v := (1 : Int32)) hx hb dX3_readOx_11 (by decide) ?_
  refine lv_sipush (v := (999 : Int32)) hx hb dX3_readOx_12 (by decide) ?_
  have hC_15 := (c_X3_number l D tB tI tZ a_o a_o_bytes o_length o_faultPlace o_faultNumber o_at o_numberPlace o_yearClauses o_knowsClauses (o_otherClauses + (1 : Int32)) o_bytes (1 : Int32) (999 : Int32) (show o_length ≤ 500 by first | assumption | omega | exact NN.none | exact NN.nat (by omega) (by omega) | exact NN.up (by assumption) (by omega)) (show o_at ≤ o_length by first | assumption | omega | exact NN.none | exact NN.nat (by omega) (by omega) | exact NN.up (by assumption) (by omega)))
  generalize hu_15 : (S_X3_number (1 : Int32) (999 : Int32) o_faultNumber o_length o_faultPlace o_at o_numberPlace o_bytes) = u_15 at hC_15 hR
  obtain ⟨r15_r, r15_o_at, r15_o_numberPlace, r15_o_faultNumber, r15_o_faultPlace⟩ := u_15
  obtain ⟨hpa_15, hpb_15⟩ := number_ok hu_15 (by omega)
  refine kcV E hl.1 hC_15 cv_X3_number wm_X3_109 hP hD hS hA [0, 1] rfl rfl rfl (ws2 := [(a_o, .inr (3, [.ref a_o_bytes, .int (nI o_length), .int r15_o_faultPlace, .int r15_o_faultNumber, .int (nI r15_o_at), .int (nI r15_o_numberPlace), .int o_yearClauses, .int o_knowsClauses, .int (o_otherClauses + (1 : Int32))])), (a_o_bytes, .inl (tB, 500, .inl o_bytes)), (a_x1, .inr (1, [.int x1_year, .int (nI x1_bridges), .int (nI x1_men), .int (nI x1_oxen), .ref a_x1_forgets, .ref a_x1_weight, .ref a_x1_chance, .ref a_x1_knowsAtFirst, .ref a_x1_oxWeight, .ref a_x1_oxPrice])), (a_x1_oxWeight, .inl (tI, 5, .inl x1_oxWeight)), (a_x1_oxPrice, .inl (tI, 5, .inl x1_oxPrice))]) rfl rfl (b := a_o) (As := [.int (1 : Int32), .int (999 : Int32)]) (rest := []) 0 3 rfl rfl rfl rfl (Nat.le_of_ble_eq_true rfl) ⟨Nat.le_of_ble_eq_true rfl, Nat.le_of_ble_eq_true rfl⟩ ⟨Nat.zero_le _, Nat.zero_le _⟩ dX3_readOx_15 (fun H locs hP hD hS => ?_)
  have hP : va_P D vwCl [(a_o, .inr (3, [.ref a_o_bytes, .int (nI o_length), .int r15_o_faultPlace, .int r15_o_faultNumber, .int (nI r15_o_at), .int (nI r15_o_numberPlace), .int o_yearClauses, .int o_knowsClauses, .int (o_otherClauses + (1 : Int32))])), (a_o_bytes, .inl (tB, 500, .inl o_bytes)), (a_x1, .inr (1, [.int x1_year, .int (nI x1_bridges), .int (nI x1_men), .int (nI x1_oxen), .ref a_x1_forgets, .ref a_x1_weight, .ref a_x1_chance, .ref a_x1_knowsAtFirst, .ref a_x1_oxWeight, .ref a_x1_oxPrice])), (a_x1_oxWeight, .inl (tI, 5, .inl x1_oxWeight)), (a_x1_oxPrice, .inl (tI, 5, .inl x1_oxPrice))] H := hP
  have hD : va_D A [(a_o, .inr (3, [.ref a_o_bytes, .int (nI o_length), .int r15_o_faultPlace, .int r15_o_faultNumber, .int (nI r15_o_at), .int (nI r15_o_numberPlace), .int o_yearClauses, .int o_knowsClauses, .int (o_otherClauses + (1 : Int32))])), (a_o_bytes, .inl (tB, 500, .inl o_bytes)), (a_x1, .inr (1, [.int x1_year, .int (nI x1_bridges), .int (nI x1_men), .int (nI x1_oxen), .ref a_x1_forgets, .ref a_x1_weight, .ref a_x1_chance, .ref a_x1_knowsAtFirst, .ref a_x1_oxWeight, .ref a_x1_oxPrice])), (a_x1_oxWeight, .inl (tI, 5, .inl x1_oxWeight)), (a_x1_oxPrice, .inl (tI, 5, .inl x1_oxPrice))] := hD
  have hR : K_X3_readOx_15 o_otherClauses o_length o_bytes x1_oxen x1_oxWeight x1_oxPrice r15_r r15_o_at r15_o_numberPlace r15_o_faultNumber r15_o_faultPlace = RES := hR
  unfold K_X3_readOx_15 at hR
  refine lv_istore_n (lv' := [(2, .int r15_r), (0, .ref a_o), (1, .ref a_x1)]) hx hb dX3_readOx_18 rfl hl (by decide) rfl (fun ls hl => ?_)
  refine lv_aload_n hx hb dX3_readOx_19 rfl (lv_at hl 1 rfl) ?_
  refine lv_iconst (v := (0 : Int32)) hx hb dX3_readOx_20 (by decide) ?_
  refine lv_sipush (v := (999 : Int32)) hx hb dX3_readOx_21 (by decide) ?_
  have hC_24 := (c_X3_number l D tB tI tZ a_o a_o_bytes o_length r15_o_faultPlace r15_o_faultNumber r15_o_at r15_o_numberPlace o_yearClauses o_knowsClauses (o_otherClauses + (1 : Int32)) o_bytes (0 : Int32) (999 : Int32) (show o_length ≤ 500 by first | assumption | omega | exact NN.none | exact NN.nat (by omega) (by omega) | exact NN.up (by assumption) (by omega)) (show r15_o_at ≤ o_length by first | assumption | omega | exact NN.none | exact NN.nat (by omega) (by omega) | exact NN.up (by assumption) (by omega)))
  generalize hu_24 : (S_X3_number (0 : Int32) (999 : Int32) r15_o_faultNumber o_length r15_o_faultPlace r15_o_at r15_o_numberPlace o_bytes) = u_24 at hC_24 hR
  obtain ⟨r24_r, r24_o_at, r24_o_numberPlace, r24_o_faultNumber, r24_o_faultPlace⟩ := u_24
  obtain ⟨hpa_24, hpb_24⟩ := number_ok hu_24 (by omega)
  refine kcV E hl.1 hC_24 cv_X3_number wm_X3_109 hP hD hS hA [0, 1] rfl rfl rfl (ws2 := [(a_o, .inr (3, [.ref a_o_bytes, .int (nI o_length), .int r24_o_faultPlace, .int r24_o_faultNumber, .int (nI r24_o_at), .int (nI r24_o_numberPlace), .int o_yearClauses, .int o_knowsClauses, .int (o_otherClauses + (1 : Int32))])), (a_o_bytes, .inl (tB, 500, .inl o_bytes)), (a_x1, .inr (1, [.int x1_year, .int (nI x1_bridges), .int (nI x1_men), .int (nI x1_oxen), .ref a_x1_forgets, .ref a_x1_weight, .ref a_x1_chance, .ref a_x1_knowsAtFirst, .ref a_x1_oxWeight, .ref a_x1_oxPrice])), (a_x1_oxWeight, .inl (tI, 5, .inl x1_oxWeight)), (a_x1_oxPrice, .inl (tI, 5, .inl x1_oxPrice))]) rfl rfl (b := a_o) (As := [.int (0 : Int32), .int (999 : Int32)]) (rest := []) 0 3 rfl rfl rfl rfl (Nat.le_of_ble_eq_true rfl) ⟨Nat.le_of_ble_eq_true rfl, Nat.le_of_ble_eq_true rfl⟩ ⟨Nat.zero_le _, Nat.zero_le _⟩ dX3_readOx_24 (fun H locs hP hD hS => ?_)
  have hP : va_P D vwCl [(a_o, .inr (3, [.ref a_o_bytes, .int (nI o_length), .int r24_o_faultPlace, .int r24_o_faultNumber, .int (nI r24_o_at), .int (nI r24_o_numberPlace), .int o_yearClauses, .int o_knowsClauses, .int (o_otherClauses + (1 : Int32))])), (a_o_bytes, .inl (tB, 500, .inl o_bytes)), (a_x1, .inr (1, [.int x1_year, .int (nI x1_bridges), .int (nI x1_men), .int (nI x1_oxen), .ref a_x1_forgets, .ref a_x1_weight, .ref a_x1_chance, .ref a_x1_knowsAtFirst, .ref a_x1_oxWeight, .ref a_x1_oxPrice])), (a_x1_oxWeight, .inl (tI, 5, .inl x1_oxWeight)), (a_x1_oxPrice, .inl (tI, 5, .inl x1_oxPrice))] H := hP
  have hD : va_D A [(a_o, .inr (3, [.ref a_o_bytes, .int (nI o_length), .int r24_o_faultPlace, .int r24_o_faultNumber, .int (nI r24_o_at), .int (nI r24_o_numberPlace), .int o_yearClauses, .int o_knowsClauses, .int (o_otherClauses + (1 : Int32))])), (a_o_bytes, .inl (tB, 500, .inl o_bytes)), (a_x1, .inr (1, [.int x1_year, .int (nI x1_bridges), .int (nI x1_men), .int (nI x1_oxen), .ref a_x1_forgets, .ref a_x1_weight, .ref a_x1_chance, .ref a_x1_knowsAtFirst, .ref a_x1_oxWeight, .ref a_x1_oxPrice])), (a_x1_oxWeight, .inl (tI, 5, .inl x1_oxWeight)), (a_x1_oxPrice, .inl (tI, 5, .inl x1_oxPrice))] := hD
  have hR : K_X3_readOx_24 o_otherClauses o_length o_bytes r15_r x1_oxen x1_oxWeight x1_oxPrice r24_r r24_o_at r24_o_numberPlace r24_o_faultNumber r24_o_faultPlace = RES := hR
  unfold K_X3_readOx_24 at hR
  refine lv_istore_n (lv' := [(3, .int r24_r), (2, .int r15_r), (0, .ref a_o), (1, .ref a_x1)]) hx hb dX3_readOx_27 rfl hl (by decide) rfl (fun ls hl => ?_)
  refine lv_aload_n hx hb dX3_readOx_28 rfl (lv_at hl 2 rfl) ?_
  have hC_29 := (c_X3_endClause l D tB tI tZ a_o a_o_bytes o_length r24_o_faultPlace r24_o_faultNumber r24_o_at r24_o_numberPlace o_yearClauses o_knowsClauses (o_otherClauses + (1 : Int32)) o_bytes (show o_length ≤ 500 by first | assumption | omega | exact NN.none | exact NN.nat (by omega) (by omega) | exact NN.up (by assumption) (by omega)) (show r24_o_at ≤ o_length by first | assumption | omega | exact NN.none | exact NN.nat (by omega) (by omega) | exact NN.up (by assumption) (by omega)))
  generalize hu_29 : (S_X3_endClause r24_o_faultNumber o_length r24_o_faultPlace r24_o_at o_bytes) = u_29 at hC_29 hR
  obtain ⟨r29_o_at, r29_o_faultNumber, r29_o_faultPlace⟩ := u_29
  obtain ⟨hpa_29, hpb_29⟩ := endClause_ok hu_29 (by omega)
  refine kcV E hl.1 hC_29 cv_X3_endClause wm_X3_112 hP hD hS hA [0, 1] rfl rfl rfl (ws2 := [(a_o, .inr (3, [.ref a_o_bytes, .int (nI o_length), .int r29_o_faultPlace, .int r29_o_faultNumber, .int (nI r29_o_at), .int (nI r24_o_numberPlace), .int o_yearClauses, .int o_knowsClauses, .int (o_otherClauses + (1 : Int32))])), (a_o_bytes, .inl (tB, 500, .inl o_bytes)), (a_x1, .inr (1, [.int x1_year, .int (nI x1_bridges), .int (nI x1_men), .int (nI x1_oxen), .ref a_x1_forgets, .ref a_x1_weight, .ref a_x1_chance, .ref a_x1_knowsAtFirst, .ref a_x1_oxWeight, .ref a_x1_oxPrice])), (a_x1_oxWeight, .inl (tI, 5, .inl x1_oxWeight)), (a_x1_oxPrice, .inl (tI, 5, .inl x1_oxPrice))]) rfl rfl (b := a_o) (As := []) (rest := []) 0 3 rfl rfl rfl rfl (Nat.le_of_ble_eq_true rfl) ⟨Nat.le_of_ble_eq_true rfl, Nat.le_of_ble_eq_true rfl⟩ ⟨Nat.zero_le _, Nat.zero_le _⟩ dX3_readOx_29 (fun H locs hP hD hS => ?_)
  have hP : va_P D vwCl [(a_o, .inr (3, [.ref a_o_bytes, .int (nI o_length), .int r29_o_faultPlace, .int r29_o_faultNumber, .int (nI r29_o_at), .int (nI r24_o_numberPlace), .int o_yearClauses, .int o_knowsClauses, .int (o_otherClauses + (1 : Int32))])), (a_o_bytes, .inl (tB, 500, .inl o_bytes)), (a_x1, .inr (1, [.int x1_year, .int (nI x1_bridges), .int (nI x1_men), .int (nI x1_oxen), .ref a_x1_forgets, .ref a_x1_weight, .ref a_x1_chance, .ref a_x1_knowsAtFirst, .ref a_x1_oxWeight, .ref a_x1_oxPrice])), (a_x1_oxWeight, .inl (tI, 5, .inl x1_oxWeight)), (a_x1_oxPrice, .inl (tI, 5, .inl x1_oxPrice))] H := hP
  have hD : va_D A [(a_o, .inr (3, [.ref a_o_bytes, .int (nI o_length), .int r29_o_faultPlace, .int r29_o_faultNumber, .int (nI r29_o_at), .int (nI r24_o_numberPlace), .int o_yearClauses, .int o_knowsClauses, .int (o_otherClauses + (1 : Int32))])), (a_o_bytes, .inl (tB, 500, .inl o_bytes)), (a_x1, .inr (1, [.int x1_year, .int (nI x1_bridges), .int (nI x1_men), .int (nI x1_oxen), .ref a_x1_forgets, .ref a_x1_weight, .ref a_x1_chance, .ref a_x1_knowsAtFirst, .ref a_x1_oxWeight, .ref a_x1_oxPrice])), (a_x1_oxWeight, .inl (tI, 5, .inl x1_oxWeight)), (a_x1_oxPrice, .inl (tI, 5, .inl x1_oxPrice))] := hD
  have hR : K_X3_readOx_29 o_otherClauses r15_r r24_r r24_o_numberPlace x1_oxen x1_oxWeight x1_oxPrice r29_o_at r29_o_faultNumber r29_o_faultPlace = RES := hR
  unfold K_X3_readOx_29 at hR
  refine lv_aload_n hx hb dX3_readOx_32 rfl (lv_at hl 3 rfl) ?_
  refine lv_iload_n hx hb dX3_readOx_33 rfl (lv_at hl 1 rfl) ?_
  refine lv_iload_n hx hb dX3_readOx_34 rfl (lv_at hl 0 rfl) ?_
  have hC_35 := (c_X1_addOx l D tB tI tZ a_x1 a_x1_forgets a_x1_weight a_x1_chance a_x1_knowsAtFirst a_x1_oxWeight a_x1_oxPrice x1_year x1_bridges x1_men x1_oxen x1_oxWeight x1_oxPrice r15_r r24_r (show x1_bridges ≤ 5 by first | assumption | omega | exact NN.none | exact NN.nat (by omega) (by omega) | exact NN.up (by assumption) (by omega)) (show x1_men ≤ 6 by first | assumption | omega | exact NN.none | exact NN.nat (by omega) (by omega) | exact NN.up (by assumption) (by omega)) (show x1_oxen ≤ 5 by first | assumption | omega | exact NN.none | exact NN.nat (by omega) (by omega) | exact NN.up (by assumption) (by omega)))
  generalize hu_35 : (S_X1_addOx r15_r r24_r x1_oxen x1_oxWeight x1_oxPrice) = u_35 at hC_35 hR
  obtain ⟨r35_o_oxWeight, r35_o_oxPrice, r35_o_oxen⟩ := u_35
  refine kcV E hl.1 hC_35 cv_X1_addOx wm_X3_124 hP hD hS hA [2, 3, 4] rfl rfl rfl (ws2 := [(a_o, .inr (3, [.ref a_o_bytes, .int (nI o_length), .int r29_o_faultPlace, .int r29_o_faultNumber, .int (nI r29_o_at), .int (nI r24_o_numberPlace), .int o_yearClauses, .int o_knowsClauses, .int (o_otherClauses + (1 : Int32))])), (a_o_bytes, .inl (tB, 500, .inl o_bytes)), (a_x1, .inr (1, [.int x1_year, .int (nI x1_bridges), .int (nI x1_men), .int (nI r35_o_oxen), .ref a_x1_forgets, .ref a_x1_weight, .ref a_x1_chance, .ref a_x1_knowsAtFirst, .ref a_x1_oxWeight, .ref a_x1_oxPrice])), (a_x1_oxWeight, .inl (tI, 5, .inl r35_o_oxWeight)), (a_x1_oxPrice, .inl (tI, 5, .inl r35_o_oxPrice))]) rfl rfl (b := a_x1) (As := [.int r15_r, .int r24_r]) (rest := []) 0 1 rfl rfl rfl rfl (Nat.le_of_ble_eq_true rfl) ⟨Nat.le_of_ble_eq_true rfl, Nat.le_of_ble_eq_true rfl⟩ ⟨Nat.zero_le _, Nat.zero_le _⟩ dX3_readOx_35 (fun H locs hP hD hS => ?_)
  have hP : va_P D vwCl [(a_o, .inr (3, [.ref a_o_bytes, .int (nI o_length), .int r29_o_faultPlace, .int r29_o_faultNumber, .int (nI r29_o_at), .int (nI r24_o_numberPlace), .int o_yearClauses, .int o_knowsClauses, .int (o_otherClauses + (1 : Int32))])), (a_o_bytes, .inl (tB, 500, .inl o_bytes)), (a_x1, .inr (1, [.int x1_year, .int (nI x1_bridges), .int (nI x1_men), .int (nI r35_o_oxen), .ref a_x1_forgets, .ref a_x1_weight, .ref a_x1_chance, .ref a_x1_knowsAtFirst, .ref a_x1_oxWeight, .ref a_x1_oxPrice])), (a_x1_oxWeight, .inl (tI, 5, .inl r35_o_oxWeight)), (a_x1_oxPrice, .inl (tI, 5, .inl r35_o_oxPrice))] H := hP
  have hD : va_D A [(a_o, .inr (3, [.ref a_o_bytes, .int (nI o_length), .int r29_o_faultPlace, .int r29_o_faultNumber, .int (nI r29_o_at), .int (nI r24_o_numberPlace), .int o_yearClauses, .int o_knowsClauses, .int (o_otherClauses + (1 : Int32))])), (a_o_bytes, .inl (tB, 500, .inl o_bytes)), (a_x1, .inr (1, [.int x1_year, .int (nI x1_bridges), .int (nI x1_men), .int (nI r35_o_oxen), .ref a_x1_forgets, .ref a_x1_weight, .ref a_x1_chance, .ref a_x1_knowsAtFirst, .ref a_x1_oxWeight, .ref a_x1_oxPrice])), (a_x1_oxWeight, .inl (tI, 5, .inl r35_o_oxWeight)), (a_x1_oxPrice, .inl (tI, 5, .inl r35_o_oxPrice))] := hD
  have hR : K_X3_readOx_35 o_otherClauses r24_o_numberPlace r29_o_at r29_o_faultNumber r29_o_faultPlace r35_o_oxWeight r35_o_oxPrice r35_o_oxen = RES := hR
  unfold K_X3_readOx_35 at hR
  subst hR
  exact (hF _ _ _ _ hP hS).2.2.2 rfl rfl dX3_readOx_38

def K_X3_readKnows_103 (o_otherClauses : Int32) (o_knowsClauses : Int32) (o_numberPlace_h48 : Nat) (x1_knowsAtFirst_h48 : Nat → Int32) (r103_o_at : Nat) (r103_o_faultNumber : Int32) (r103_o_faultPlace : Int32) : Int32 × Int32 × Nat × Nat × Int32 × Int32 × (Nat → Int32) := ((o_otherClauses + (1 : Int32)), (o_knowsClauses + (1 : Int32)), r103_o_at, o_numberPlace_h48, r103_o_faultNumber, r103_o_faultPlace, x1_knowsAtFirst_h48)
def K_X3_readKnows_48 (o_otherClauses : Int32) (o_length : Nat) (o_knowsClauses : Int32) (o_bytes : Nat → Int32) (v3_48 : Int32) (o_faultPlace_h48 : Int32) (o_faultNumber_h48 : Int32) (o_at_h48 : Nat) (o_numberPlace_h48 : Nat) (x1_knowsAtFirst_h48 : Nat → Int32) : Int32 × Int32 × Nat × Nat × Int32 × Int32 × (Nat → Int32) := ((fun u => K_X3_readKnows_103 o_otherClauses o_knowsClauses o_numberPlace_h48 x1_knowsAtFirst_h48 u.1 u.2.1 u.2.2) (S_X3_endClause o_faultNumber_h48 o_length o_faultPlace_h48 o_at_h48 o_bytes))
def K_X3_readKnows_92 (r69_o_numberPlace : Nat) (r69_o_faultNumber : Int32) (r69_o_faultPlace : Int32) (x1_knowsAtFirst_h48 : Nat → Int32) (r92_r : Int32) (r92_o_at : Nat) : (Int32 × Int32 × Int32 × Nat × Nat × (Nat → Int32)) ⊕ (Int32 × Int32 × Int32 × Nat × Nat × (Nat → Int32)) := (.inl (r92_r, r69_o_faultPlace, r69_o_faultNumber, r92_o_at, r69_o_numberPlace, x1_knowsAtFirst_h48))
def K_X3_readKnows_92_1 (r69_o_numberPlace : Nat) (r86_o_faultNumber : Int32) (r86_o_faultPlace : Int32) (r86_x1_knowsAtFirst : Nat → Int32) (r92_r : Int32) (r92_o_at : Nat) : (Int32 × Int32 × Int32 × Nat × Nat × (Nat → Int32)) ⊕ (Int32 × Int32 × Int32 × Nat × Nat × (Nat → Int32)) := (.inl (r92_r, r86_o_faultPlace, r86_o_faultNumber, r92_o_at, r69_o_numberPlace, r86_x1_knowsAtFirst))
def K_X3_readKnows_86 (o_length : Nat) (o_bytes : Nat → Int32) (r69_o_at : Nat) (r69_o_numberPlace : Nat) (r86_o_faultNumber : Int32) (r86_o_faultPlace : Int32) (r86_x1_knowsAtFirst : Nat → Int32) : (Int32 × Int32 × Int32 × Nat × Nat × (Nat → Int32)) ⊕ (Int32 × Int32 × Int32 × Nat × Nat × (Nat → Int32)) := ((fun u => K_X3_readKnows_92_1 r69_o_numberPlace r86_o_faultNumber r86_o_faultPlace r86_x1_knowsAtFirst u.1 u.2) (S_X3_takes (44 : Int32) r86_o_faultNumber o_length r69_o_at o_bytes))
def K_X3_readKnows_69 (o_length : Nat) (x1_men : Nat) (o_bytes : Nat → Int32) (r28_r : Int32) (x1_knowsAtFirst_h48 : Nat → Int32) (r69_r : Int32) (r69_o_at : Nat) (r69_o_numberPlace : Nat) (r69_o_faultNumber : Int32) (r69_o_faultPlace : Int32) : (Int32 × Int32 × Int32 × Nat × Nat × (Nat → Int32)) ⊕ (Int32 × Int32 × Int32 × Nat × Nat × (Nat → Int32)) := (if r69_o_faultNumber = 0 then ((fun u => K_X3_readKnows_86 o_length o_bytes r69_o_at r69_o_numberPlace u.1 u.2.1 u.2.2) (S_X3_readKnown r28_r r69_r x1_men r69_o_numberPlace r69_o_faultPlace r69_o_faultNumber x1_knowsAtFirst_h48)) else ((fun u => K_X3_readKnows_92 r69_o_numberPlace r69_o_faultNumber r69_o_faultPlace x1_knowsAtFirst_h48 u.1 u.2) (S_X3_takes (44 : Int32) r69_o_faultNumber o_length r69_o_at o_bytes)))
def B_X3_readKnows_48 (o_length : Nat) (x1_men : Nat) (o_bytes : Nat → Int32) (r28_r : Int32) (k_48 : Nat) (v3_48 : Int32) (o_faultPlace_h48 : Int32) (o_faultNumber_h48 : Int32) (o_at_h48 : Nat) (o_numberPlace_h48 : Nat) (x1_knowsAtFirst_h48 : Nat → Int32) : (Int32 × Int32 × Int32 × Nat × Nat × (Nat → Int32)) ⊕ (Int32 × Int32 × Int32 × Nat × Nat × (Nat → Int32)) := (if v3_48 = 0 then (.inr (v3_48, o_faultPlace_h48, o_faultNumber_h48, o_at_h48, o_numberPlace_h48, x1_knowsAtFirst_h48)) else ((fun u => K_X3_readKnows_69 o_length x1_men o_bytes r28_r x1_knowsAtFirst_h48 u.1 u.2.1 u.2.2.1 u.2.2.2.1 u.2.2.2.2) (S_X3_number (0 : Int32) ((nI x1_men) - (1 : Int32)) o_faultNumber_h48 o_length o_faultPlace_h48 o_at_h48 o_numberPlace_h48 o_bytes)))
def K_X3_readKnows_28 (o_otherClauses : Int32) (o_length : Nat) (o_knowsClauses : Int32) (x1_men : Nat) (o_bytes : Nat → Int32) (x1_knowsAtFirst : Nat → Int32) (r28_r : Int32) (r28_o_at : Nat) (r28_o_numberPlace : Nat) (r28_o_faultNumber : Int32) (r28_o_faultPlace : Int32) : Int32 × Int32 × Nat × Nat × Int32 × Int32 × (Nat → Int32) := (if r28_o_faultNumber = 0 then (outB (fun a => K_X3_readKnows_48 o_otherClauses o_length o_knowsClauses o_bytes a.1 a.2.1 a.2.2.1 a.2.2.2.1 a.2.2.2.2.1 a.2.2.2.2.2) (iterE (fun k a => B_X3_readKnows_48 o_length x1_men o_bytes r28_r k a.1 a.2.1 a.2.2.1 a.2.2.2.1 a.2.2.2.2.1 a.2.2.2.2.2) o_length 0 ((1 : Int32), r28_o_faultPlace, r28_o_faultNumber, r28_o_at, r28_o_numberPlace, x1_knowsAtFirst))) else (outB (fun a => K_X3_readKnows_48 o_otherClauses o_length o_knowsClauses o_bytes a.1 a.2.1 a.2.2.1 a.2.2.2.1 a.2.2.2.2.1 a.2.2.2.2.2) (iterE (fun k a => B_X3_readKnows_48 o_length x1_men o_bytes r28_r k a.1 a.2.1 a.2.2.1 a.2.2.2.1 a.2.2.2.2.1 a.2.2.2.2.2) o_length 0 ((0 : Int32), r28_o_faultPlace, r28_o_faultNumber, r28_o_at, r28_o_numberPlace, x1_knowsAtFirst))))
def S_X3_readKnows (o_otherClauses : Int32) (o_length : Nat) (o_faultPlace : Int32) (o_faultNumber : Int32) (o_at : Nat) (o_numberPlace : Nat) (o_knowsClauses : Int32) (x1_men : Nat) (o_bytes : Nat → Int32) (x1_knowsAtFirst : Nat → Int32) : Int32 × Int32 × Nat × Nat × Int32 × Int32 × (Nat → Int32) := ((fun u => K_X3_readKnows_28 o_otherClauses o_length o_knowsClauses x1_men o_bytes x1_knowsAtFirst u.1 u.2.1 u.2.2.1 u.2.2.2.1 u.2.2.2.2) (S_X3_number (0 : Int32) ((nI x1_men) - (1 : Int32)) o_faultNumber o_length o_faultPlace o_at o_numberPlace o_bytes))
set_option maxHeartbeats 4000000 in
set_option maxRecDepth 100000 in
theorem c_X3_readKnows (l : Launch) (D : va_G) (tB tI tZ : ClassId) (a_o a_o_bytes a_x1 a_x1_forgets a_x1_weight a_x1_chance a_x1_knowsAtFirst a_x1_oxWeight a_x1_oxPrice : Nat) (o_length : Nat) (o_faultPlace : Int32) (o_faultNumber : Int32) (o_at : Nat) (o_numberPlace : Nat) (o_yearClauses : Int32) (o_knowsClauses : Int32) (o_otherClauses : Int32) (x1_year : Int32) (x1_bridges : Nat) (x1_men : Nat) (x1_oxen : Nat) (o_bytes : Nat → Int32) (x1_knowsAtFirst : Nat → Int32)  (hlen : o_length ≤ 500) (hat : o_at ≤ o_length) (hbr : x1_bridges ≤ 5) (hmen : x1_men ≤ 6) (hox : x1_oxen ≤ 5) : CT l D (tyL tB tI tZ) yX3_readKnows (.code yX3_readKnows cX3_readKnows 6 none) 3 64 [.ref a_o, .ref a_x1] [(a_o, .inr (3, [.ref a_o_bytes, .int (nI o_length), .int o_faultPlace, .int o_faultNumber, .int (nI o_at), .int (nI o_numberPlace), .int o_yearClauses, .int o_knowsClauses, .int o_otherClauses])), (a_x1, .inr (1, [.int x1_year, .int (nI x1_bridges), .int (nI x1_men), .int (nI x1_oxen), .ref a_x1_forgets, .ref a_x1_weight, .ref a_x1_chance, .ref a_x1_knowsAtFirst, .ref a_x1_oxWeight, .ref a_x1_oxPrice])), (a_o_bytes, .inl (tB, 500, .inl o_bytes)), (a_x1_knowsAtFirst, .inl (tI, 6, .inl x1_knowsAtFirst))] (fun _ : Int32 × Int32 × Nat × Nat × Int32 × Int32 × (Nat → Int32) => none) (fun u : Int32 × Int32 × Nat × Nat × Int32 × Int32 × (Nat → Int32) => [(a_o, .inr (3, [.ref a_o_bytes, .int (nI o_length), .int (u.2.2.2.2.2.1), .int (u.2.2.2.2.1), .int (nI (u.2.2.1)), .int (nI (u.2.2.2.1)), .int o_yearClauses, .int (u.2.1), .int (u.1)])), (a_x1, .inr (1, [.int x1_year, .int (nI x1_bridges), .int (nI x1_men), .int (nI x1_oxen), .ref a_x1_forgets, .ref a_x1_weight, .ref a_x1_chance, .ref a_x1_knowsAtFirst, .ref a_x1_oxWeight, .ref a_x1_oxPrice])), (a_o_bytes, .inl (tB, 500, .inl o_bytes)), (a_x1_knowsAtFirst, .inl (tI, 6, .inl (u.2.2.2.2.2.2)))]) (S_X3_readKnows o_otherClauses o_length o_faultPlace o_faultNumber o_at o_numberPlace o_knowsClauses x1_men o_bytes x1_knowsAtFirst) := by
  refine CT.intro (k := 0) (Nat.le_of_ble_eq_true rfl) (by decide) ?_
  intro p e s m below meth c Q A ls E hA hP hD hS hl hF
  obtain ⟨⟨hx, hb, hml, hown, hts⟩, hK⟩ := id E
  generalize hR : S_X3_readKnows o_otherClauses o_length o_faultPlace o_faultNumber o_at o_numberPlace o_knowsClauses x1_men o_bytes x1_knowsAtFirst = RES at hF
  unfold S_X3_readKnows at hR
  have hl : lv_has ls 6 [(0, .ref a_o), (1, .ref a_x1)] := hl
  refine lv_aload_n hx hb dX3_readKnows_0 rfl (lv_at hl 0 rfl) ?_
  refine lv_dup hx hb dX3_readKnows_1 rfl ?_
  refine fget E hP 0 rfl fd_X3_37 (v := .int o_otherClauses) rfl dX3_readKnows_2 ?_
  refine lv_iconst (v := (1 : Int32)) hx hb dX3_readKnows_5 (by decide) ?_
  refine lv_iadd hx hb dX3_readKnows_6 ?_
  refine fput E hP hD hS 0 rfl fd_X3_37 fp_X3 (ty := .int) (v := .int (o_otherClauses + (1 : Int32))) rfl rfl rfl rfl (Nat.le_of_ble_eq_true rfl) dX3_readKnows_7 (fun H locs hP hD hS => ?_)
  have hP : va_P D vwCl [(a_o, .inr (3, [.ref a_o_bytes, .int (nI o_length), .int o_faultPlace, .int o_faultNumber, .int (nI o_at), .int (nI o_numberPlace), .int o_yearClauses, .int o_knowsClauses, .int (o_otherClauses + (1 : Int32))])), (a_x1, .inr (1, [.int x1_year, .int (nI x1_bridges), .int (nI x1_men), .int (nI x1_oxen), .ref a_x1_forgets, .ref a_x1_weight, .ref a_x1_chance, .ref a_x1_knowsAtFirst, .ref a_x1_oxWeight, .ref a_x1_oxPrice])), (a_o_bytes, .inl (tB, 500, .inl o_bytes)), (a_x1_knowsAtFirst, .inl (tI, 6, .inl x1_knowsAtFirst))] H := hP
  have hD : va_D A [(a_o, .inr (3, [.ref a_o_bytes, .int (nI o_length), .int o_faultPlace, .int o_faultNumber, .int (nI o_at), .int (nI o_numberPlace), .int o_yearClauses, .int o_knowsClauses, .int (o_otherClauses + (1 : Int32))])), (a_x1, .inr (1, [.int x1_year, .int (nI x1_bridges), .int (nI x1_men), .int (nI x1_oxen), .ref a_x1_forgets, .ref a_x1_weight, .ref a_x1_chance, .ref a_x1_knowsAtFirst, .ref a_x1_oxWeight, .ref a_x1_oxPrice])), (a_o_bytes, .inl (tB, 500, .inl o_bytes)), (a_x1_knowsAtFirst, .inl (tI, 6, .inl x1_knowsAtFirst))] := hD
  refine lv_aload_n hx hb dX3_readKnows_10 rfl (lv_at hl 0 rfl) ?_
  refine lv_dup hx hb dX3_readKnows_11 rfl ?_
  refine fget E hP 0 rfl fd_X3_34 (v := .int o_knowsClauses) rfl dX3_readKnows_12 ?_
  refine lv_iconst (v := (1 : Int32)) hx hb dX3_readKnows_15 (by decide) ?_
  refine lv_iadd hx hb dX3_readKnows_16 ?_
  refine fput E hP hD hS 0 rfl fd_X3_34 fp_X3 (ty := .int) (v := .int (o_knowsClauses + (1 : Int32))) rfl rfl rfl rfl (Nat.le_of_ble_eq_true rfl) dX3_readKnows_17 (fun H locs hP hD hS => ?_)
  have hP : va_P D vwCl [(a_o, .inr (3, [.ref a_o_bytes, .int (nI o_length), .int o_faultPlace, .int o_faultNumber, .int (nI o_at), .int (nI o_numberPlace), .int o_yearClauses, .int (o_knowsClauses + (1 : Int32)), .int (o_otherClauses + (1 : Int32))])), (a_x1, .inr (1, [.int x1_year, .int (nI x1_bridges), .int (nI x1_men), .int (nI x1_oxen), .ref a_x1_forgets, .ref a_x1_weight, .ref a_x1_chance, .ref a_x1_knowsAtFirst, .ref a_x1_oxWeight, .ref a_x1_oxPrice])), (a_o_bytes, .inl (tB, 500, .inl o_bytes)), (a_x1_knowsAtFirst, .inl (tI, 6, .inl x1_knowsAtFirst))] H := hP
  have hD : va_D A [(a_o, .inr (3, [.ref a_o_bytes, .int (nI o_length), .int o_faultPlace, .int o_faultNumber, .int (nI o_at), .int (nI o_numberPlace), .int o_yearClauses, .int (o_knowsClauses + (1 : Int32)), .int (o_otherClauses + (1 : Int32))])), (a_x1, .inr (1, [.int x1_year, .int (nI x1_bridges), .int (nI x1_men), .int (nI x1_oxen), .ref a_x1_forgets, .ref a_x1_weight, .ref a_x1_chance, .ref a_x1_knowsAtFirst, .ref a_x1_oxWeight, .ref a_x1_oxPrice])), (a_o_bytes, .inl (tB, 500, .inl o_bytes)), (a_x1_knowsAtFirst, .inl (tI, 6, .inl x1_knowsAtFirst))] := hD
  refine lv_aload_n hx hb dX3_readKnows_20 rfl (lv_at hl 0 rfl) ?_
  refine lv_iconst (v := (0 : Int32)) hx hb dX3_readKnows_21 (by decide) ?_
  refine lv_aload_n hx hb dX3_readKnows_22 rfl (lv_at hl 1 rfl) ?_
  refine fget E hP 1 rfl fd_X3_103 (v := .int (nI x1_men)) rfl dX3_readKnows_23 ?_
  refine lv_iconst (v := (1 : Int32)) hx hb dX3_readKnows_26 (by decide) ?_
  refine lv_isub hx hb dX3_readKnows_27 ?_
  have hC_28 := (c_X3_number l D tB tI tZ a_o a_o_bytes o_length o_faultPlace o_faultNumber o_at o_numberPlace o_yearClauses (o_knowsClauses + (1 : Int32)) (o_otherClauses + (1 : Int32)) o_bytes (0 : Int32) ((nI x1_men) - (1 : Int32)) (show o_length ≤ 500 by first | assumption | omega | exact NN.none | exact NN.nat (by omega) (by omega) | exact NN.up (by assumption) (by omega)) (show o_at ≤ o_length by first | assumption | omega | exact NN.none | exact NN.nat (by omega) (by omega) | exact NN.up (by assumption) (by omega)))
  generalize hu_28 : (S_X3_number (0 : Int32) ((nI x1_men) - (1 : Int32)) o_faultNumber o_length o_faultPlace o_at o_numberPlace o_bytes) = u_28 at hC_28 hR
  obtain ⟨r28_r, r28_o_at, r28_o_numberPlace, r28_o_faultNumber, r28_o_faultPlace⟩ := u_28
  obtain ⟨hpa_28, hpb_28⟩ := number_ok hu_28 (by omega)
  refine kcV E hl.1 hC_28 cv_X3_number wm_X3_109 hP hD hS hA [0, 2] rfl rfl rfl (ws2 := [(a_o, .inr (3, [.ref a_o_bytes, .int (nI o_length), .int r28_o_faultPlace, .int r28_o_faultNumber, .int (nI r28_o_at), .int (nI r28_o_numberPlace), .int o_yearClauses, .int (o_knowsClauses + (1 : Int32)), .int (o_otherClauses + (1 : Int32))])), (a_x1, .inr (1, [.int x1_year, .int (nI x1_bridges), .int (nI x1_men), .int (nI x1_oxen), .ref a_x1_forgets, .ref a_x1_weight, .ref a_x1_chance, .ref a_x1_knowsAtFirst, .ref a_x1_oxWeight, .ref a_x1_oxPrice])), (a_o_bytes, .inl (tB, 500, .inl o_bytes)), (a_x1_knowsAtFirst, .inl (tI, 6, .inl x1_knowsAtFirst))]) rfl rfl (b := a_o) (As := [.int (0 : Int32), .int ((nI x1_men) - (1 : Int32))]) (rest := []) 0 3 rfl rfl rfl rfl (Nat.le_of_ble_eq_true rfl) ⟨Nat.le_of_ble_eq_true rfl, Nat.le_of_ble_eq_true rfl⟩ ⟨Nat.zero_le _, Nat.zero_le _⟩ dX3_readKnows_28 (fun H locs hP hD hS => ?_)
  have hP : va_P D vwCl [(a_o, .inr (3, [.ref a_o_bytes, .int (nI o_length), .int r28_o_faultPlace, .int r28_o_faultNumber, .int (nI r28_o_at), .int (nI r28_o_numberPlace), .int o_yearClauses, .int (o_knowsClauses + (1 : Int32)), .int (o_otherClauses + (1 : Int32))])), (a_x1, .inr (1, [.int x1_year, .int (nI x1_bridges), .int (nI x1_men), .int (nI x1_oxen), .ref a_x1_forgets, .ref a_x1_weight, .ref a_x1_chance, .ref a_x1_knowsAtFirst, .ref a_x1_oxWeight, .ref a_x1_oxPrice])), (a_o_bytes, .inl (tB, 500, .inl o_bytes)), (a_x1_knowsAtFirst, .inl (tI, 6, .inl x1_knowsAtFirst))] H := hP
  have hD : va_D A [(a_o, .inr (3, [.ref a_o_bytes, .int (nI o_length), .int r28_o_faultPlace, .int r28_o_faultNumber, .int (nI r28_o_at), .int (nI r28_o_numberPlace), .int o_yearClauses, .int (o_knowsClauses + (1 : Int32)), .int (o_otherClauses + (1 : Int32))])), (a_x1, .inr (1, [.int x1_year, .int (nI x1_bridges), .int (nI x1_men), .int (nI x1_oxen), .ref a_x1_forgets, .ref a_x1_weight, .ref a_x1_chance, .ref a_x1_knowsAtFirst, .ref a_x1_oxWeight, .ref a_x1_oxPrice])), (a_o_bytes, .inl (tB, 500, .inl o_bytes)), (a_x1_knowsAtFirst, .inl (tI, 6, .inl x1_knowsAtFirst))] := hD
  have hR : K_X3_readKnows_28 o_otherClauses o_length o_knowsClauses x1_men o_bytes x1_knowsAtFirst r28_r r28_o_at r28_o_numberPlace r28_o_faultNumber r28_o_faultPlace = RES := hR
  unfold K_X3_readKnows_28 at hR
  refine lv_istore_n (lv' := [(2, .int r28_r), (0, .ref a_o), (1, .ref a_x1)]) hx hb dX3_readKnows_31 rfl hl (by decide) rfl (fun ls hl => ?_)
  refine lv_aload_n hx hb dX3_readKnows_32 rfl (lv_at hl 1 rfl) ?_
  refine fget E hP 0 rfl fd_X3_22 (v := .int r28_o_faultNumber) rfl dX3_readKnows_33 ?_
  refine lv_if_ne (tgt := 43) hx hb dX3_readKnows_36 (by decide) (fun c_1 => ?_) (fun c_1 => ?_)
  · rw [if_neg c_1] at hR
    refine lv_iconst (v := (0 : Int32)) hx hb dX3_readKnows_43 (by decide) ?_
    refine lv_istore_n (lv' := [(3, .int (0 : Int32)), (2, .int r28_r), (0, .ref a_o), (1, .ref a_x1)]) hx hb dX3_readKnows_44 rfl hl (by decide) rfl (fun ls hl => ?_)
    refine lv_iconst (v := (0 : Int32)) hx hb dX3_readKnows_45 (by decide) ?_
    refine lv_istore (lv' := [(4, .int (0 : Int32)), (3, .int (0 : Int32)), (2, .int r28_r), (0, .ref a_o), (1, .ref a_x1)]) hx hb dX3_readKnows_46 hl (by decide) rfl (fun ls hl => ?_)
    have EX_48 : ∀ (v3_48 : Int32) (o_faultPlace_h48 : Int32) (o_faultNumber_h48 : Int32) (o_at_h48 : Nat) (o_numberPlace_h48 : Nat) (x1_knowsAtFirst_h48 : Nat → Int32) (hia : o_at_h48 ≤ o_length) (H : Heap) (locs : List Loc) (ls : Array Slot), K_X3_readKnows_48 o_otherClauses o_length o_knowsClauses o_bytes v3_48 o_faultPlace_h48 o_faultNumber_h48 o_at_h48 o_numberPlace_h48 x1_knowsAtFirst_h48 = RES → va_P D vwCl [(a_o, .inr (3, [.ref a_o_bytes, .int (nI o_length), .int o_faultPlace_h48, .int o_faultNumber_h48, .int (nI o_at_h48), .int (nI o_numberPlace_h48), .int o_yearClauses, .int (o_knowsClauses + (1 : Int32)), .int (o_otherClauses + (1 : Int32))])), (a_x1, .inr (1, [.int x1_year, .int (nI x1_bridges), .int (nI x1_men), .int (nI x1_oxen), .ref a_x1_forgets, .ref a_x1_weight, .ref a_x1_chance, .ref a_x1_knowsAtFirst, .ref a_x1_oxWeight, .ref a_x1_oxPrice])), (a_o_bytes, .inl (tB, 500, .inl o_bytes)), (a_x1_knowsAtFirst, .inl (tI, 6, .inl x1_knowsAtFirst_h48))] H → va_D A [(a_o, .inr (3, [.ref a_o_bytes, .int (nI o_length), .int o_faultPlace_h48, .int o_faultNumber_h48, .int (nI o_at_h48), .int (nI o_numberPlace_h48), .int o_yearClauses, .int (o_knowsClauses + (1 : Int32)), .int (o_otherClauses + (1 : Int32))])), (a_x1, .inr (1, [.int x1_year, .int (nI x1_bridges), .int (nI x1_men), .int (nI x1_oxen), .ref a_x1_forgets, .ref a_x1_weight, .ref a_x1_chance, .ref a_x1_knowsAtFirst, .ref a_x1_oxWeight, .ref a_x1_oxPrice])), (a_o_bytes, .inl (tB, 500, .inl o_bytes)), (a_x1_knowsAtFirst, .inl (tI, 6, .inl x1_knowsAtFirst_h48))] → va_S A s.heap H locs → lv_has ls 6 [(0, .ref a_o)] → W p l e { frames := 3, cells := 0, slots := 0, locals := 64 } s m ([.ref a_o, .ref a_x1] : List Value).toArray below meth c H locs 0 0 Q (F0 m 102 ls []) := by
      intro v3_48 o_faultPlace_h48 o_faultNumber_h48 o_at_h48 o_numberPlace_h48 x1_knowsAtFirst_h48 hia H locs ls hR hP hD hS hl
      unfold K_X3_readKnows_48 at hR
      refine lv_aload_n hx hb dX3_readKnows_102 rfl (lv_at hl 0 rfl) ?_
      have hC_103 := (c_X3_endClause l D tB tI tZ a_o a_o_bytes o_length o_faultPlace_h48 o_faultNumber_h48 o_at_h48 o_numberPlace_h48 o_yearClauses (o_knowsClauses + (1 : Int32)) (o_otherClauses + (1 : Int32)) o_bytes (show o_length ≤ 500 by first | assumption | omega | exact NN.none | exact NN.nat (by omega) (by omega) | exact NN.up (by assumption) (by omega)) (show o_at_h48 ≤ o_length by first | assumption | omega | exact NN.none | exact NN.nat (by omega) (by omega) | exact NN.up (by assumption) (by omega)))
      generalize hu_103 : (S_X3_endClause o_faultNumber_h48 o_length o_faultPlace_h48 o_at_h48 o_bytes) = u_103 at hC_103 hR
      obtain ⟨r103_o_at, r103_o_faultNumber, r103_o_faultPlace⟩ := u_103
      obtain ⟨hpa_103, hpb_103⟩ := endClause_ok hu_103 (by omega)
      refine kcV E hl.1 hC_103 cv_X3_endClause wm_X3_112 hP hD hS hA [0, 2] rfl rfl rfl (ws2 := [(a_o, .inr (3, [.ref a_o_bytes, .int (nI o_length), .int r103_o_faultPlace, .int r103_o_faultNumber, .int (nI r103_o_at), .int (nI o_numberPlace_h48), .int o_yearClauses, .int (o_knowsClauses + (1 : Int32)), .int (o_otherClauses + (1 : Int32))])), (a_x1, .inr (1, [.int x1_year, .int (nI x1_bridges), .int (nI x1_men), .int (nI x1_oxen), .ref a_x1_forgets, .ref a_x1_weight, .ref a_x1_chance, .ref a_x1_knowsAtFirst, .ref a_x1_oxWeight, .ref a_x1_oxPrice])), (a_o_bytes, .inl (tB, 500, .inl o_bytes)), (a_x1_knowsAtFirst, .inl (tI, 6, .inl x1_knowsAtFirst_h48))]) rfl rfl (b := a_o) (As := []) (rest := []) 0 3 rfl rfl rfl rfl (Nat.le_of_ble_eq_true rfl) ⟨Nat.le_of_ble_eq_true rfl, Nat.le_of_ble_eq_true rfl⟩ ⟨Nat.zero_le _, Nat.zero_le _⟩ dX3_readKnows_103 (fun H locs hP hD hS => ?_)
      have hP : va_P D vwCl [(a_o, .inr (3, [.ref a_o_bytes, .int (nI o_length), .int r103_o_faultPlace, .int r103_o_faultNumber, .int (nI r103_o_at), .int (nI o_numberPlace_h48), .int o_yearClauses, .int (o_knowsClauses + (1 : Int32)), .int (o_otherClauses + (1 : Int32))])), (a_x1, .inr (1, [.int x1_year, .int (nI x1_bridges), .int (nI x1_men), .int (nI x1_oxen), .ref a_x1_forgets, .ref a_x1_weight, .ref a_x1_chance, .ref a_x1_knowsAtFirst, .ref a_x1_oxWeight, .ref a_x1_oxPrice])), (a_o_bytes, .inl (tB, 500, .inl o_bytes)), (a_x1_knowsAtFirst, .inl (tI, 6, .inl x1_knowsAtFirst_h48))] H := hP
      have hD : va_D A [(a_o, .inr (3, [.ref a_o_bytes, .int (nI o_length), .int r103_o_faultPlace, .int r103_o_faultNumber, .int (nI r103_o_at), .int (nI o_numberPlace_h48), .int o_yearClauses, .int (o_knowsClauses + (1 : Int32)), .int (o_otherClauses + (1 : Int32))])), (a_x1, .inr (1, [.int x1_year, .int (nI x1_bridges), .int (nI x1_men), .int (nI x1_oxen), .ref a_x1_forgets, .ref a_x1_weight, .ref a_x1_chance, .ref a_x1_knowsAtFirst, .ref a_x1_oxWeight, .ref a_x1_oxPrice])), (a_o_bytes, .inl (tB, 500, .inl o_bytes)), (a_x1_knowsAtFirst, .inl (tI, 6, .inl x1_knowsAtFirst_h48))] := hD
      have hR : K_X3_readKnows_103 o_otherClauses o_knowsClauses o_numberPlace_h48 x1_knowsAtFirst_h48 r103_o_at r103_o_faultNumber r103_o_faultPlace = RES := hR
      unfold K_X3_readKnows_103 at hR
      subst hR
      exact (hF _ _ _ _ hP hS).2.2.2 rfl rfl dX3_readKnows_106
    have LP_48 : ∀ (n_48 k_48 : Nat) (v3_48 : Int32) (o_faultPlace_h48 : Int32) (o_faultNumber_h48 : Int32) (o_at_h48 : Nat) (o_numberPlace_h48 : Nat) (x1_knowsAtFirst_h48 : Nat → Int32) (hia : o_at_h48 ≤ o_length) (H : Heap) (locs : List Loc) (ls : Array Slot), k_48 + n_48 = o_length → outB (fun a => K_X3_readKnows_48 o_otherClauses o_length o_knowsClauses o_bytes a.1 a.2.1 a.2.2.1 a.2.2.2.1 a.2.2.2.2.1 a.2.2.2.2.2) (iterE (fun k a => B_X3_readKnows_48 o_length x1_men o_bytes r28_r k a.1 a.2.1 a.2.2.1 a.2.2.2.1 a.2.2.2.2.1 a.2.2.2.2.2) n_48 k_48 (v3_48, o_faultPlace_h48, o_faultNumber_h48, o_at_h48, o_numberPlace_h48, x1_knowsAtFirst_h48)) = RES → va_P D vwCl [(a_o, .inr (3, [.ref a_o_bytes, .int (nI o_length), .int o_faultPlace_h48, .int o_faultNumber_h48, .int (nI o_at_h48), .int (nI o_numberPlace_h48), .int o_yearClauses, .int (o_knowsClauses + (1 : Int32)), .int (o_otherClauses + (1 : Int32))])), (a_x1, .inr (1, [.int x1_year, .int (nI x1_bridges), .int (nI x1_men), .int (nI x1_oxen), .ref a_x1_forgets, .ref a_x1_weight, .ref a_x1_chance, .ref a_x1_knowsAtFirst, .ref a_x1_oxWeight, .ref a_x1_oxPrice])), (a_o_bytes, .inl (tB, 500, .inl o_bytes)), (a_x1_knowsAtFirst, .inl (tI, 6, .inl x1_knowsAtFirst_h48))] H → va_D A [(a_o, .inr (3, [.ref a_o_bytes, .int (nI o_length), .int o_faultPlace_h48, .int o_faultNumber_h48, .int (nI o_at_h48), .int (nI o_numberPlace_h48), .int o_yearClauses, .int (o_knowsClauses + (1 : Int32)), .int (o_otherClauses + (1 : Int32))])), (a_x1, .inr (1, [.int x1_year, .int (nI x1_bridges), .int (nI x1_men), .int (nI x1_oxen), .ref a_x1_forgets, .ref a_x1_weight, .ref a_x1_chance, .ref a_x1_knowsAtFirst, .ref a_x1_oxWeight, .ref a_x1_oxPrice])), (a_o_bytes, .inl (tB, 500, .inl o_bytes)), (a_x1_knowsAtFirst, .inl (tI, 6, .inl x1_knowsAtFirst_h48))] → va_S A s.heap H locs → lv_has ls 6 [(4, .int (nI k_48)), (3, .int v3_48), (2, .int r28_r), (0, .ref a_o), (1, .ref a_x1)] → W p l e { frames := 3, cells := 0, slots := 0, locals := 64 } s m ([.ref a_o, .ref a_x1] : List Value).toArray below meth c H locs 0 0 Q (F0 m 48 ls []) := by
      intro n_48
      induction n_48 with
      | zero =>
        intro k_48 v3_48 o_faultPlace_h48 o_faultNumber_h48 o_at_h48 o_numberPlace_h48 x1_knowsAtFirst_h48 hia H locs ls hn_48 hR hP hD hS hl
        refine lv_iload hx hb dX3_readKnows_48 (lv_at hl 0 rfl) ?_
        refine lv_aload_n hx hb dX3_readKnows_50 rfl (lv_at hl 3 rfl) ?_
        refine fget E hP 0 rfl fd_X3_15 (v := .int (nI o_length)) rfl dX3_readKnows_51 ?_
        refine ni_ge (a := k_48) (b := o_length) (tgt := 102) (by omega) (by omega) hx hb dX3_readKnows_54 (by decide) (fun g_48 => ?_) (fun g_48 => ?_)
        · exact EX_48 v3_48 o_faultPlace_h48 o_faultNumber_h48 o_at_h48 o_numberPlace_h48 x1_knowsAtFirst_h48 hia _ _ _ hR hP hD hS (lv_sub hl [3] rfl)
        · exfalso; omega
      | succ n_48 ih_48 =>
        intro k_48 v3_48 o_faultPlace_h48 o_faultNumber_h48 o_at_h48 o_numberPlace_h48 x1_knowsAtFirst_h48 hia H locs ls hn_48 hR hP hD hS hl
        have hR : outB (fun a => K_X3_readKnows_48 o_otherClauses o_length o_knowsClauses o_bytes a.1 a.2.1 a.2.2.1 a.2.2.2.1 a.2.2.2.2.1 a.2.2.2.2.2) (stepE (iterE (fun k a => B_X3_readKnows_48 o_length x1_men o_bytes r28_r k a.1 a.2.1 a.2.2.1 a.2.2.2.1 a.2.2.2.2.1 a.2.2.2.2.2) n_48 (k_48 + 1)) (B_X3_readKnows_48 o_length x1_men o_bytes r28_r k_48 v3_48 o_faultPlace_h48 o_faultNumber_h48 o_at_h48 o_numberPlace_h48 x1_knowsAtFirst_h48)) = RES := hR
        generalize hB_48 : B_X3_readKnows_48 o_length x1_men o_bytes r28_r k_48 v3_48 o_faultPlace_h48 o_faultNumber_h48 o_at_h48 o_numberPlace_h48 x1_knowsAtFirst_h48 = RB_48 at hR
        unfold B_X3_readKnows_48 at hB_48
        refine lv_iload hx hb dX3_readKnows_48 (lv_at hl 0 rfl) ?_
        refine lv_aload_n hx hb dX3_readKnows_50 rfl (lv_at hl 3 rfl) ?_
        refine fget E hP 0 rfl fd_X3_15 (v := .int (nI o_length)) rfl dX3_readKnows_51 ?_
        refine ni_ge (a := k_48) (b := o_length) (tgt := 102) (by omega) (by omega) hx hb dX3_readKnows_54 (by decide) (fun g_48 => ?_) (fun g_48 => ?_)
        · exfalso; omega
        · refine lv_iload_n hx hb dX3_readKnows_57 rfl (lv_at hl 1 rfl) ?_
          refine lv_if_eq (tgt := 102) hx hb dX3_readKnows_58 (by decide) (fun c_3 => ?_) (fun c_3 => ?_)
          · rw [if_pos c_3] at hB_48
            subst hB_48
            exact EX_48 v3_48 o_faultPlace_h48 o_faultNumber_h48 o_at_h48 o_numberPlace_h48 x1_knowsAtFirst_h48 (show o_at_h48 ≤ o_length by omega) _ _ _ hR hP hD hS (lv_sub hl [3] rfl)
          · rw [if_neg c_3] at hB_48
            refine lv_aload_n hx hb dX3_readKnows_61 rfl (lv_at hl 3 rfl) ?_
            refine lv_iconst (v := (0 : Int32)) hx hb dX3_readKnows_62 (by decide) ?_
            refine lv_aload_n hx hb dX3_readKnows_63 rfl (lv_at hl 4 rfl) ?_
            refine fget E hP 1 rfl fd_X3_103 (v := .int (nI x1_men)) rfl dX3_readKnows_64 ?_
            refine lv_iconst (v := (1 : Int32)) hx hb dX3_readKnows_67 (by decide) ?_
            refine lv_isub hx hb dX3_readKnows_68 ?_
            have hC_69 := (c_X3_number l D tB tI tZ a_o a_o_bytes o_length o_faultPlace_h48 o_faultNumber_h48 o_at_h48 o_numberPlace_h48 o_yearClauses (o_knowsClauses + (1 : Int32)) (o_otherClauses + (1 : Int32)) o_bytes (0 : Int32) ((nI x1_men) - (1 : Int32)) (show o_length ≤ 500 by first | assumption | omega | exact NN.none | exact NN.nat (by omega) (by omega) | exact NN.up (by assumption) (by omega)) (show o_at_h48 ≤ o_length by first | assumption | omega | exact NN.none | exact NN.nat (by omega) (by omega) | exact NN.up (by assumption) (by omega)))
            generalize hu_69 : (S_X3_number (0 : Int32) ((nI x1_men) - (1 : Int32)) o_faultNumber_h48 o_length o_faultPlace_h48 o_at_h48 o_numberPlace_h48 o_bytes) = u_69 at hC_69 hB_48
            obtain ⟨r69_r, r69_o_at, r69_o_numberPlace, r69_o_faultNumber, r69_o_faultPlace⟩ := u_69
            obtain ⟨hpa_69, hpb_69⟩ := number_ok hu_69 (by omega)
            refine kcV E hl.1 hC_69 cv_X3_number wm_X3_109 hP hD hS hA [0, 2] rfl rfl rfl (ws2 := [(a_o, .inr (3, [.ref a_o_bytes, .int (nI o_length), .int r69_o_faultPlace, .int r69_o_faultNumber, .int (nI r69_o_at), .int (nI r69_o_numberPlace), .int o_yearClauses, .int (o_knowsClauses + (1 : Int32)), .int (o_otherClauses + (1 : Int32))])), (a_x1, .inr (1, [.int x1_year, .int (nI x1_bridges), .int (nI x1_men), .int (nI x1_oxen), .ref a_x1_forgets, .ref a_x1_weight, .ref a_x1_chance, .ref a_x1_knowsAtFirst, .ref a_x1_oxWeight, .ref a_x1_oxPrice])), (a_o_bytes, .inl (tB, 500, .inl o_bytes)), (a_x1_knowsAtFirst, .inl (tI, 6, .inl x1_knowsAtFirst_h48))]) rfl rfl (b := a_o) (As := [.int (0 : Int32), .int ((nI x1_men) - (1 : Int32))]) (rest := []) 0 3 rfl rfl rfl rfl (Nat.le_of_ble_eq_true rfl) ⟨Nat.le_of_ble_eq_true rfl, Nat.le_of_ble_eq_true rfl⟩ ⟨Nat.zero_le _, Nat.zero_le _⟩ dX3_readKnows_69 (fun H locs hP hD hS => ?_)
            have hP : va_P D vwCl [(a_o, .inr (3, [.ref a_o_bytes, .int (nI o_length), .int r69_o_faultPlace, .int r69_o_faultNumber, .int (nI r69_o_at), .int (nI r69_o_numberPlace), .int o_yearClauses, .int (o_knowsClauses + (1 : Int32)), .int (o_otherClauses + (1 : Int32))])), (a_x1, .inr (1, [.int x1_year, .int (nI x1_bridges), .int (nI x1_men), .int (nI x1_oxen), .ref a_x1_forgets, .ref a_x1_weight, .ref a_x1_chance, .ref a_x1_knowsAtFirst, .ref a_x1_oxWeight, .ref a_x1_oxPrice])), (a_o_bytes, .inl (tB, 500, .inl o_bytes)), (a_x1_knowsAtFirst, .inl (tI, 6, .inl x1_knowsAtFirst_h48))] H := hP
            have hD : va_D A [(a_o, .inr (3, [.ref a_o_bytes, .int (nI o_length), .int r69_o_faultPlace, .int r69_o_faultNumber, .int (nI r69_o_at), .int (nI r69_o_numberPlace), .int o_yearClauses, .int (o_knowsClauses + (1 : Int32)), .int (o_otherClauses + (1 : Int32))])), (a_x1, .inr (1, [.int x1_year, .int (nI x1_bridges), .int (nI x1_men), .int (nI x1_oxen), .ref a_x1_forgets, .ref a_x1_weight, .ref a_x1_chance, .ref a_x1_knowsAtFirst, .ref a_x1_oxWeight, .ref a_x1_oxPrice])), (a_o_bytes, .inl (tB, 500, .inl o_bytes)), (a_x1_knowsAtFirst, .inl (tI, 6, .inl x1_knowsAtFirst_h48))] := hD
            have hB_48 : K_X3_readKnows_69 o_length x1_men o_bytes r28_r x1_knowsAtFirst_h48 r69_r r69_o_at r69_o_numberPlace r69_o_faultNumber r69_o_faultPlace = RB_48 := hB_48
            unfold K_X3_readKnows_69 at hB_48
            refine lv_istore (lv' := [(5, .int r69_r), (4, .int (nI k_48)), (3, .int v3_48), (2, .int r28_r), (0, .ref a_o), (1, .ref a_x1)]) hx hb dX3_readKnows_72 hl (by decide) rfl (fun ls hl => ?_)
            refine lv_aload_n hx hb dX3_readKnows_74 rfl (lv_at hl 4 rfl) ?_
            refine fget E hP 0 rfl fd_X3_22 (v := .int r69_o_faultNumber) rfl dX3_readKnows_75 ?_
            refine lv_if_ne (tgt := 89) hx hb dX3_readKnows_78 (by decide) (fun c_4 => ?_) (fun c_4 => ?_)
            · rw [if_neg c_4] at hB_48
              refine lv_aload_n hx hb dX3_readKnows_89 rfl (lv_at hl 4 rfl) ?_
              refine lv_bipush (v := (44 : Int32)) hx hb dX3_readKnows_90 (by decide) ?_
              have hC_92 := (c_X3_takes l D tB tI tZ a_o a_o_bytes o_length r69_o_faultPlace r69_o_faultNumber r69_o_at r69_o_numberPlace o_yearClauses (o_knowsClauses + (1 : Int32)) (o_otherClauses + (1 : Int32)) o_bytes (44 : Int32) (show o_length ≤ 500 by first | assumption | omega | exact NN.none | exact NN.nat (by omega) (by omega) | exact NN.up (by assumption) (by omega)) (show r69_o_at ≤ o_length by first | assumption | omega | exact NN.none | exact NN.nat (by omega) (by omega) | exact NN.up (by assumption) (by omega)))
              generalize hu_92 : (S_X3_takes (44 : Int32) r69_o_faultNumber o_length r69_o_at o_bytes) = u_92 at hC_92 hB_48
              obtain ⟨r92_r, r92_o_at⟩ := u_92
              obtain ⟨hpa_92, hpb_92⟩ := takes_ok hu_92 (by omega)
              refine kcV E hl.1 hC_92 cv_X3_takes wm_X3_131 hP hD hS hA [0, 2] rfl rfl rfl (ws2 := [(a_o, .inr (3, [.ref a_o_bytes, .int (nI o_length), .int r69_o_faultPlace, .int r69_o_faultNumber, .int (nI r92_o_at), .int (nI r69_o_numberPlace), .int o_yearClauses, .int (o_knowsClauses + (1 : Int32)), .int (o_otherClauses + (1 : Int32))])), (a_x1, .inr (1, [.int x1_year, .int (nI x1_bridges), .int (nI x1_men), .int (nI x1_oxen), .ref a_x1_forgets, .ref a_x1_weight, .ref a_x1_chance, .ref a_x1_knowsAtFirst, .ref a_x1_oxWeight, .ref a_x1_oxPrice])), (a_o_bytes, .inl (tB, 500, .inl o_bytes)), (a_x1_knowsAtFirst, .inl (tI, 6, .inl x1_knowsAtFirst_h48))]) rfl rfl (b := a_o) (As := [.int (44 : Int32)]) (rest := []) 0 3 rfl rfl rfl rfl (Nat.le_of_ble_eq_true rfl) ⟨Nat.le_of_ble_eq_true rfl, Nat.le_of_ble_eq_true rfl⟩ ⟨Nat.zero_le _, Nat.zero_le _⟩ dX3_readKnows_92 (fun H locs hP hD hS => ?_)
              have hP : va_P D vwCl [(a_o, .inr (3, [.ref a_o_bytes, .int (nI o_length), .int r69_o_faultPlace, .int r69_o_faultNumber, .int (nI r92_o_at), .int (nI r69_o_numberPlace), .int o_yearClauses, .int (o_knowsClauses + (1 : Int32)), .int (o_otherClauses + (1 : Int32))])), (a_x1, .inr (1, [.int x1_year, .int (nI x1_bridges), .int (nI x1_men), .int (nI x1_oxen), .ref a_x1_forgets, .ref a_x1_weight, .ref a_x1_chance, .ref a_x1_knowsAtFirst, .ref a_x1_oxWeight, .ref a_x1_oxPrice])), (a_o_bytes, .inl (tB, 500, .inl o_bytes)), (a_x1_knowsAtFirst, .inl (tI, 6, .inl x1_knowsAtFirst_h48))] H := hP
              have hD : va_D A [(a_o, .inr (3, [.ref a_o_bytes, .int (nI o_length), .int r69_o_faultPlace, .int r69_o_faultNumber, .int (nI r92_o_at), .int (nI r69_o_numberPlace), .int o_yearClauses, .int (o_knowsClauses + (1 : Int32)), .int (o_otherClauses + (1 : Int32))])), (a_x1, .inr (1, [.int x1_year, .int (nI x1_bridges), .int (nI x1_men), .int (nI x1_oxen), .ref a_x1_forgets, .ref a_x1_weight, .ref a_x1_chance, .ref a_x1_knowsAtFirst, .ref a_x1_oxWeight, .ref a_x1_oxPrice])), (a_o_bytes, .inl (tB, 500, .inl o_bytes)), (a_x1_knowsAtFirst, .inl (tI, 6, .inl x1_knowsAtFirst_h48))] := hD
              have hB_48 : K_X3_readKnows_92 r69_o_numberPlace r69_o_faultNumber r69_o_faultPlace x1_knowsAtFirst_h48 r92_r r92_o_at = RB_48 := hB_48
              unfold K_X3_readKnows_92 at hB_48
              refine lv_istore_n (lv' := [(3, .int r92_r), (5, .int r69_r), (4, .int (nI k_48)), (2, .int r28_r), (0, .ref a_o), (1, .ref a_x1)]) hx hb dX3_readKnows_95 rfl hl (by decide) rfl (fun ls hl => ?_)
              refine lv_iinc (v := (nI (k_48 + 1))) (lv' := [(4, .int (nI (k_48 + 1))), (3, .int r92_r), (5, .int r69_r), (2, .int r28_r), (0, .ref a_o), (1, .ref a_x1)]) hx hb dX3_readKnows_96 hl (k := 2) rfl (nI_i1 k_48) (by decide) rfl (fun ls hl => ?_)
              refine lv_goto (tgt := 48) hx hb dX3_readKnows_99 (by decide) ?_
              subst hB_48
              exact ih_48 (k_48 + 1) r92_r r69_o_faultPlace r69_o_faultNumber r92_o_at r69_o_numberPlace x1_knowsAtFirst_h48 (show r92_o_at ≤ o_length by omega) _ _ _ (by omega) hR hP hD hS (lv_sub hl [0, 1, 3, 4, 5] rfl)
            · rw [if_pos c_4] at hB_48
              refine lv_aload_n hx hb dX3_readKnows_81 rfl (lv_at hl 4 rfl) ?_
              refine lv_aload_n hx hb dX3_readKnows_82 rfl (lv_at hl 5 rfl) ?_
              refine lv_iload_n hx hb dX3_readKnows_83 rfl (lv_at hl 3 rfl) ?_
              refine lv_iload hx hb dX3_readKnows_84 (lv_at hl 0 rfl) ?_
              have hC_86 := (c_X3_readKnown l D tB tI tZ a_x1 a_x1_forgets a_x1_weight a_x1_chance a_x1_knowsAtFirst a_x1_oxWeight a_x1_oxPrice a_o a_o_bytes x1_year x1_bridges x1_men x1_oxen o_length r69_o_faultPlace r69_o_faultNumber r69_o_at r69_o_numberPlace o_yearClauses (o_knowsClauses + (1 : Int32)) (o_otherClauses + (1 : Int32)) x1_knowsAtFirst_h48 r28_r r69_r (show x1_men ≤ 6 by first | assumption | omega | exact NN.none | exact NN.nat (by omega) (by omega) | exact NN.up (by assumption) (by omega)))
              generalize hu_86 : (S_X3_readKnown r28_r r69_r x1_men r69_o_numberPlace r69_o_faultPlace r69_o_faultNumber x1_knowsAtFirst_h48) = u_86 at hC_86 hB_48
              obtain ⟨r86_o_faultNumber, r86_o_faultPlace, r86_x1_knowsAtFirst⟩ := u_86
              refine kcV E hl.1 hC_86 cv_X3_readKnown wm_X3_127 hP hD hS hA [1, 0, 3] rfl rfl rfl (ws2 := [(a_o, .inr (3, [.ref a_o_bytes, .int (nI o_length), .int r86_o_faultPlace, .int r86_o_faultNumber, .int (nI r69_o_at), .int (nI r69_o_numberPlace), .int o_yearClauses, .int (o_knowsClauses + (1 : Int32)), .int (o_otherClauses + (1 : Int32))])), (a_x1, .inr (1, [.int x1_year, .int (nI x1_bridges), .int (nI x1_men), .int (nI x1_oxen), .ref a_x1_forgets, .ref a_x1_weight, .ref a_x1_chance, .ref a_x1_knowsAtFirst, .ref a_x1_oxWeight, .ref a_x1_oxPrice])), (a_o_bytes, .inl (tB, 500, .inl o_bytes)), (a_x1_knowsAtFirst, .inl (tI, 6, .inl r86_x1_knowsAtFirst))]) rfl rfl (b := a_o) (As := [.ref a_x1, .int r28_r, .int r69_r]) (rest := []) 1 3 rfl rfl rfl rfl (Nat.le_of_ble_eq_true rfl) ⟨Nat.le_of_ble_eq_true rfl, Nat.le_of_ble_eq_true rfl⟩ ⟨Nat.zero_le _, Nat.zero_le _⟩ dX3_readKnows_86 (fun H locs hP hD hS => ?_)
              have hP : va_P D vwCl [(a_o, .inr (3, [.ref a_o_bytes, .int (nI o_length), .int r86_o_faultPlace, .int r86_o_faultNumber, .int (nI r69_o_at), .int (nI r69_o_numberPlace), .int o_yearClauses, .int (o_knowsClauses + (1 : Int32)), .int (o_otherClauses + (1 : Int32))])), (a_x1, .inr (1, [.int x1_year, .int (nI x1_bridges), .int (nI x1_men), .int (nI x1_oxen), .ref a_x1_forgets, .ref a_x1_weight, .ref a_x1_chance, .ref a_x1_knowsAtFirst, .ref a_x1_oxWeight, .ref a_x1_oxPrice])), (a_o_bytes, .inl (tB, 500, .inl o_bytes)), (a_x1_knowsAtFirst, .inl (tI, 6, .inl r86_x1_knowsAtFirst))] H := hP
              have hD : va_D A [(a_o, .inr (3, [.ref a_o_bytes, .int (nI o_length), .int r86_o_faultPlace, .int r86_o_faultNumber, .int (nI r69_o_at), .int (nI r69_o_numberPlace), .int o_yearClauses, .int (o_knowsClauses + (1 : Int32)), .int (o_otherClauses + (1 : Int32))])), (a_x1, .inr (1, [.int x1_year, .int (nI x1_bridges), .int (nI x1_men), .int (nI x1_oxen), .ref a_x1_forgets, .ref a_x1_weight, .ref a_x1_chance, .ref a_x1_knowsAtFirst, .ref a_x1_oxWeight, .ref a_x1_oxPrice])), (a_o_bytes, .inl (tB, 500, .inl o_bytes)), (a_x1_knowsAtFirst, .inl (tI, 6, .inl r86_x1_knowsAtFirst))] := hD
              have hB_48 : K_X3_readKnows_86 o_length o_bytes r69_o_at r69_o_numberPlace r86_o_faultNumber r86_o_faultPlace r86_x1_knowsAtFirst = RB_48 := hB_48
              unfold K_X3_readKnows_86 at hB_48
              refine lv_aload_n hx hb dX3_readKnows_89 rfl (lv_at hl 4 rfl) ?_
              refine lv_bipush (v := (44 : Int32)) hx hb dX3_readKnows_90 (by decide) ?_
              have hC_92 := (c_X3_takes l D tB tI tZ a_o a_o_bytes o_length r86_o_faultPlace r86_o_faultNumber r69_o_at r69_o_numberPlace o_yearClauses (o_knowsClauses + (1 : Int32)) (o_otherClauses + (1 : Int32)) o_bytes (44 : Int32) (show o_length ≤ 500 by first | assumption | omega | exact NN.none | exact NN.nat (by omega) (by omega) | exact NN.up (by assumption) (by omega)) (show r69_o_at ≤ o_length by first | assumption | omega | exact NN.none | exact NN.nat (by omega) (by omega) | exact NN.up (by assumption) (by omega)))
              generalize hu_92 : (S_X3_takes (44 : Int32) r86_o_faultNumber o_length r69_o_at o_bytes) = u_92 at hC_92 hB_48
              obtain ⟨r92_r, r92_o_at⟩ := u_92
              obtain ⟨hpa_92, hpb_92⟩ := takes_ok hu_92 (by omega)
              refine kcV E hl.1 hC_92 cv_X3_takes wm_X3_131 hP hD hS hA [0, 2] rfl rfl rfl (ws2 := [(a_o, .inr (3, [.ref a_o_bytes, .int (nI o_length), .int r86_o_faultPlace, .int r86_o_faultNumber, .int (nI r92_o_at), .int (nI r69_o_numberPlace), .int o_yearClauses, .int (o_knowsClauses + (1 : Int32)), .int (o_otherClauses + (1 : Int32))])), (a_x1, .inr (1, [.int x1_year, .int (nI x1_bridges), .int (nI x1_men), .int (nI x1_oxen), .ref a_x1_forgets, .ref a_x1_weight, .ref a_x1_chance, .ref a_x1_knowsAtFirst, .ref a_x1_oxWeight, .ref a_x1_oxPrice])), (a_o_bytes, .inl (tB, 500, .inl o_bytes)), (a_x1_knowsAtFirst, .inl (tI, 6, .inl r86_x1_knowsAtFirst))]) rfl rfl (b := a_o) (As := [.int (44 : Int32)]) (rest := []) 0 3 rfl rfl rfl rfl (Nat.le_of_ble_eq_true rfl) ⟨Nat.le_of_ble_eq_true rfl, Nat.le_of_ble_eq_true rfl⟩ ⟨Nat.zero_le _, Nat.zero_le _⟩ dX3_readKnows_92 (fun H locs hP hD hS => ?_)
              have hP : va_P D vwCl [(a_o, .inr (3, [.ref a_o_bytes, .int (nI o_length), .int r86_o_faultPlace, .int r86_o_faultNumber, .int (nI r92_o_at), .int (nI r69_o_numberPlace), .int o_yearClauses, .int (o_knowsClauses + (1 : Int32)), .int (o_otherClauses + (1 : Int32))])), (a_x1, .inr (1, [.int x1_year, .int (nI x1_bridges), .int (nI x1_men), .int (nI x1_oxen), .ref a_x1_forgets, .ref a_x1_weight, .ref a_x1_chance, .ref a_x1_knowsAtFirst, .ref a_x1_oxWeight, .ref a_x1_oxPrice])), (a_o_bytes, .inl (tB, 500, .inl o_bytes)), (a_x1_knowsAtFirst, .inl (tI, 6, .inl r86_x1_knowsAtFirst))] H := hP
              have hD : va_D A [(a_o, .inr (3, [.ref a_o_bytes, .int (nI o_length), .int r86_o_faultPlace, .int r86_o_faultNumber, .int (nI r92_o_at), .int (nI r69_o_numberPlace), .int o_yearClauses, .int (o_knowsClauses + (1 : Int32)), .int (o_otherClauses + (1 : Int32))])), (a_x1, .inr (1, [.int x1_year, .int (nI x1_bridges), .int (nI x1_men), .int (nI x1_oxen), .ref a_x1_forgets, .ref a_x1_weight, .ref a_x1_chance, .ref a_x1_knowsAtFirst, .ref a_x1_oxWeight, .ref a_x1_oxPrice])), (a_o_bytes, .inl (tB, 500, .inl o_bytes)), (a_x1_knowsAtFirst, .inl (tI, 6, .inl r86_x1_knowsAtFirst))] := hD
              have hB_48 : K_X3_readKnows_92_1 r69_o_numberPlace r86_o_faultNumber r86_o_faultPlace r86_x1_knowsAtFirst r92_r r92_o_at = RB_48 := hB_48
              unfold K_X3_readKnows_92_1 at hB_48
              refine lv_istore_n (lv' := [(3, .int r92_r), (5, .int r69_r), (4, .int (nI k_48)), (2, .int r28_r), (0, .ref a_o), (1, .ref a_x1)]) hx hb dX3_readKnows_95 rfl hl (by decide) rfl (fun ls hl => ?_)
              refine lv_iinc (v := (nI (k_48 + 1))) (lv' := [(4, .int (nI (k_48 + 1))), (3, .int r92_r), (5, .int r69_r), (2, .int r28_r), (0, .ref a_o), (1, .ref a_x1)]) hx hb dX3_readKnows_96 hl (k := 2) rfl (nI_i1 k_48) (by decide) rfl (fun ls hl => ?_)
              refine lv_goto (tgt := 48) hx hb dX3_readKnows_99 (by decide) ?_
              subst hB_48
              exact ih_48 (k_48 + 1) r92_r r86_o_faultPlace r86_o_faultNumber r92_o_at r69_o_numberPlace r86_x1_knowsAtFirst (show r92_o_at ≤ o_length by omega) _ _ _ (by omega) hR hP hD hS (lv_sub hl [0, 1, 3, 4, 5] rfl)
    exact LP_48 o_length 0 (0 : Int32) r28_o_faultPlace r28_o_faultNumber r28_o_at r28_o_numberPlace x1_knowsAtFirst (show r28_o_at ≤ o_length by omega) _ _ _ (by omega) hR hP hD hS (lv_sub hl [0, 1, 2, 3, 4] rfl)
  · rw [if_pos c_1] at hR
    refine lv_iconst (v := (1 : Int32)) hx hb dX3_readKnows_39 (by decide) ?_
    refine lv_goto (tgt := 44) hx hb dX3_readKnows_40 (by decide) ?_
    refine lv_istore_n (lv' := [(3, .int (1 : Int32)), (2, .int r28_r), (0, .ref a_o), (1, .ref a_x1)]) hx hb dX3_readKnows_44 rfl hl (by decide) rfl (fun ls hl => ?_)
    refine lv_iconst (v := (0 : Int32)) hx hb dX3_readKnows_45 (by decide) ?_
    refine lv_istore (lv' := [(4, .int (0 : Int32)), (3, .int (1 : Int32)), (2, .int r28_r), (0, .ref a_o), (1, .ref a_x1)]) hx hb dX3_readKnows_46 hl (by decide) rfl (fun ls hl => ?_)
    have EX_48 : ∀ (v3_48 : Int32) (o_faultPlace_h48 : Int32) (o_faultNumber_h48 : Int32) (o_at_h48 : Nat) (o_numberPlace_h48 : Nat) (x1_knowsAtFirst_h48 : Nat → Int32) (hia : o_at_h48 ≤ o_length) (H : Heap) (locs : List Loc) (ls : Array Slot), K_X3_readKnows_48 o_otherClauses o_length o_knowsClauses o_bytes v3_48 o_faultPlace_h48 o_faultNumber_h48 o_at_h48 o_numberPlace_h48 x1_knowsAtFirst_h48 = RES → va_P D vwCl [(a_o, .inr (3, [.ref a_o_bytes, .int (nI o_length), .int o_faultPlace_h48, .int o_faultNumber_h48, .int (nI o_at_h48), .int (nI o_numberPlace_h48), .int o_yearClauses, .int (o_knowsClauses + (1 : Int32)), .int (o_otherClauses + (1 : Int32))])), (a_x1, .inr (1, [.int x1_year, .int (nI x1_bridges), .int (nI x1_men), .int (nI x1_oxen), .ref a_x1_forgets, .ref a_x1_weight, .ref a_x1_chance, .ref a_x1_knowsAtFirst, .ref a_x1_oxWeight, .ref a_x1_oxPrice])), (a_o_bytes, .inl (tB, 500, .inl o_bytes)), (a_x1_knowsAtFirst, .inl (tI, 6, .inl x1_knowsAtFirst_h48))] H → va_D A [(a_o, .inr (3, [.ref a_o_bytes, .int (nI o_length), .int o_faultPlace_h48, .int o_faultNumber_h48, .int (nI o_at_h48), .int (nI o_numberPlace_h48), .int o_yearClauses, .int (o_knowsClauses + (1 : Int32)), .int (o_otherClauses + (1 : Int32))])), (a_x1, .inr (1, [.int x1_year, .int (nI x1_bridges), .int (nI x1_men), .int (nI x1_oxen), .ref a_x1_forgets, .ref a_x1_weight, .ref a_x1_chance, .ref a_x1_knowsAtFirst, .ref a_x1_oxWeight, .ref a_x1_oxPrice])), (a_o_bytes, .inl (tB, 500, .inl o_bytes)), (a_x1_knowsAtFirst, .inl (tI, 6, .inl x1_knowsAtFirst_h48))] → va_S A s.heap H locs → lv_has ls 6 [(0, .ref a_o)] → W p l e { frames := 3, cells := 0, slots := 0, locals := 64 } s m ([.ref a_o, .ref a_x1] : List Value).toArray below meth c H locs 0 0 Q (F0 m 102 ls []) := by
      intro v3_48 o_faultPlace_h48 o_faultNumber_h48 o_at_h48 o_numberPlace_h48 x1_knowsAtFirst_h48 hia H locs ls hR hP hD hS hl
      unfold K_X3_readKnows_48 at hR
      refine lv_aload_n hx hb dX3_readKnows_102 rfl (lv_at hl 0 rfl) ?_
      have hC_103 := (c_X3_endClause l D tB tI tZ a_o a_o_bytes o_length o_faultPlace_h48 o_faultNumber_h48 o_at_h48 o_numberPlace_h48 o_yearClauses (o_knowsClauses + (1 : Int32)) (o_otherClauses + (1 : Int32)) o_bytes (show o_length ≤ 500 by first | assumption | omega | exact NN.none | exact NN.nat (by omega) (by omega) | exact NN.up (by assumption) (by omega)) (show o_at_h48 ≤ o_length by first | assumption | omega | exact NN.none | exact NN.nat (by omega) (by omega) | exact NN.up (by assumption) (by omega)))
      generalize hu_103 : (S_X3_endClause o_faultNumber_h48 o_length o_faultPlace_h48 o_at_h48 o_bytes) = u_103 at hC_103 hR
      obtain ⟨r103_o_at, r103_o_faultNumber, r103_o_faultPlace⟩ := u_103
      obtain ⟨hpa_103, hpb_103⟩ := endClause_ok hu_103 (by omega)
      refine kcV E hl.1 hC_103 cv_X3_endClause wm_X3_112 hP hD hS hA [0, 2] rfl rfl rfl (ws2 := [(a_o, .inr (3, [.ref a_o_bytes, .int (nI o_length), .int r103_o_faultPlace, .int r103_o_faultNumber, .int (nI r103_o_at), .int (nI o_numberPlace_h48), .int o_yearClauses, .int (o_knowsClauses + (1 : Int32)), .int (o_otherClauses + (1 : Int32))])), (a_x1, .inr (1, [.int x1_year, .int (nI x1_bridges), .int (nI x1_men), .int (nI x1_oxen), .ref a_x1_forgets, .ref a_x1_weight, .ref a_x1_chance, .ref a_x1_knowsAtFirst, .ref a_x1_oxWeight, .ref a_x1_oxPrice])), (a_o_bytes, .inl (tB, 500, .inl o_bytes)), (a_x1_knowsAtFirst, .inl (tI, 6, .inl x1_knowsAtFirst_h48))]) rfl rfl (b := a_o) (As := []) (rest := []) 0 3 rfl rfl rfl rfl (Nat.le_of_ble_eq_true rfl) ⟨Nat.le_of_ble_eq_true rfl, Nat.le_of_ble_eq_true rfl⟩ ⟨Nat.zero_le _, Nat.zero_le _⟩ dX3_readKnows_103 (fun H locs hP hD hS => ?_)
      have hP : va_P D vwCl [(a_o, .inr (3, [.ref a_o_bytes, .int (nI o_length), .int r103_o_faultPlace, .int r103_o_faultNumber, .int (nI r103_o_at), .int (nI o_numberPlace_h48), .int o_yearClauses, .int (o_knowsClauses + (1 : Int32)), .int (o_otherClauses + (1 : Int32))])), (a_x1, .inr (1, [.int x1_year, .int (nI x1_bridges), .int (nI x1_men), .int (nI x1_oxen), .ref a_x1_forgets, .ref a_x1_weight, .ref a_x1_chance, .ref a_x1_knowsAtFirst, .ref a_x1_oxWeight, .ref a_x1_oxPrice])), (a_o_bytes, .inl (tB, 500, .inl o_bytes)), (a_x1_knowsAtFirst, .inl (tI, 6, .inl x1_knowsAtFirst_h48))] H := hP
      have hD : va_D A [(a_o, .inr (3, [.ref a_o_bytes, .int (nI o_length), .int r103_o_faultPlace, .int r103_o_faultNumber, .int (nI r103_o_at), .int (nI o_numberPlace_h48), .int o_yearClauses, .int (o_knowsClauses + (1 : Int32)), .int (o_otherClauses + (1 : Int32))])), (a_x1, .inr (1, [.int x1_year, .int (nI x1_bridges), .int (nI x1_men), .int (nI x1_oxen), .ref a_x1_forgets, .ref a_x1_weight, .ref a_x1_chance, .ref a_x1_knowsAtFirst, .ref a_x1_oxWeight, .ref a_x1_oxPrice])), (a_o_bytes, .inl (tB, 500, .inl o_bytes)), (a_x1_knowsAtFirst, .inl (tI, 6, .inl x1_knowsAtFirst_h48))] := hD
      have hR : K_X3_readKnows_103 o_otherClauses o_knowsClauses o_numberPlace_h48 x1_knowsAtFirst_h48 r103_o_at r103_o_faultNumber r103_o_faultPlace = RES := hR
      unfold K_X3_readKnows_103 at hR
      subst hR
      exact (hF _ _ _ _ hP hS).2.2.2 rfl rfl dX3_readKnows_106
    have LP_48 : ∀ (n_48 k_48 : Nat) (v3_48 : Int32) (o_faultPlace_h48 : Int32) (o_faultNumber_h48 : Int32) (o_at_h48 : Nat) (o_numberPlace_h48 : Nat) (x1_knowsAtFirst_h48 : Nat → Int32) (hia : o_at_h48 ≤ o_length) (H : Heap) (locs : List Loc) (ls : Array Slot), k_48 + n_48 = o_length → outB (fun a => K_X3_readKnows_48 o_otherClauses o_length o_knowsClauses o_bytes a.1 a.2.1 a.2.2.1 a.2.2.2.1 a.2.2.2.2.1 a.2.2.2.2.2) (iterE (fun k a => B_X3_readKnows_48 o_length x1_men o_bytes r28_r k a.1 a.2.1 a.2.2.1 a.2.2.2.1 a.2.2.2.2.1 a.2.2.2.2.2) n_48 k_48 (v3_48, o_faultPlace_h48, o_faultNumber_h48, o_at_h48, o_numberPlace_h48, x1_knowsAtFirst_h48)) = RES → va_P D vwCl [(a_o, .inr (3, [.ref a_o_bytes, .int (nI o_length), .int o_faultPlace_h48, .int o_faultNumber_h48, .int (nI o_at_h48), .int (nI o_numberPlace_h48), .int o_yearClauses, .int (o_knowsClauses + (1 : Int32)), .int (o_otherClauses + (1 : Int32))])), (a_x1, .inr (1, [.int x1_year, .int (nI x1_bridges), .int (nI x1_men), .int (nI x1_oxen), .ref a_x1_forgets, .ref a_x1_weight, .ref a_x1_chance, .ref a_x1_knowsAtFirst, .ref a_x1_oxWeight, .ref a_x1_oxPrice])), (a_o_bytes, .inl (tB, 500, .inl o_bytes)), (a_x1_knowsAtFirst, .inl (tI, 6, .inl x1_knowsAtFirst_h48))] H → va_D A [(a_o, .inr (3, [.ref a_o_bytes, .int (nI o_length), .int o_faultPlace_h48, .int o_faultNumber_h48, .int (nI o_at_h48), .int (nI o_numberPlace_h48), .int o_yearClauses, .int (o_knowsClauses + (1 : Int32)), .int (o_otherClauses + (1 : Int32))])), (a_x1, .inr (1, [.int x1_year, .int (nI x1_bridges), .int (nI x1_men), .int (nI x1_oxen), .ref a_x1_forgets, .ref a_x1_weight, .ref a_x1_chance, .ref a_x1_knowsAtFirst, .ref a_x1_oxWeight, .ref a_x1_oxPrice])), (a_o_bytes, .inl (tB, 500, .inl o_bytes)), (a_x1_knowsAtFirst, .inl (tI, 6, .inl x1_knowsAtFirst_h48))] → va_S A s.heap H locs → lv_has ls 6 [(4, .int (nI k_48)), (3, .int v3_48), (2, .int r28_r), (0, .ref a_o), (1, .ref a_x1)] → W p l e { frames := 3, cells := 0, slots := 0, locals := 64 } s m ([.ref a_o, .ref a_x1] : List Value).toArray below meth c H locs 0 0 Q (F0 m 48 ls []) := by
      intro n_48
      induction n_48 with
      | zero =>
        intro k_48 v3_48 o_faultPlace_h48 o_faultNumber_h48 o_at_h48 o_numberPlace_h48 x1_knowsAtFirst_h48 hia H locs ls hn_48 hR hP hD hS hl
        refine lv_iload hx hb dX3_readKnows_48 (lv_at hl 0 rfl) ?_
        refine lv_aload_n hx hb dX3_readKnows_50 rfl (lv_at hl 3 rfl) ?_
        refine fget E hP 0 rfl fd_X3_15 (v := .int (nI o_length)) rfl dX3_readKnows_51 ?_
        refine ni_ge (a := k_48) (b := o_length) (tgt := 102) (by omega) (by omega) hx hb dX3_readKnows_54 (by decide) (fun g_48 => ?_) (fun g_48 => ?_)
        · exact EX_48 v3_48 o_faultPlace_h48 o_faultNumber_h48 o_at_h48 o_numberPlace_h48 x1_knowsAtFirst_h48 hia _ _ _ hR hP hD hS (lv_sub hl [3] rfl)
        · exfalso; omega
      | succ n_48 ih_48 =>
        intro k_48 v3_48 o_faultPlace_h48 o_faultNumber_h48 o_at_h48 o_numberPlace_h48 x1_knowsAtFirst_h48 hia H locs ls hn_48 hR hP hD hS hl
        have hR : outB (fun a => K_X3_readKnows_48 o_otherClauses o_length o_knowsClauses o_bytes a.1 a.2.1 a.2.2.1 a.2.2.2.1 a.2.2.2.2.1 a.2.2.2.2.2) (stepE (iterE (fun k a => B_X3_readKnows_48 o_length x1_men o_bytes r28_r k a.1 a.2.1 a.2.2.1 a.2.2.2.1 a.2.2.2.2.1 a.2.2.2.2.2) n_48 (k_48 + 1)) (B_X3_readKnows_48 o_length x1_men o_bytes r28_r k_48 v3_48 o_faultPlace_h48 o_faultNumber_h48 o_at_h48 o_numberPlace_h48 x1_knowsAtFirst_h48)) = RES := hR
        generalize hB_48 : B_X3_readKnows_48 o_length x1_men o_bytes r28_r k_48 v3_48 o_faultPlace_h48 o_faultNumber_h48 o_at_h48 o_numberPlace_h48 x1_knowsAtFirst_h48 = RB_48 at hR
        unfold B_X3_readKnows_48 at hB_48
        refine lv_iload hx hb dX3_readKnows_48 (lv_at hl 0 rfl) ?_
        refine lv_aload_n hx hb dX3_readKnows_50 rfl (lv_at hl 3 rfl) ?_
        refine fget E hP 0 rfl fd_X3_15 (v := .int (nI o_length)) rfl dX3_readKnows_51 ?_
        refine ni_ge (a := k_48) (b := o_length) (tgt := 102) (by omega) (by omega) hx hb dX3_readKnows_54 (by decide) (fun g_48 => ?_) (fun g_48 => ?_)
        · exfalso; omega
        · refine lv_iload_n hx hb dX3_readKnows_57 rfl (lv_at hl 1 rfl) ?_
          refine lv_if_eq (tgt := 102) hx hb dX3_readKnows_58 (by decide) (fun c_7 => ?_) (fun c_7 => ?_)
          · rw [if_pos c_7] at hB_48
            subst hB_48
            exact EX_48 v3_48 o_faultPlace_h48 o_faultNumber_h48 o_at_h48 o_numberPlace_h48 x1_knowsAtFirst_h48 (show o_at_h48 ≤ o_length by omega) _ _ _ hR hP hD hS (lv_sub hl [3] rfl)
          · rw [if_neg c_7] at hB_48
            refine lv_aload_n hx hb dX3_readKnows_61 rfl (lv_at hl 3 rfl) ?_
            refine lv_iconst (v := (0 : Int32)) hx hb dX3_readKnows_62 (by decide) ?_
            refine lv_aload_n hx hb dX3_readKnows_63 rfl (lv_at hl 4 rfl) ?_
            refine fget E hP 1 rfl fd_X3_103 (v := .int (nI x1_men)) rfl dX3_readKnows_64 ?_
            refine lv_iconst (v := (1 : Int32)) hx hb dX3_readKnows_67 (by decide) ?_
            refine lv_isub hx hb dX3_readKnows_68 ?_
            have hC_69 := (c_X3_number l D tB tI tZ a_o a_o_bytes o_length o_faultPlace_h48 o_faultNumber_h48 o_at_h48 o_numberPlace_h48 o_yearClauses (o_knowsClauses + (1 : Int32)) (o_otherClauses + (1 : Int32)) o_bytes (0 : Int32) ((nI x1_men) - (1 : Int32)) (show o_length ≤ 500 by first | assumption | omega | exact NN.none | exact NN.nat (by omega) (by omega) | exact NN.up (by assumption) (by omega)) (show o_at_h48 ≤ o_length by first | assumption | omega | exact NN.none | exact NN.nat (by omega) (by omega) | exact NN.up (by assumption) (by omega)))
            generalize hu_69 : (S_X3_number (0 : Int32) ((nI x1_men) - (1 : Int32)) o_faultNumber_h48 o_length o_faultPlace_h48 o_at_h48 o_numberPlace_h48 o_bytes) = u_69 at hC_69 hB_48
            obtain ⟨r69_r, r69_o_at, r69_o_numberPlace, r69_o_faultNumber, r69_o_faultPlace⟩ := u_69
            obtain ⟨hpa_69, hpb_69⟩ := number_ok hu_69 (by omega)
            refine kcV E hl.1 hC_69 cv_X3_number wm_X3_109 hP hD hS hA [0, 2] rfl rfl rfl (ws2 := [(a_o, .inr (3, [.ref a_o_bytes, .int (nI o_length), .int r69_o_faultPlace, .int r69_o_faultNumber, .int (nI r69_o_at), .int (nI r69_o_numberPlace), .int o_yearClauses, .int (o_knowsClauses + (1 : Int32)), .int (o_otherClauses + (1 : Int32))])), (a_x1, .inr (1, [.int x1_year, .int (nI x1_bridges), .int (nI x1_men), .int (nI x1_oxen), .ref a_x1_forgets, .ref a_x1_weight, .ref a_x1_chance, .ref a_x1_knowsAtFirst, .ref a_x1_oxWeight, .ref a_x1_oxPrice])), (a_o_bytes, .inl (tB, 500, .inl o_bytes)), (a_x1_knowsAtFirst, .inl (tI, 6, .inl x1_knowsAtFirst_h48))]) rfl rfl (b := a_o) (As := [.int (0 : Int32), .int ((nI x1_men) - (1 : Int32))]) (rest := []) 0 3 rfl rfl rfl rfl (Nat.le_of_ble_eq_true rfl) ⟨Nat.le_of_ble_eq_true rfl, Nat.le_of_ble_eq_true rfl⟩ ⟨Nat.zero_le _, Nat.zero_le _⟩ dX3_readKnows_69 (fun H locs hP hD hS => ?_)
            have hP : va_P D vwCl [(a_o, .inr (3, [.ref a_o_bytes, .int (nI o_length), .int r69_o_faultPlace, .int r69_o_faultNumber, .int (nI r69_o_at), .int (nI r69_o_numberPlace), .int o_yearClauses, .int (o_knowsClauses + (1 : Int32)), .int (o_otherClauses + (1 : Int32))])), (a_x1, .inr (1, [.int x1_year, .int (nI x1_bridges), .int (nI x1_men), .int (nI x1_oxen), .ref a_x1_forgets, .ref a_x1_weight, .ref a_x1_chance, .ref a_x1_knowsAtFirst, .ref a_x1_oxWeight, .ref a_x1_oxPrice])), (a_o_bytes, .inl (tB, 500, .inl o_bytes)), (a_x1_knowsAtFirst, .inl (tI, 6, .inl x1_knowsAtFirst_h48))] H := hP
            have hD : va_D A [(a_o, .inr (3, [.ref a_o_bytes, .int (nI o_length), .int r69_o_faultPlace, .int r69_o_faultNumber, .int (nI r69_o_at), .int (nI r69_o_numberPlace), .int o_yearClauses, .int (o_knowsClauses + (1 : Int32)), .int (o_otherClauses + (1 : Int32))])), (a_x1, .inr (1, [.int x1_year, .int (nI x1_bridges), .int (nI x1_men), .int (nI x1_oxen), .ref a_x1_forgets, .ref a_x1_weight, .ref a_x1_chance, .ref a_x1_knowsAtFirst, .ref a_x1_oxWeight, .ref a_x1_oxPrice])), (a_o_bytes, .inl (tB, 500, .inl o_bytes)), (a_x1_knowsAtFirst, .inl (tI, 6, .inl x1_knowsAtFirst_h48))] := hD
            have hB_48 : K_X3_readKnows_69 o_length x1_men o_bytes r28_r x1_knowsAtFirst_h48 r69_r r69_o_at r69_o_numberPlace r69_o_faultNumber r69_o_faultPlace = RB_48 := hB_48
            unfold K_X3_readKnows_69 at hB_48
            refine lv_istore (lv' := [(5, .int r69_r), (4, .int (nI k_48)), (3, .int v3_48), (2, .int r28_r), (0, .ref a_o), (1, .ref a_x1)]) hx hb dX3_readKnows_72 hl (by decide) rfl (fun ls hl => ?_)
            refine lv_aload_n hx hb dX3_readKnows_74 rfl (lv_at hl 4 rfl) ?_
            refine fget E hP 0 rfl fd_X3_22 (v := .int r69_o_faultNumber) rfl dX3_readKnows_75 ?_
            refine lv_if_ne (tgt := 89) hx hb dX3_readKnows_78 (by decide) (fun c_8 => ?_) (fun c_8 => ?_)
            · rw [if_neg c_8] at hB_48
              refine lv_aload_n hx hb dX3_readKnows_89 rfl (lv_at hl 4 rfl) ?_
              refine lv_bipush (v := (44 : Int32)) hx hb dX3_readKnows_90 (by decide) ?_
              have hC_92 := (c_X3_takes l D tB tI tZ a_o a_o_bytes o_length r69_o_faultPlace r69_o_faultNumber r69_o_at r69_o_numberPlace o_yearClauses (o_knowsClauses + (1 : Int32)) (o_otherClauses + (1 : Int32)) o_bytes (44 : Int32) (show o_length ≤ 500 by first | assumption | omega | exact NN.none | exact NN.nat (by omega) (by omega) | exact NN.up (by assumption) (by omega)) (show r69_o_at ≤ o_length by first | assumption | omega | exact NN.none | exact NN.nat (by omega) (by omega) | exact NN.up (by assumption) (by omega)))
              generalize hu_92 : (S_X3_takes (44 : Int32) r69_o_faultNumber o_length r69_o_at o_bytes) = u_92 at hC_92 hB_48
              obtain ⟨r92_r, r92_o_at⟩ := u_92
              obtain ⟨hpa_92, hpb_92⟩ := takes_ok hu_92 (by omega)
              refine kcV E hl.1 hC_92 cv_X3_takes wm_X3_131 hP hD hS hA [0, 2] rfl rfl rfl (ws2 := [(a_o, .inr (3, [.ref a_o_bytes, .int (nI o_length), .int r69_o_faultPlace, .int r69_o_faultNumber, .int (nI r92_o_at), .int (nI r69_o_numberPlace), .int o_yearClauses, .int (o_knowsClauses + (1 : Int32)), .int (o_otherClauses + (1 : Int32))])), (a_x1, .inr (1, [.int x1_year, .int (nI x1_bridges), .int (nI x1_men), .int (nI x1_oxen), .ref a_x1_forgets, .ref a_x1_weight, .ref a_x1_chance, .ref a_x1_knowsAtFirst, .ref a_x1_oxWeight, .ref a_x1_oxPrice])), (a_o_bytes, .inl (tB, 500, .inl o_bytes)), (a_x1_knowsAtFirst, .inl (tI, 6, .inl x1_knowsAtFirst_h48))]) rfl rfl (b := a_o) (As := [.int (44 : Int32)]) (rest := []) 0 3 rfl rfl rfl rfl (Nat.le_of_ble_eq_true rfl) ⟨Nat.le_of_ble_eq_true rfl, Nat.le_of_ble_eq_true rfl⟩ ⟨Nat.zero_le _, Nat.zero_le _⟩ dX3_readKnows_92 (fun H locs hP hD hS => ?_)
              have hP : va_P D vwCl [(a_o, .inr (3, [.ref a_o_bytes, .int (nI o_length), .int r69_o_faultPlace, .int r69_o_faultNumber, .int (nI r92_o_at), .int (nI r69_o_numberPlace), .int o_yearClauses, .int (o_knowsClauses + (1 : Int32)), .int (o_otherClauses + (1 : Int32))])), (a_x1, .inr (1, [.int x1_year, .int (nI x1_bridges), .int (nI x1_men), .int (nI x1_oxen), .ref a_x1_forgets, .ref a_x1_weight, .ref a_x1_chance, .ref a_x1_knowsAtFirst, .ref a_x1_oxWeight, .ref a_x1_oxPrice])), (a_o_bytes, .inl (tB, 500, .inl o_bytes)), (a_x1_knowsAtFirst, .inl (tI, 6, .inl x1_knowsAtFirst_h48))] H := hP
              have hD : va_D A [(a_o, .inr (3, [.ref a_o_bytes, .int (nI o_length), .int r69_o_faultPlace, .int r69_o_faultNumber, .int (nI r92_o_at), .int (nI r69_o_numberPlace), .int o_yearClauses, .int (o_knowsClauses + (1 : Int32)), .int (o_otherClauses + (1 : Int32))])), (a_x1, .inr (1, [.int x1_year, .int (nI x1_bridges), .int (nI x1_men), .int (nI x1_oxen), .ref a_x1_forgets, .ref a_x1_weight, .ref a_x1_chance, .ref a_x1_knowsAtFirst, .ref a_x1_oxWeight, .ref a_x1_oxPrice])), (a_o_bytes, .inl (tB, 500, .inl o_bytes)), (a_x1_knowsAtFirst, .inl (tI, 6, .inl x1_knowsAtFirst_h48))] := hD
              have hB_48 : K_X3_readKnows_92 r69_o_numberPlace r69_o_faultNumber r69_o_faultPlace x1_knowsAtFirst_h48 r92_r r92_o_at = RB_48 := hB_48
              unfold K_X3_readKnows_92 at hB_48
              refine lv_istore_n (lv' := [(3, .int r92_r), (5, .int r69_r), (4, .int (nI k_48)), (2, .int r28_r), (0, .ref a_o), (1, .ref a_x1)]) hx hb dX3_readKnows_95 rfl hl (by decide) rfl (fun ls hl => ?_)
              refine lv_iinc (v := (nI (k_48 + 1))) (lv' := [(4, .int (nI (k_48 + 1))), (3, .int r92_r), (5, .int r69_r), (2, .int r28_r), (0, .ref a_o), (1, .ref a_x1)]) hx hb dX3_readKnows_96 hl (k := 2) rfl (nI_i1 k_48) (by decide) rfl (fun ls hl => ?_)
              refine lv_goto (tgt := 48) hx hb dX3_readKnows_99 (by decide) ?_
              subst hB_48
              exact ih_48 (k_48 + 1) r92_r r69_o_faultPlace r69_o_faultNumber r92_o_at r69_o_numberPlace x1_knowsAtFirst_h48 (show r92_o_at ≤ o_length by omega) _ _ _ (by omega) hR hP hD hS (lv_sub hl [0, 1, 3, 4, 5] rfl)
            · rw [if_pos c_8] at hB_48
              refine lv_aload_n hx hb dX3_readKnows_81 rfl (lv_at hl 4 rfl) ?_
              refine lv_aload_n hx hb dX3_readKnows_82 rfl (lv_at hl 5 rfl) ?_
              refine lv_iload_n hx hb dX3_readKnows_83 rfl (lv_at hl 3 rfl) ?_
              refine lv_iload hx hb dX3_readKnows_84 (lv_at hl 0 rfl) ?_
              have hC_86 := (c_X3_readKnown l D tB tI tZ a_x1 a_x1_forgets a_x1_weight a_x1_chance a_x1_knowsAtFirst a_x1_oxWeight a_x1_oxPrice a_o a_o_bytes x1_year x1_bridges x1_men x1_oxen o_length r69_o_faultPlace r69_o_faultNumber r69_o_at r69_o_numberPlace o_yearClauses (o_knowsClauses + (1 : Int32)) (o_otherClauses + (1 : Int32)) x1_knowsAtFirst_h48 r28_r r69_r (show x1_men ≤ 6 by first | assumption | omega | exact NN.none | exact NN.nat (by omega) (by omega) | exact NN.up (by assumption) (by omega)))
              generalize hu_86 : (S_X3_readKnown r28_r r69_r x1_men r69_o_numberPlace r69_o_faultPlace r69_o_faultNumber x1_knowsAtFirst_h48) = u_86 at hC_86 hB_48
              obtain ⟨r86_o_faultNumber, r86_o_faultPlace, r86_x1_knowsAtFirst⟩ := u_86
              refine kcV E hl.1 hC_86 cv_X3_readKnown wm_X3_127 hP hD hS hA [1, 0, 3] rfl rfl rfl (ws2 := [(a_o, .inr (3, [.ref a_o_bytes, .int (nI o_length), .int r86_o_faultPlace, .int r86_o_faultNumber, .int (nI r69_o_at), .int (nI r69_o_numberPlace), .int o_yearClauses, .int (o_knowsClauses + (1 : Int32)), .int (o_otherClauses + (1 : Int32))])), (a_x1, .inr (1, [.int x1_year, .int (nI x1_bridges), .int (nI x1_men), .int (nI x1_oxen), .ref a_x1_forgets, .ref a_x1_weight, .ref a_x1_chance, .ref a_x1_knowsAtFirst, .ref a_x1_oxWeight, .ref a_x1_oxPrice])), (a_o_bytes, .inl (tB, 500, .inl o_bytes)), (a_x1_knowsAtFirst, .inl (tI, 6, .inl r86_x1_knowsAtFirst))]) rfl rfl (b := a_o) (As := [.ref a_x1, .int r28_r, .int r69_r]) (rest := []) 1 3 rfl rfl rfl rfl (Nat.le_of_ble_eq_true rfl) ⟨Nat.le_of_ble_eq_true rfl, Nat.le_of_ble_eq_true rfl⟩ ⟨Nat.zero_le _, Nat.zero_le _⟩ dX3_readKnows_86 (fun H locs hP hD hS => ?_)
              have hP : va_P D vwCl [(a_o, .inr (3, [.ref a_o_bytes, .int (nI o_length), .int r86_o_faultPlace, .int r86_o_faultNumber, .int (nI r69_o_at), .int (nI r69_o_numberPlace), .int o_yearClauses, .int (o_knowsClauses + (1 : Int32)), .int (o_otherClauses + (1 : Int32))])), (a_x1, .inr (1, [.int x1_year, .int (nI x1_bridges), .int (nI x1_men), .int (nI x1_oxen), .ref a_x1_forgets, .ref a_x1_weight, .ref a_x1_chance, .ref a_x1_knowsAtFirst, .ref a_x1_oxWeight, .ref a_x1_oxPrice])), (a_o_bytes, .inl (tB, 500, .inl o_bytes)), (a_x1_knowsAtFirst, .inl (tI, 6, .inl r86_x1_knowsAtFirst))] H := hP
              have hD : va_D A [(a_o, .inr (3, [.ref a_o_bytes, .int (nI o_length), .int r86_o_faultPlace, .int r86_o_faultNumber, .int (nI r69_o_at), .int (nI r69_o_numberPlace), .int o_yearClauses, .int (o_knowsClauses + (1 : Int32)), .int (o_otherClauses + (1 : Int32))])), (a_x1, .inr (1, [.int x1_year, .int (nI x1_bridges), .int (nI x1_men), .int (nI x1_oxen), .ref a_x1_forgets, .ref a_x1_weight, .ref a_x1_chance, .ref a_x1_knowsAtFirst, .ref a_x1_oxWeight, .ref a_x1_oxPrice])), (a_o_bytes, .inl (tB, 500, .inl o_bytes)), (a_x1_knowsAtFirst, .inl (tI, 6, .inl r86_x1_knowsAtFirst))] := hD
              have hB_48 : K_X3_readKnows_86 o_length o_bytes r69_o_at r69_o_numberPlace r86_o_faultNumber r86_o_faultPlace r86_x1_knowsAtFirst = RB_48 := hB_48
              unfold K_X3_readKnows_86 at hB_48
              refine lv_aload_n hx hb dX3_readKnows_89 rfl (lv_at hl 4 rfl) ?_
              refine lv_bipush (v := (44 : Int32)) hx hb dX3_readKnows_90 (by decide) ?_
              have hC_92 := (c_X3_takes l D tB tI tZ a_o a_o_bytes o_length r86_o_faultPlace r86_o_faultNumber r69_o_at r69_o_numberPlace o_yearClauses (o_knowsClauses + (1 : Int32)) (o_otherClauses + (1 : Int32)) o_bytes (44 : Int32) (show o_length ≤ 500 by first | assumption | omega | exact NN.none | exact NN.nat (by omega) (by omega) | exact NN.up (by assumption) (by omega)) (show r69_o_at ≤ o_length by first | assumption | omega | exact NN.none | exact NN.nat (by omega) (by omega) | exact NN.up (by assumption) (by omega)))
              generalize hu_92 : (S_X3_takes (44 : Int32) r86_o_faultNumber o_length r69_o_at o_bytes) = u_92 at hC_92 hB_48
              obtain ⟨r92_r, r92_o_at⟩ := u_92
              obtain ⟨hpa_92, hpb_92⟩ := takes_ok hu_92 (by omega)
              refine kcV E hl.1 hC_92 cv_X3_takes wm_X3_131 hP hD hS hA [0, 2] rfl rfl rfl (ws2 := [(a_o, .inr (3, [.ref a_o_bytes, .int (nI o_length), .int r86_o_faultPlace, .int r86_o_faultNumber, .int (nI r92_o_at), .int (nI r69_o_numberPlace), .int o_yearClauses, .int (o_knowsClauses + (1 : Int32)), .int (o_otherClauses + (1 : Int32))])), (a_x1, .inr (1, [.int x1_year, .int (nI x1_bridges), .int (nI x1_men), .int (nI x1_oxen), .ref a_x1_forgets, .ref a_x1_weight, .ref a_x1_chance, .ref a_x1_knowsAtFirst, .ref a_x1_oxWeight, .ref a_x1_oxPrice])), (a_o_bytes, .inl (tB, 500, .inl o_bytes)), (a_x1_knowsAtFirst, .inl (tI, 6, .inl r86_x1_knowsAtFirst))]) rfl rfl (b := a_o) (As := [.int (44 : Int32)]) (rest := []) 0 3 rfl rfl rfl rfl (Nat.le_of_ble_eq_true rfl) ⟨Nat.le_of_ble_eq_true rfl, Nat.le_of_ble_eq_true rfl⟩ ⟨Nat.zero_le _, Nat.zero_le _⟩ dX3_readKnows_92 (fun H locs hP hD hS => ?_)
              have hP : va_P D vwCl [(a_o, .inr (3, [.ref a_o_bytes, .int (nI o_length), .int r86_o_faultPlace, .int r86_o_faultNumber, .int (nI r92_o_at), .int (nI r69_o_numberPlace), .int o_yearClauses, .int (o_knowsClauses + (1 : Int32)), .int (o_otherClauses + (1 : Int32))])), (a_x1, .inr (1, [.int x1_year, .int (nI x1_bridges), .int (nI x1_men), .int (nI x1_oxen), .ref a_x1_forgets, .ref a_x1_weight, .ref a_x1_chance, .ref a_x1_knowsAtFirst, .ref a_x1_oxWeight, .ref a_x1_oxPrice])), (a_o_bytes, .inl (tB, 500, .inl o_bytes)), (a_x1_knowsAtFirst, .inl (tI, 6, .inl r86_x1_knowsAtFirst))] H := hP
              have hD : va_D A [(a_o, .inr (3, [.ref a_o_bytes, .int (nI o_length), .int r86_o_faultPlace, .int r86_o_faultNumber, .int (nI r92_o_at), .int (nI r69_o_numberPlace), .int o_yearClauses, .int (o_knowsClauses + (1 : Int32)), .int (o_otherClauses + (1 : Int32))])), (a_x1, .inr (1, [.int x1_year, .int (nI x1_bridges), .int (nI x1_men), .int (nI x1_oxen), .ref a_x1_forgets, .ref a_x1_weight, .ref a_x1_chance, .ref a_x1_knowsAtFirst, .ref a_x1_oxWeight, .ref a_x1_oxPrice])), (a_o_bytes, .inl (tB, 500, .inl o_bytes)), (a_x1_knowsAtFirst, .inl (tI, 6, .inl r86_x1_knowsAtFirst))] := hD
              have hB_48 : K_X3_readKnows_92_1 r69_o_numberPlace r86_o_faultNumber r86_o_faultPlace r86_x1_knowsAtFirst r92_r r92_o_at = RB_48 := hB_48
              unfold K_X3_readKnows_92_1 at hB_48
              refine lv_istore_n (lv' := [(3, .int r92_r), (5, .int r69_r), (4, .int (nI k_48)), (2, .int r28_r), (0, .ref a_o), (1, .ref a_x1)]) hx hb dX3_readKnows_95 rfl hl (by decide) rfl (fun ls hl => ?_)
              refine lv_iinc (v := (nI (k_48 + 1))) (lv' := [(4, .int (nI (k_48 + 1))), (3, .int r92_r), (5, .int r69_r), (2, .int r28_r), (0, .ref a_o), (1, .ref a_x1)]) hx hb dX3_readKnows_96 hl (k := 2) rfl (nI_i1 k_48) (by decide) rfl (fun ls hl => ?_)
              refine lv_goto (tgt := 48) hx hb dX3_readKnows_99 (by decide) ?_
              subst hB_48
              exact ih_48 (k_48 + 1) r92_r r86_o_faultPlace r86_o_faultNumber r92_o_at r69_o_numberPlace r86_x1_knowsAtFirst (show r92_o_at ≤ o_length by omega) _ _ _ (by omega) hR hP hD hS (lv_sub hl [0, 1, 3, 4, 5] rfl)
    exact LP_48 o_length 0 (1 : Int32) r28_o_faultPlace r28_o_faultNumber r28_o_at r28_o_numberPlace x1_knowsAtFirst (show r28_o_at ≤ o_length by omega) _ _ _ (by omega) hR hP hD hS (lv_sub hl [0, 1, 2, 3, 4] rfl)

def K_X6_feed_38  (r38_r : Nat) (r38_o_bytes : Nat → Int32) (r38_o_length : Nat) : Int32 × (Nat → Int32) × Nat := ((nI r38_r), r38_o_bytes, r38_o_length)
def S_X6_feed (x1 : Int32) (x2 : Int64) (o_reader_length : Nat) (o_reader_bytes : Nat → Int32) : Int32 × (Nat → Int32) × Nat := (if x1 < (1 : Int32) then ((-1000000002 : Int32), o_reader_bytes, o_reader_length) else (if x1 ≤ (8 : Int32) then (if (o_reader_length + x1.toNatClampNeg) ≤ 500 then ((fun u => K_X6_feed_38  u.1 u.2.1 u.2.2) (S_X3_add x1.toNatClampNeg x2 o_reader_length o_reader_bytes)) else ((-1000000004 : Int32), o_reader_bytes, o_reader_length)) else ((-1000000002 : Int32), o_reader_bytes, o_reader_length)))
set_option maxHeartbeats 4000000 in
set_option maxRecDepth 100000 in
theorem c_X6_feed (l : Launch) (D : va_G) (tB tI tZ : ClassId) (a_o a_o_land a_o_draft a_o_reader a_o_now a_o_firstImage a_o_secondImage a_o_trial a_o_sights a_o_queue a_o_reader_bytes : Nat) (o_keptImages : Int32) (o_reader_length : Nat) (o_reader_faultPlace : Int32) (o_reader_faultNumber : Int32) (o_reader_at : Nat) (o_reader_numberPlace : Nat) (o_reader_yearClauses : Int32) (o_reader_knowsClauses : Int32) (o_reader_otherClauses : Int32) (o_reader_bytes : Nat → Int32) (x1 : Int32) (x2 : Int64) (hlen : o_reader_length ≤ 500) : CT l D (tyL tB tI tZ) yX6_feed (.code yX6_feed cX6_feed 4 (some .int)) 1 24 [.ref a_o, .int x1, .long x2] [(a_o, .inr (6, [.ref a_o_land, .ref a_o_draft, .ref a_o_reader, .ref a_o_now, .ref a_o_firstImage, .ref a_o_secondImage, .ref a_o_trial, .ref a_o_sights, .ref a_o_queue, .int o_keptImages])), (a_o_reader, .inr (3, [.ref a_o_reader_bytes, .int (nI o_reader_length), .int o_reader_faultPlace, .int o_reader_faultNumber, .int (nI o_reader_at), .int (nI o_reader_numberPlace), .int o_reader_yearClauses, .int o_reader_knowsClauses, .int o_reader_otherClauses])), (a_o_reader_bytes, .inl (tB, 500, .inl o_reader_bytes))] (fun u : Int32 × (Nat → Int32) × Nat => some (.int (u.1))) (fun u : Int32 × (Nat → Int32) × Nat => [(a_o, .inr (6, [.ref a_o_land, .ref a_o_draft, .ref a_o_reader, .ref a_o_now, .ref a_o_firstImage, .ref a_o_secondImage, .ref a_o_trial, .ref a_o_sights, .ref a_o_queue, .int o_keptImages])), (a_o_reader, .inr (3, [.ref a_o_reader_bytes, .int (nI (u.2.2)), .int o_reader_faultPlace, .int o_reader_faultNumber, .int (nI o_reader_at), .int (nI o_reader_numberPlace), .int o_reader_yearClauses, .int o_reader_knowsClauses, .int o_reader_otherClauses])), (a_o_reader_bytes, .inl (tB, 500, .inl (u.2.1)))]) (S_X6_feed x1 x2 o_reader_length o_reader_bytes) := by
  refine CT.intro (k := 0) (Nat.le_of_ble_eq_true rfl) (by decide) ?_
  intro p e s m below meth c Q A ls E hA hP hD hS hl hF
  obtain ⟨⟨hx, hb, hml, hown, hts⟩, hK⟩ := id E
  generalize hR : S_X6_feed x1 x2 o_reader_length o_reader_bytes = RES at hF
  unfold S_X6_feed at hR
  have hl : lv_has ls 4 [(0, .ref a_o), (1, .int x1), (2, .long x2)] := hl
  refine lv_iload_n hx hb dX6_feed_0 rfl (lv_at hl 1 rfl) ?_
  refine lv_iconst (v := (1 : Int32)) hx hb dX6_feed_1 (by decide) ?_
  refine lv_icmp_lt (tgt := 11) hx hb dX6_feed_2 (by decide) (fun c_1 => ?_) (fun c_1 => ?_)
  · rw [if_pos c_1] at hR
    refine lv_ldc hx hb hown (hts _ wk_X6_68) dX6_feed_11 ?_
    subst hR
    exact (hF _ _ _ _ hP hS).1 _ rfl ⟨.int, rfl, rfl⟩ dX6_feed_13
  · rw [if_neg c_1] at hR
    refine lv_iload_n hx hb dX6_feed_5 rfl (lv_at hl 1 rfl) ?_
    refine lv_bipush (v := (8 : Int32)) hx hb dX6_feed_6 (by decide) ?_
    refine lv_icmp_le (tgt := 14) hx hb dX6_feed_8 (by decide) (fun c_2 => ?_) (fun c_2 => ?_)
    · rw [if_pos c_2] at hR
      obtain ⟨fn1, fn2, fn3⟩ := rg_le (n := 8) (by assumption) c_2 (by omega)
      refine lv_aload_n hx hb dX6_feed_14 rfl (lv_at hl 0 rfl) ?_
      refine fget E hP 0 rfl fd_X6_22 (v := .ref a_o_reader) rfl dX6_feed_15 ?_
      refine fget E hP 1 rfl fd_X6_69 (v := .int (nI o_reader_length)) rfl dX6_feed_18 ?_
      refine lv_iload_n hx hb dX6_feed_21 rfl (lv_at hl 1 rfl) ?_
      refine lv_is fn1 ?_
      refine lv_iadd hx hb dX6_feed_22 ?_
      refine lv_is (nI_add o_reader_length x1.toNatClampNeg) ?_
      refine lv_sipush (v := (500 : Int32)) hx hb dX6_feed_23 (by decide) ?_
      refine ni_le (a := (o_reader_length + x1.toNatClampNeg)) (b := 500) (tgt := 32) (by omega) (by omega) hx hb dX6_feed_26 (by decide) (fun c_3 => ?_) (fun c_3 => ?_)
      · rw [if_pos c_3] at hR
        refine lv_aload_n hx hb dX6_feed_32 rfl (lv_at hl 0 rfl) ?_
        refine fget E hP 0 rfl fd_X6_22 (v := .ref a_o_reader) rfl dX6_feed_33 ?_
        refine lv_iload_n hx hb dX6_feed_36 rfl (lv_at hl 1 rfl) ?_
        refine lv_is fn1 ?_
        refine lv_lload_n hx hb dX6_feed_37 rfl (lv_at hl 2 rfl) ?_
        have hC_38 := (c_X3_add l D tB tI tZ a_o_reader a_o_reader_bytes o_reader_length o_reader_faultPlace o_reader_faultNumber o_reader_at o_reader_numberPlace o_reader_yearClauses o_reader_knowsClauses o_reader_otherClauses o_reader_bytes x1.toNatClampNeg x2 (show o_reader_length ≤ 500 by first | assumption | omega | exact NN.none | exact NN.nat (by omega) (by omega) | exact NN.up (by assumption) (by omega)) (show x1.toNatClampNeg ≤ 8 by first | assumption | omega | exact NN.none | exact NN.nat (by omega) (by omega) | exact NN.up (by assumption) (by omega)))
        generalize hu_38 : (S_X3_add x1.toNatClampNeg x2 o_reader_length o_reader_bytes) = u_38 at hC_38 hR
        obtain ⟨r38_r, r38_o_bytes, r38_o_length⟩ := u_38
        refine kcV E hl.1 hC_38 cv_X3_add wm_X6_73 hP hD hS hA [1, 2] rfl rfl rfl (ws2 := [(a_o, .inr (6, [.ref a_o_land, .ref a_o_draft, .ref a_o_reader, .ref a_o_now, .ref a_o_firstImage, .ref a_o_secondImage, .ref a_o_trial, .ref a_o_sights, .ref a_o_queue, .int o_keptImages])), (a_o_reader, .inr (3, [.ref a_o_reader_bytes, .int (nI r38_o_length), .int o_reader_faultPlace, .int o_reader_faultNumber, .int (nI o_reader_at), .int (nI o_reader_numberPlace), .int o_reader_yearClauses, .int o_reader_knowsClauses, .int o_reader_otherClauses])), (a_o_reader_bytes, .inl (tB, 500, .inl r38_o_bytes))]) rfl rfl (b := a_o_reader) (As := [.int (nI x1.toNatClampNeg), .long x2]) (rest := []) 0 3 rfl rfl rfl rfl (Nat.le_of_ble_eq_true rfl) ⟨Nat.le_of_ble_eq_true rfl, Nat.le_of_ble_eq_true rfl⟩ ⟨Nat.zero_le _, Nat.zero_le _⟩ dX6_feed_38 (fun H locs hP hD hS => ?_)
        have hP : va_P D vwCl [(a_o, .inr (6, [.ref a_o_land, .ref a_o_draft, .ref a_o_reader, .ref a_o_now, .ref a_o_firstImage, .ref a_o_secondImage, .ref a_o_trial, .ref a_o_sights, .ref a_o_queue, .int o_keptImages])), (a_o_reader, .inr (3, [.ref a_o_reader_bytes, .int (nI r38_o_length), .int o_reader_faultPlace, .int o_reader_faultNumber, .int (nI o_reader_at), .int (nI o_reader_numberPlace), .int o_reader_yearClauses, .int o_reader_knowsClauses, .int o_reader_otherClauses])), (a_o_reader_bytes, .inl (tB, 500, .inl r38_o_bytes))] H := hP
        have hD : va_D A [(a_o, .inr (6, [.ref a_o_land, .ref a_o_draft, .ref a_o_reader, .ref a_o_now, .ref a_o_firstImage, .ref a_o_secondImage, .ref a_o_trial, .ref a_o_sights, .ref a_o_queue, .int o_keptImages])), (a_o_reader, .inr (3, [.ref a_o_reader_bytes, .int (nI r38_o_length), .int o_reader_faultPlace, .int o_reader_faultNumber, .int (nI o_reader_at), .int (nI o_reader_numberPlace), .int o_reader_yearClauses, .int o_reader_knowsClauses, .int o_reader_otherClauses])), (a_o_reader_bytes, .inl (tB, 500, .inl r38_o_bytes))] := hD
        have hR : K_X6_feed_38  r38_r r38_o_bytes r38_o_length = RES := hR
        unfold K_X6_feed_38 at hR
        subst hR
        exact (hF _ _ _ _ hP hS).1 _ rfl ⟨.int, rfl, rfl⟩ dX6_feed_41
      · rw [if_neg c_3] at hR
        refine lv_ldc hx hb hown (hts _ wk_X6_72) dX6_feed_29 ?_
        subst hR
        exact (hF _ _ _ _ hP hS).1 _ rfl ⟨.int, rfl, rfl⟩ dX6_feed_31
    · rw [if_neg c_2] at hR
      refine lv_ldc hx hb hown (hts _ wk_X6_68) dX6_feed_11 ?_
      subst hR
      exact (hF _ _ _ _ hP hS).1 _ rfl ⟨.int, rfl, rfl⟩ dX6_feed_13
