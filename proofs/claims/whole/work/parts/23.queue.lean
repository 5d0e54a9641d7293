
def S_X4_add (x1 : Nat) (x2 : Nat) (o_count : Nat) (o_ahead : Nat → Int32) : Nat × (Nat → Int32) × Nat := (if 6 ≤ x2 then (o_count, o_ahead, o_count) else (if 20 ≤ o_count then (o_count, o_ahead, o_count) else ((o_count + 1), (upd o_ahead x2 ((o_ahead x2) ||| (S_X6_bit (nI x1)))), (o_count + 1))))
set_option maxHeartbeats 4000000 in
set_option maxRecDepth 100000 in
theorem c_X4_add (l : Launch) (D : va_G) (tB tI tZ : ClassId) (a_o a_o_ahead a_o_ways : Nat) (o_count : Nat) (o_ahead : Nat → Int32) (x1 : Nat) (x2 : Nat) (h1 : x1 < 6) (h2 : x2 < 6) (hc : o_count ≤ 20) : CT l D (tyL tB tI tZ) yX4_add (.code yX4_add cX4_add 3 (some .int)) 1 20 [.ref a_o, .int (nI x1), .int (nI x2)] [(a_o, .inr (4, [.int (nI o_count), .ref a_o_ahead, .ref a_o_ways])), (a_o_ahead, .inl (tI, 6, .inl o_ahead))] (fun u : Nat × (Nat → Int32) × Nat => some (.int (nI (u.1)))) (fun u : Nat × (Nat → Int32) × Nat => [(a_o, .inr (4, [.int (nI (u.2.2)), .ref a_o_ahead, .ref a_o_ways])), (a_o_ahead, .inl (tI, 6, .inl (u.2.1)))]) (S_X4_add x1 x2 o_count o_ahead) := by
  refine CT.intro (k := 0) (Nat.le_of_ble_eq_true rfl) (by decide) ?_
  intro p e s m below meth c Q A ls E hA hP hD hS hl hF
  obtain ⟨⟨hx, hb, hml, hown, hts⟩, hK⟩ := id E
  generalize hR : S_X4_add x1 x2 o_count o_ahead = RES at hF
  unfold S_X4_add at hR
  have hl : lv_has ls 3 [(0, .ref a_o), (1, .int (nI x1)), (2, .int (nI x2))] := hl
  refine lv_iload_n hx hb dX4_add_0 rfl (lv_at hl 2 rfl) ?_
  refine nz_lt (a := x2) (tgt := 42) (by omega) hx hb dX4_add_1 (by decide) ?_
  refine lv_iload_n hx hb dX4_add_4 rfl (lv_at hl 2 rfl) ?_
  refine lv_bipush (v := (6 : Int32)) hx hb dX4_add_5 (by decide) ?_
  refine ni_ge (a := x2) (b := 6) (tgt := 42) (by omega) (by omega) hx hb dX4_add_7 (by decide) (fun c_2 => ?_) (fun c_2 => ?_)
  · rw [if_pos c_2] at hR
    refine lv_aload_n hx hb dX4_add_42 rfl (lv_at hl 0 rfl) ?_
    refine fget E hP 0 rfl fd_X4_9 (v := .int (nI o_count)) rfl dX4_add_43 ?_
    subst hR
    exact (hF _ _ _ _ hP hS).1 _ rfl ⟨.int, rfl, rfl⟩ dX4_add_46
  · rw [if_neg c_2] at hR
    refine lv_aload_n hx hb dX4_add_10 rfl (lv_at hl 0 rfl) ?_
    refine fget E hP 0 rfl fd_X4_9 (v := .int (nI o_count)) rfl dX4_add_11 ?_
    refine lv_bipush (v := (20 : Int32)) hx hb dX4_add_14 (by decide) ?_
    refine ni_ge (a := o_count) (b := 20) (tgt := 42) (by omega) (by omega) hx hb dX4_add_16 (by decide) (fun c_3 => ?_) (fun c_3 => ?_)
    · rw [if_pos c_3] at hR
      refine lv_aload_n hx hb dX4_add_42 rfl (lv_at hl 0 rfl) ?_
      refine fget E hP 0 rfl fd_X4_9 (v := .int (nI o_count)) rfl dX4_add_43 ?_
      subst hR
      exact (hF _ _ _ _ hP hS).1 _ rfl ⟨.int, rfl, rfl⟩ dX4_add_46
    · rw [if_neg c_3] at hR
      refine lv_aload_n hx hb dX4_add_19 rfl (lv_at hl 0 rfl) ?_
      refine fget E hP 0 rfl fd_X4_15 (v := .ref a_o_ahead) rfl dX4_add_20 ?_
      refine lv_iload_n hx hb dX4_add_23 rfl (lv_at hl 2 rfl) ?_
      refine lv_dup2_11 hx hb dX4_add_24 rfl rfl ?_
      refine ild E hP 1 rfl (k := x2) (by omega) (by decide) dX4_add_25 ?_
      refine lv_iload_n hx hb dX4_add_26 rfl (lv_at hl 1 rfl) ?_
      refine kcSN E hl.1 (c_X6_bit l D tB tI tZ (nI x1) ) cs_X6_bit 12 rfl hP hD hS hA [] rfl rfl rfl (ws2 := [(a_o, .inr (4, [.int (nI o_count), .ref a_o_ahead, .ref a_o_ways])), (a_o_ahead, .inl (tI, 6, .inl o_ahead))]) rfl rfl (As := [.int (nI x1)]) (rest := [.int (o_ahead x2), .int (nI x2), .ref a_o_ahead]) rfl rfl (Nat.le_of_ble_eq_true rfl) ⟨Nat.le_of_ble_eq_true rfl, Nat.le_of_ble_eq_true rfl⟩ ⟨Nat.zero_le _, Nat.zero_le _⟩ dX4_add_27 (fun H locs hP hD hS => ?_)
      refine lv_ior hx hb dX4_add_30 ?_
      refine ist E hP hD hS 1 rfl (k := x2) (by omega) (by decide) dX4_add_31 (fun H locs hP hD hS => ?_)
      have hP : va_P D vwCl [(a_o, .inr (4, [.int (nI o_count), .ref a_o_ahead, .ref a_o_ways])), (a_o_ahead, .inl (tI, 6, .inl (upd o_ahead x2 ((o_ahead x2) ||| (S_X6_bit (nI x1))))))] H := hP
      have hD : va_D A [(a_o, .inr (4, [.int (nI o_count), .ref a_o_ahead, .ref a_o_ways])), (a_o_ahead, .inl (tI, 6, .inl (upd o_ahead x2 ((o_ahead x2) ||| (S_X6_bit (nI x1))))))] := hD
      refine lv_aload_n hx hb dX4_add_32 rfl (lv_at hl 0 rfl) ?_
      refine lv_dup hx hb dX4_add_33 rfl ?_
      refine fget E hP 0 rfl fd_X4_9 (v := .int (nI o_count)) rfl dX4_add_34 ?_
      refine lv_iconst (v := (1 : Int32)) hx hb dX4_add_37 (by decide) ?_
      refine lv_iadd hx hb dX4_add_38 ?_
      refine lv_is (nI_add o_count 1) ?_
      refine fput E hP hD hS 0 rfl fd_X4_9 fp_X4 (ty := .int) (v := .int (nI (o_count + 1))) rfl rfl rfl rfl (Nat.le_of_ble_eq_true rfl) dX4_add_39 (fun H locs hP hD hS => ?_)
      have hP : va_P D vwCl [(a_o, .inr (4, [.int (nI (o_count + 1)), .ref a_o_ahead, .ref a_o_ways])), (a_o_ahead, .inl (tI, 6, .inl (upd o_ahead x2 ((o_ahead x2) ||| (S_X6_bit (nI x1))))))] H := hP
      have hD : va_D A [(a_o, .inr (4, [.int (nI (o_count + 1)), .ref a_o_ahead, .ref a_o_ways])), (a_o_ahead, .inl (tI, 6, .inl (upd o_ahead x2 ((o_ahead x2) ||| (S_X6_bit (nI x1))))))] := hD
      refine lv_aload_n hx hb dX4_add_42 rfl (lv_at hl 0 rfl) ?_
      refine fget E hP 0 rfl fd_X4_9 (v := .int (nI (o_count + 1))) rfl dX4_add_43 ?_
      subst hR
      exact (hF _ _ _ _ hP hS).1 _ rfl ⟨.int, rfl, rfl⟩ dX4_add_46

def K_X4_clear_7  (o_ahead_h7 : Nat → Int32) : Nat × (Nat → Int32) := (0, o_ahead_h7)
def B_X4_clear_7  (k_7 : Nat) (o_ahead_h7 : Nat → Int32) : (Nat → Int32) := (upd o_ahead_h7 k_7 (0 : Int32))
def S_X4_clear (o_ahead : Nat → Int32) : Nat × (Nat → Int32) := ((fun a => K_X4_clear_7 a) (iter (fun k a => B_X4_clear_7 k a) 6 0 o_ahead))
set_option maxHeartbeats 4000000 in
set_option maxRecDepth 100000 in
theorem c_X4_clear (l : Launch) (D : va_G) (tB tI tZ : ClassId) (a_o a_o_ahead a_o_ways : Nat) (o_count : Nat) (o_ahead : Nat → Int32)   : CT l D (tyL tB tI tZ) yX4_clear (.code yX4_clear cX4_clear 2 none) 0 0 [.ref a_o] [(a_o, .inr (4, [.int (nI o_count), .ref a_o_ahead, .ref a_o_ways])), (a_o_ahead, .inl (tI, 6, .inl o_ahead))] (fun _ : Nat × (Nat → Int32) => none) (fun u : Nat × (Nat → Int32) => [(a_o, .inr (4, [.int (nI (u.1)), .ref a_o_ahead, .ref a_o_ways])), (a_o_ahead, .inl (tI, 6, .inl (u.2)))]) (S_X4_clear o_ahead) := by
  refine CT.intro (k := 0) (Nat.le_of_ble_eq_true rfl) (by decide) ?_
  intro p e s m below meth c Q A ls E hA hP hD hS hl hF
  obtain ⟨⟨hx, hb, hml, hown, hts⟩, hK⟩ := id E
  generalize hR : S_X4_clear o_ahead = RES at hF
  unfold S_X4_clear at hR
  have hl : lv_has ls 2 [(0, .ref a_o)] := hl
  refine lv_aload_n hx hb dX4_clear_0 rfl (lv_at hl 0 rfl) ?_
  refine lv_iconst (v := (0 : Int32)) hx hb dX4_clear_1 (by decide) ?_
  refine fput E hP hD hS 0 rfl fd_X4_9 fp_X4 (ty := .int) (v := .int (nI 0)) rfl rfl rfl rfl (Nat.le_of_ble_eq_true rfl) dX4_clear_2 (fun H locs hP hD hS => ?_)
  have hP : va_P D vwCl [(a_o, .inr (4, [.int (nI 0), .ref a_o_ahead, .ref a_o_ways])), (a_o_ahead, .inl (tI, 6, .inl o_ahead))] H := hP
  have hD : va_D A [(a_o, .inr (4, [.int (nI 0), .ref a_o_ahead, .ref a_o_ways])), (a_o_ahead, .inl (tI, 6, .inl o_ahead))] := hD
  refine lv_iconst (v := (0 : Int32)) hx hb dX4_clear_5 (by decide) ?_
  refine lv_istore_n (lv' := [(1, .int (0 : Int32)), (0, .ref a_o)]) hx hb dX4_clear_6 rfl hl (by decide) rfl (fun ls hl => ?_)
  have EX_7 : ∀ (o_ahead_h7 : Nat → Int32)  (H : Heap) (locs : List Loc) (ls : Array Slot), K_X4_clear_7 o_ahead_h7 = RES → va_P D vwCl [(a_o, .inr (4, [.int (nI 0), .ref a_o_ahead, .ref a_o_ways])), (a_o_ahead, .inl (tI, 6, .inl o_ahead_h7))] H → va_D A [(a_o, .inr (4, [.int (nI 0), .ref a_o_ahead, .ref a_o_ways])), (a_o_ahead, .inl (tI, 6, .inl o_ahead_h7))] → va_S A s.heap H locs → lv_has ls 2 [] → W p l e { frames := 0, cells := 0, slots := 0, locals := 0 } s m ([.ref a_o] : List Value).toArray below meth c H locs 0 0 Q (F0 m 26 ls []) := by
    intro o_ahead_h7 H locs ls hR hP hD hS hl
    unfold K_X4_clear_7 at hR
    subst hR
    exact (hF _ _ _ _ hP hS).2.2.2 rfl rfl dX4_clear_26
  have LP_7 : ∀ (n_7 k_7 : Nat) (o_ahead_h7 : Nat → Int32)  (H : Heap) (locs : List Loc) (ls : Array Slot), k_7 + n_7 = 6 → (fun a => K_X4_clear_7 a) (iter (fun k a => B_X4_clear_7 k a) n_7 k_7 o_ahead_h7) = RES → va_P D vwCl [(a_o, .inr (4, [.int (nI 0), .ref a_o_ahead, .ref a_o_ways])), (a_o_ahead, .inl (tI, 6, .inl o_ahead_h7))] H → va_D A [(a_o, .inr (4, [.int (nI 0), .ref a_o_ahead, .ref a_o_ways])), (a_o_ahead, .inl (tI, 6, .inl o_ahead_h7))] → va_S A s.heap H locs → lv_has ls 2 [(1, .int (nI k_7)), (0, .ref a_o)] → W p l e { frames := 0, cells := 0, slots := 0, locals := 0 } s m ([.ref a_o] : List Value).toArray below meth c H locs 0 0 Q (F0 m 7 ls []) := by
    intro n_7
    induction n_7 with
    | zero =>
      intro k_7 o_ahead_h7 H locs ls hn_7 hR hP hD hS hl
      refine lv_iload_n hx hb dX4_clear_7 rfl (lv_at hl 0 rfl) ?_
      refine lv_bipush (v := (6 : Int32)) hx hb dX4_clear_8 (by decide) ?_
      refine ni_ge (a := k_7) (b := 6) (tgt := 26) (by omega) (by omega) hx hb dX4_clear_10 (by decide) (fun g_7 => ?_) (fun g_7 => ?_)
      · exact EX_7 o_ahead_h7  _ _ _ hR hP hD hS (lv_sub hl [] rfl)
      · exfalso; omega
    | succ n_7 ih_7 =>
      intro k_7 o_ahead_h7 H locs ls hn_7 hR hP hD hS hl
      have hR : (fun a => K_X4_clear_7 a) (iter (fun k a => B_X4_clear_7 k a) n_7 (k_7 + 1) (B_X4_clear_7 k_7 o_ahead_h7)) = RES := hR
      generalize hB_7 : B_X4_clear_7 k_7 o_ahead_h7 = RB_7 at hR
      unfold B_X4_clear_7 at hB_7
      refine lv_iload_n hx hb dX4_clear_7 rfl (lv_at hl 0 rfl) ?_
      refine lv_bipush (v := (6 : Int32)) hx hb dX4_clear_8 (by decide) ?_
      refine ni_ge (a := k_7) (b := 6) (tgt := 26) (by omega) (by omega) hx hb dX4_clear_10 (by decide) (fun g_7 => ?_) (fun g_7 => ?_)
      · exfalso; omega
      · refine lv_aload_n hx hb dX4_clear_13 rfl (lv_at hl 1 rfl) ?_
        refine fget E hP 0 rfl fd_X4_15 (v := .ref a_o_ahead) rfl dX4_clear_14 ?_
        refine lv_iload_n hx hb dX4_clear_17 rfl (lv_at hl 0 rfl) ?_
        refine lv_iconst (v := (0 : Int32)) hx hb dX4_clear_18 (by decide) ?_
        refine ist E hP hD hS 1 rfl (k := k_7) (by omega) (by decide) dX4_clear_19 (fun H locs hP hD hS => ?_)
        have hP : va_P D vwCl [(a_o, .inr (4, [.int (nI 0), .ref a_o_ahead, .ref a_o_ways])), (a_o_ahead, .inl (tI, 6, .inl (upd o_ahead_h7 k_7 (0 : Int32))))] H := hP
        have hD : va_D A [(a_o, .inr (4, [.int (nI 0), .ref a_o_ahead, .ref a_o_ways])), (a_o_ahead, .inl (tI, 6, .inl (upd o_ahead_h7 k_7 (0 : Int32))))] := hD
        refine lv_iinc (v := (nI (k_7 + 1))) (lv' := [(1, .int (nI (k_7 + 1))), (0, .ref a_o)]) hx hb dX4_clear_20 hl (k := 0) rfl (nI_i1 k_7) (by decide) rfl (fun ls hl => ?_)
        refine lv_goto (tgt := 7) hx hb dX4_clear_23 (by decide) ?_
        subst hB_7
        exact ih_7 (k_7 + 1) (upd o_ahead_h7 k_7 (0 : Int32))  _ _ _ (by omega) hR hP hD hS (lv_sub hl [0, 1] rfl)
  exact LP_7 6 0 o_ahead  _ _ _ (by omega) hR hP hD hS (lv_sub hl [0, 1] rfl)

def K_X4_countOrders_19 (x1 : Nat) (o_ways_h19 : Nat → Int32) : Int32 × (Nat → Int32) := ((o_ways_h19 ((2 ^ x1) - 1)), o_ways_h19)
def K_X4_countOrders_34  (o_ways_h34 : Nat → Int32) : (Nat → Int32) := o_ways_h34
def B_X4_countOrders_34 (k_19 : Nat) (o_ahead : Nat → Int32) (k_34 : Nat) (o_ways_h34 : Nat → Int32) : (Nat → Int32) := (if (wo k_19 k_34) = k_19 then o_ways_h34 else (if ((o_ahead k_34) &&& ((nI (wo k_19 k_34)) ^^^ (-1 : Int32))) = 0 then (upd o_ways_h34 k_19 ((o_ways_h34 k_19) + (o_ways_h34 (wo k_19 k_34)))) else o_ways_h34))
def B_X4_countOrders_19 (o_ahead : Nat → Int32) (k_19 : Nat) (o_ways_h19 : Nat → Int32) : (Nat → Int32) := ((fun a => K_X4_countOrders_34 a) (iter (fun k a => B_X4_countOrders_34 k_19 o_ahead k a) 6 0 (upd o_ways_h19 k_19 (0 : Int32))))
def S_X4_countOrders (x1 : Nat) (o_ways : Nat → Int32) (o_ahead : Nat → Int32) : Int32 × (Nat → Int32) := ((fun a => K_X4_countOrders_19 x1 a) (iter (fun k a => B_X4_countOrders_19 o_ahead k a) ((2 ^ x1) - 1) 1 (upd o_ways 0 (1 : Int32))))
set_option maxHeartbeats 4000000 in
set_option maxRecDepth 100000 in
theorem c_X4_countOrders (l : Launch) (D : va_G) (tB tI tZ : ClassId) (a_o a_o_ahead a_o_ways : Nat) (o_count : Nat) (o_ways : Nat → Int32) (o_ahead : Nat → Int32) (x1 : Nat) (hmen : x1 ≤ 6) : CT l D (tyL tB tI tZ) yX4_countOrders (.code yX4_countOrders cX4_countOrders 6 (some .int)) 1 40 [.ref a_o, .int (nI x1)] [(a_o, .inr (4, [.int (nI o_count), .ref a_o_ahead, .ref a_o_ways])), (a_o_ways, .inl (tI, 64, .inl o_ways)), (a_o_ahead, .inl (tI, 6, .inl o_ahead))] (fun u : Int32 × (Nat → Int32) => some (.int (u.1))) (fun u : Int32 × (Nat → Int32) => [(a_o, .inr (4, [.int (nI o_count), .ref a_o_ahead, .ref a_o_ways])), (a_o_ways, .inl (tI, 64, .inl (u.2))), (a_o_ahead, .inl (tI, 6, .inl o_ahead))]) (S_X4_countOrders x1 o_ways o_ahead) := by
  refine CT.intro (k := 0) (Nat.le_of_ble_eq_true rfl) (by decide) ?_
  intro p e s m below meth c Q A ls E hA hP hD hS hl hF
  obtain ⟨⟨hx, hb, hml, hown, hts⟩, hK⟩ := id E
  generalize hR : S_X4_countOrders x1 o_ways o_ahead = RES at hF
  unfold S_X4_countOrders at hR
  have hl : lv_has ls 6 [(0, .ref a_o), (1, .int (nI x1))] := hl
  have hp2 : 2 ^ x1 ≤ 64 := p2_le6 hmen
  have hp1 : 1 ≤ 2 ^ x1 := p2_pos x1
  refine lv_iload_n hx hb dX4_countOrders_0 rfl (lv_at hl 1 rfl) ?_
  refine lv_bipush (v := (6 : Int32)) hx hb dX4_countOrders_1 (by decide) ?_
  refine va_mmin hx hb (hml.trans hl.1.symm) hown (hts _ wm_X4_26) (hts _ wst_J_Math_min) (hts _ wn_Math) (hts _ wc_J_Math_min) (Nat.le_of_ble_eq_true rfl) (by decide) (Nat.zero_le _) (Nat.zero_le _) dX4_countOrders_3 ?_
  refine lv_is (mm6 hmen) ?_
  refine kcSN E hl.1 (c_X6_bit l D tB tI tZ (nI x1) ) cs_X6_bit 12 rfl hP hD hS hA [] rfl rfl rfl (ws2 := [(a_o, .inr (4, [.int (nI o_count), .ref a_o_ahead, .ref a_o_ways])), (a_o_ways, .inl (tI, 64, .inl o_ways)), (a_o_ahead, .inl (tI, 6, .inl o_ahead))]) rfl rfl (As := [.int (nI x1)]) (rest := []) rfl rfl (Nat.le_of_ble_eq_true rfl) ⟨Nat.le_of_ble_eq_true rfl, Nat.le_of_ble_eq_true rfl⟩ ⟨Nat.zero_le _, Nat.zero_le _⟩ dX4_countOrders_6 (fun H locs hP hD hS => ?_)
  refine lv_is (bit_nat (by omega)) ?_
  refine lv_istore_n (lv' := [(2, .int (nI (2 ^ x1))), (0, .ref a_o), (1, .int (nI x1))]) hx hb dX4_countOrders_9 rfl hl (by decide) rfl (fun ls hl => ?_)
  refine lv_aload_n hx hb dX4_countOrders_10 rfl (lv_at hl 1 rfl) ?_
  refine fget E hP 0 rfl fd_X4_19 (v := .ref a_o_ways) rfl dX4_countOrders_11 ?_
  refine lv_iconst (v := (0 : Int32)) hx hb dX4_countOrders_14 (by decide) ?_
  refine lv_iconst (v := (1 : Int32)) hx hb dX4_countOrders_15 (by decide) ?_
  refine ist E hP hD hS 1 rfl (k := 0) (by omega) (by decide) dX4_countOrders_16 (fun H locs hP hD hS => ?_)
  have hP : va_P D vwCl [(a_o, .inr (4, [.int (nI o_count), .ref a_o_ahead, .ref a_o_ways])), (a_o_ways, .inl (tI, 64, .inl (upd o_ways 0 (1 : Int32)))), (a_o_ahead, .inl (tI, 6, .inl o_ahead))] H := hP
  have hD : va_D A [(a_o, .inr (4, [.int (nI o_count), .ref a_o_ahead, .ref a_o_ways])), (a_o_ways, .inl (tI, 64, .inl (upd o_ways 0 (1 : Int32)))), (a_o_ahead, .inl (tI, 6, .inl o_ahead))] := hD
  refine lv_iconst (v := (1 : Int32)) hx hb dX4_countOrders_17 (by decide) ?_
  refine lv_istore_n (lv' := [(3, .int (1 : Int32)), (2, .int (nI (2 ^ x1))), (0, .ref a_o), (1, .int (nI x1))]) hx hb dX4_countOrders_18 rfl hl (by decide) rfl (fun ls hl => ?_)
  have EX_19 : ∀ (o_ways_h19 : Nat → Int32)  (H : Heap) (locs : List Loc) (ls : Array Slot), K_X4_countOrders_19 x1 o_ways_h19 = RES → va_P D vwCl [(a_o, .inr (4, [.int (nI o_count), .ref a_o_ahead, .ref a_o_ways])), (a_o_ways, .inl (tI, 64, .inl o_ways_h19)), (a_o_ahead, .inl (tI, 6, .inl o_ahead))] H → va_D A [(a_o, .inr (4, [.int (nI o_count), .ref a_o_ahead, .ref a_o_ways])), (a_o_ways, .inl (tI, 64, .inl o_ways_h19)), (a_o_ahead, .inl (tI, 6, .inl o_ahead))] → va_S A s.heap H locs → lv_has ls 6 [(2, .int (nI (2 ^ x1))), (0, .ref a_o)] → W p l e { frames := 1, cells := 0, slots := 0, locals := 40 } s m ([.ref a_o, .int (nI x1)] : List Value).toArray below meth c H locs 0 0 Q (F0 m 101 ls []) := by
    intro o_ways_h19 H locs ls hR hP hD hS hl
    unfold K_X4_countOrders_19 at hR
    refine lv_aload_n hx hb dX4_countOrders_101 rfl (lv_at hl 1 rfl) ?_
    refine fget E hP 0 rfl fd_X4_19 (v := .ref a_o_ways) rfl dX4_countOrders_102 ?_
    refine lv_iload_n hx hb dX4_countOrders_105 rfl (lv_at hl 0 rfl) ?_
    refine lv_iconst (v := (1 : Int32)) hx hb dX4_countOrders_106 (by decide) ?_
    refine lv_isub hx hb dX4_countOrders_107 ?_
    refine lv_is (pk_sub (a := (2 ^ x1)) (b := 1) (by omega)) ?_
    refine ild E hP 1 rfl (k := ((2 ^ x1) - 1)) (by omega) (by decide) dX4_countOrders_108 ?_
    subst hR
    exact (hF _ _ _ _ hP hS).1 _ rfl ⟨.int, rfl, rfl⟩ dX4_countOrders_109
  have LP_19 : ∀ (n_19 k_19 : Nat) (o_ways_h19 : Nat → Int32)  (H : Heap) (locs : List Loc) (ls : Array Slot), k_19 + n_19 = (2 ^ x1) → (fun a => K_X4_countOrders_19 x1 a) (iter (fun k a => B_X4_countOrders_19 o_ahead k a) n_19 k_19 o_ways_h19) = RES → va_P D vwCl [(a_o, .inr (4, [.int (nI o_count), .ref a_o_ahead, .ref a_o_ways])), (a_o_ways, .inl (tI, 64, .inl o_ways_h19)), (a_o_ahead, .inl (tI, 6, .inl o_ahead))] H → va_D A [(a_o, .inr (4, [.int (nI o_count), .ref a_o_ahead, .ref a_o_ways])), (a_o_ways, .inl (tI, 64, .inl o_ways_h19)), (a_o_ahead, .inl (tI, 6, .inl o_ahead))] → va_S A s.heap H locs → lv_has ls 6 [(3, .int (nI k_19)), (2, .int (nI (2 ^ x1))), (0, .ref a_o)] → W p l e { frames := 1, cells := 0, slots := 0, locals := 40 } s m ([.ref a_o, .int (nI x1)] : List Value).toArray below meth c H locs 0 0 Q (F0 m 19 ls []) := by
    intro n_19
    induction n_19 with
    | zero =>
      intro k_19 o_ways_h19 H locs ls hn_19 hR hP hD hS hl
      refine lv_iload_n hx hb dX4_countOrders_19 rfl (lv_at hl 0 rfl) ?_
      refine lv_iload_n hx hb dX4_countOrders_20 rfl (lv_at hl 1 rfl) ?_
      refine ni_ge (a := k_19) (b := (2 ^ x1)) (tgt := 101) (by omega) (by omega) hx hb dX4_countOrders_21 (by decide) (fun g_19 => ?_) (fun g_19 => ?_)
      · exact EX_19 o_ways_h19  _ _ _ hR hP hD hS (lv_sub hl [1, 2] rfl)
      · exfalso; omega
    | succ n_19 ih_19 =>
      intro k_19 o_ways_h19 H locs ls hn_19 hR hP hD hS hl
      have hR : (fun a => K_X4_countOrders_19 x1 a) (iter (fun k a => B_X4_countOrders_19 o_ahead k a) n_19 (k_19 + 1) (B_X4_countOrders_19 o_ahead k_19 o_ways_h19)) = RES := hR
      generalize hB_19 : B_X4_countOrders_19 o_ahead k_19 o_ways_h19 = RB_19 at hR
      unfold B_X4_countOrders_19 at hB_19
      refine lv_iload_n hx hb dX4_countOrders_19 rfl (lv_at hl 0 rfl) ?_
      refine lv_iload_n hx hb dX4_countOrders_20 rfl (lv_at hl 1 rfl) ?_
      refine ni_ge (a := k_19) (b := (2 ^ x1)) (tgt := 101) (by omega) (by omega) hx hb dX4_countOrders_21 (by decide) (fun g_19 => ?_) (fun g_19 => ?_)
      · exfalso; omega
      · refine lv_aload_n hx hb dX4_countOrders_24 rfl (lv_at hl 2 rfl) ?_
        refine fget E hP 0 rfl fd_X4_19 (v := .ref a_o_ways) rfl dX4_countOrders_25 ?_
        refine lv_iload_n hx hb dX4_countOrders_28 rfl (lv_at hl 0 rfl) ?_
        refine lv_iconst (v := (0 : Int32)) hx hb dX4_countOrders_29 (by decide) ?_
        refine ist E hP hD hS 1 rfl (k := k_19) (by omega) (by decide) dX4_countOrders_30 (fun H locs hP hD hS => ?_)
        have hP : va_P D vwCl [(a_o, .inr (4, [.int (nI o_count), .ref a_o_ahead, .ref a_o_ways])), (a_o_ways, .inl (tI, 64, .inl (upd o_ways_h19 k_19 (0 : Int32)))), (a_o_ahead, .inl (tI, 6, .inl o_ahead))] H := hP
        have hD : va_D A [(a_o, .inr (4, [.int (nI o_count), .ref a_o_ahead, .ref a_o_ways])), (a_o_ways, .inl (tI, 64, .inl (upd o_ways_h19 k_19 (0 : Int32)))), (a_o_ahead, .inl (tI, 6, .inl o_ahead))] := hD
        refine lv_iconst (v := (0 : Int32)) hx hb dX4_countOrders_31 (by decide) ?_
        refine lv_istore (lv' := [(4, .int (0 : Int32)), (3, .int (nI k_19)), (2, .int (nI (2 ^ x1))), (0, .ref a_o)]) hx hb dX4_countOrders_32 hl (by decide) rfl (fun ls hl => ?_)
        have EX_34 : ∀ (o_ways_h34 : Nat → Int32)  (H : Heap) (locs : List Loc) (ls : Array Slot), K_X4_countOrders_34 o_ways_h34 = RB_19 → va_P D vwCl [(a_o, .inr (4, [.int (nI o_count), .ref a_o_ahead, .ref a_o_ways])), (a_o_ways, .inl (tI, 64, .inl o_ways_h34)), (a_o_ahead, .inl (tI, 6, .inl o_ahead))] H → va_D A [(a_o, .inr (4, [.int (nI o_count), .ref a_o_ahead, .ref a_o_ways])), (a_o_ways, .inl (tI, 64, .inl o_ways_h34)), (a_o_ahead, .inl (tI, 6, .inl o_ahead))] → va_S A s.heap H locs → lv_has ls 6 [(3, .int (nI k_19)), (2, .int (nI (2 ^ x1))), (0, .ref a_o)] → W p l e { frames := 1, cells := 0, slots := 0, locals := 40 } s m ([.ref a_o, .int (nI x1)] : List Value).toArray below meth c H locs 0 0 Q (F0 m 95 ls []) := by
          intro o_ways_h34 H locs ls hB_19 hP hD hS hl
          unfold K_X4_countOrders_34 at hB_19
          refine lv_iinc (v := (nI (k_19 + 1))) (lv' := [(3, .int (nI (k_19 + 1))), (2, .int (nI (2 ^ x1))), (0, .ref a_o)]) hx hb dX4_countOrders_95 hl (k := 0) rfl (nI_i1 k_19) (by decide) rfl (fun ls hl => ?_)
          refine lv_goto (tgt := 19) hx hb dX4_countOrders_98 (by decide) ?_
          subst hB_19
          exact ih_19 (k_19 + 1) o_ways_h34  _ _ _ (by omega) hR hP hD hS (lv_sub hl [0, 1, 2] rfl)
        have LP_34 : ∀ (n_34 k_34 : Nat) (o_ways_h34 : Nat → Int32)  (H : Heap) (locs : List Loc) (ls : Array Slot), k_34 + n_34 = 6 → (fun a => K_X4_countOrders_34 a) (iter (fun k a => B_X4_countOrders_34 k_19 o_ahead k a) n_34 k_34 o_ways_h34) = RB_19 → va_P D vwCl [(a_o, .inr (4, [.int (nI o_count), .ref a_o_ahead, .ref a_o_ways])), (a_o_ways, .inl (tI, 64, .inl o_ways_h34)), (a_o_ahead, .inl (tI, 6, .inl o_ahead))] H → va_D A [(a_o, .inr (4, [.int (nI o_count), .ref a_o_ahead, .ref a_o_ways])), (a_o_ways, .inl (tI, 64, .inl o_ways_h34)), (a_o_ahead, .inl (tI, 6, .inl o_ahead))] → va_S A s.heap H locs → lv_has ls 6 [(4, .int (nI k_34)), (3, .int (nI k_19)), (2, .int (nI (2 ^ x1))), (0, .ref a_o)] → W p l e { frames := 1, cells := 0, slots := 0, locals := 40 } s m ([.ref a_o, .int (nI x1)] : List Value).toArray below meth c H locs 0 0 Q (F0 m 34 ls []) := by
          intro n_34
          induction n_34 with
          | zero =>
            intro k_34 o_ways_h34 H locs ls hn_34 hB_19 hP hD hS hl
            refine lv_iload hx hb dX4_countOrders_34 (lv_at hl 0 rfl) ?_
            refine lv_bipush (v := (6 : Int32)) hx hb dX4_countOrders_36 (by decide) ?_
            refine ni_ge (a := k_34) (b := 6) (tgt := 95) (by omega) (by omega) hx hb dX4_countOrders_38 (by decide) (fun g_34 => ?_) (fun g_34 => ?_)
            · exact EX_34 o_ways_h34  _ _ _ hB_19 hP hD hS (lv_sub hl [1, 2, 3] rfl)
            · exfalso; omega
          | succ n_34 ih_34 =>
            intro k_34 o_ways_h34 H locs ls hn_34 hB_19 hP hD hS hl
            have hB_19 : (fun a => K_X4_countOrders_34 a) (iter (fun k a => B_X4_countOrders_34 k_19 o_ahead k a) n_34 (k_34 + 1) (B_X4_countOrders_34 k_19 o_ahead k_34 o_ways_h34)) = RB_19 := hB_19
            generalize hB_34 : B_X4_countOrders_34 k_19 o_ahead k_34 o_ways_h34 = RB_34 at hB_19
            unfold B_X4_countOrders_34 at hB_34
            refine lv_iload hx hb dX4_countOrders_34 (lv_at hl 0 rfl) ?_
            refine lv_bipush (v := (6 : Int32)) hx hb dX4_countOrders_36 (by decide) ?_
            refine ni_ge (a := k_34) (b := 6) (tgt := 95) (by omega) (by omega) hx hb dX4_countOrders_38 (by decide) (fun g_34 => ?_) (fun g_34 => ?_)
            · exfalso; omega
            · have hw := wo_le k_19 k_34
              refine lv_iload_n hx hb dX4_countOrders_41 rfl (lv_at hl 1 rfl) ?_
              refine lv_iload hx hb dX4_countOrders_42 (lv_at hl 0 rfl) ?_
              refine kcSN E hl.1 (c_X6_bit l D tB tI tZ (nI k_34) ) cs_X6_bit 12 rfl hP hD hS hA [] rfl rfl rfl (ws2 := [(a_o, .inr (4, [.int (nI o_count), .ref a_o_ahead, .ref a_o_ways])), (a_o_ways, .inl (tI, 64, .inl o_ways_h34)), (a_o_ahead, .inl (tI, 6, .inl o_ahead))]) rfl rfl (As := [.int (nI k_34)]) (rest := [.int (nI k_19)]) rfl rfl (Nat.le_of_ble_eq_true rfl) ⟨Nat.le_of_ble_eq_true rfl, Nat.le_of_ble_eq_true rfl⟩ ⟨Nat.zero_le _, Nat.zero_le _⟩ dX4_countOrders_44 (fun H locs hP hD hS => ?_)
              refine lv_iconst (v := (-1 : Int32)) hx hb dX4_countOrders_47 (by decide) ?_
              refine lv_ixor hx hb dX4_countOrders_48 ?_
              refine lv_iand hx hb dX4_countOrders_49 ?_
              refine lv_is (wo_eq (by omega) (by omega)) ?_
              refine lv_istore (lv' := [(5, .int (nI (wo k_19 k_34))), (4, .int (nI k_34)), (3, .int (nI k_19)), (2, .int (nI (2 ^ x1))), (0, .ref a_o)]) hx hb dX4_countOrders_50 hl (by decide) rfl (fun ls hl => ?_)
              refine lv_iload hx hb dX4_countOrders_52 (lv_at hl 0 rfl) ?_
              refine lv_iload_n hx hb dX4_countOrders_54 rfl (lv_at hl 2 rfl) ?_
              refine ni_eq (a := (wo k_19 k_34)) (b := k_19) (tgt := 89) (by omega) (by omega) hx hb dX4_countOrders_55 (by decide) (fun c_3 => ?_) (fun c_3 => ?_)
              · rw [if_pos c_3] at hB_34
                refine lv_iinc (v := (nI (k_34 + 1))) (lv' := [(4, .int (nI (k_34 + 1))), (5, .int (nI (wo k_19 k_34))), (3, .int (nI k_19)), (2, .int (nI (2 ^ x1))), (0, .ref a_o)]) hx hb dX4_countOrders_89 hl (k := 1) rfl (nI_i1 k_34) (by decide) rfl (fun ls hl => ?_)
                refine lv_goto (tgt := 34) hx hb dX4_countOrders_92 (by decide) ?_
                subst hB_34
                exact ih_34 (k_34 + 1) o_ways_h34  _ _ _ (by omega) hB_19 hP hD hS (lv_sub hl [0, 2, 3, 4] rfl)
              · rw [if_neg c_3] at hB_34
                refine lv_aload_n hx hb dX4_countOrders_58 rfl (lv_at hl 4 rfl) ?_
                refine fget E hP 0 rfl fd_X4_15 (v := .ref a_o_ahead) rfl dX4_countOrders_59 ?_
                refine lv_iload hx hb dX4_countOrders_62 (lv_at hl 1 rfl) ?_
                refine ild E hP 2 rfl (k := k_34) (by omega) (by decide) dX4_countOrders_64 ?_
                refine lv_iload hx hb dX4_countOrders_65 (lv_at hl 0 rfl) ?_
                refine lv_iconst (v := (-1 : Int32)) hx hb dX4_countOrders_67 (by decide) ?_
                refine lv_ixor hx hb dX4_countOrders_68 ?_
                refine lv_iand hx hb dX4_countOrders_69 ?_
                refine lv_if_ne (tgt := 89) hx hb dX4_countOrders_70 (by decide) (fun c_4 => ?_) (fun c_4 => ?_)
                · rw [if_neg c_4] at hB_34
                  refine lv_iinc (v := (nI (k_34 + 1))) (lv' := [(4, .int (nI (k_34 + 1))), (5, .int (nI (wo k_19 k_34))), (3, .int (nI k_19)), (2, .int (nI (2 ^ x1))), (0, .ref a_o)]) hx hb dX4_countOrders_89 hl (k := 1) rfl (nI_i1 k_34) (by decide) rfl (fun ls hl => ?_)
                  refine lv_goto (tgt := 34) hx hb dX4_countOrders_92 (by decide) ?_
                  subst hB_34
                  exact ih_34 (k_34 + 1) o_ways_h34  _ _ _ (by omega) hB_19 hP hD hS (lv_sub hl [0, 2, 3, 4] rfl)
                · rw [if_pos c_4] at hB_34
                  refine lv_aload_n hx hb dX4_countOrders_73 rfl (lv_at hl 4 rfl) ?_
                  refine fget E hP 0 rfl fd_X4_19 (v := .ref a_o_ways) rfl dX4_countOrders_74 ?_
                  refine lv_iload_n hx hb dX4_countOrders_77 rfl (lv_at hl 2 rfl) ?_
                  refine lv_dup2_11 hx hb dX4_countOrders_78 rfl rfl ?_
                  refine ild E hP 1 rfl (k := k_19) (by omega) (by decide) dX4_countOrders_79 ?_
                  refine lv_aload_n hx hb dX4_countOrders_80 rfl (lv_at hl 4 rfl) ?_
                  refine fget E hP 0 rfl fd_X4_19 (v := .ref a_o_ways) rfl dX4_countOrders_81 ?_
                  refine lv_iload hx hb dX4_countOrders_84 (lv_at hl 0 rfl) ?_
                  refine ild E hP 1 rfl (k := (wo k_19 k_34)) (by omega) (by decide) dX4_countOrders_86 ?_
                  refine lv_iadd hx hb dX4_countOrders_87 ?_
                  refine ist E hP hD hS 1 rfl (k := k_19) (by omega) (by decide) dX4_countOrders_88 (fun H locs hP hD hS => ?_)
                  have hP : va_P D vwCl [(a_o, .inr (4, [.int (nI o_count), .ref a_o_ahead, .ref a_o_ways])), (a_o_ways, .inl (tI, 64, .inl (upd o_ways_h34 k_19 ((o_ways_h34 k_19) + (o_ways_h34 (wo k_19 k_34)))))), (a_o_ahead, .inl (tI, 6, .inl o_ahead))] H := hP
                  have hD : va_D A [(a_o, .inr (4, [.int (nI o_count), .ref a_o_ahead, .ref a_o_ways])), (a_o_ways, .inl (tI, 64, .inl (upd o_ways_h34 k_19 ((o_ways_h34 k_19) + (o_ways_h34 (wo k_19 k_34)))))), (a_o_ahead, .inl (tI, 6, .inl o_ahead))] := hD
                  refine lv_iinc (v := (nI (k_34 + 1))) (lv' := [(4, .int (nI (k_34 + 1))), (5, .int (nI (wo k_19 k_34))), (3, .int (nI k_19)), (2, .int (nI (2 ^ x1))), (0, .ref a_o)]) hx hb dX4_countOrders_89 hl (k := 1) rfl (nI_i1 k_34) (by decide) rfl (fun ls hl => ?_)
                  refine lv_goto (tgt := 34) hx hb dX4_countOrders_92 (by decide) ?_
                  subst hB_34
                  exact ih_34 (k_34 + 1) (upd o_ways_h34 k_19 ((o_ways_h34 k_19) + (o_ways_h34 (wo k_19 k_34))))  _ _ _ (by omega) hB_19 hP hD hS (lv_sub hl [0, 2, 3, 4] rfl)
        exact LP_34 6 0 (upd o_ways_h19 k_19 (0 : Int32))  _ _ _ (by omega) hB_19 hP hD hS (lv_sub hl [0, 1, 2, 3] rfl)
  exact LP_19 ((2 ^ x1) - 1) 1 (upd o_ways 0 (1 : Int32))  _ _ _ (by omega) hR hP hD hS (lv_sub hl [0, 1, 2] rfl)

def K_X4_alwaysBehind_33 (x1 : Nat) (o_ahead : Nat → Int32) (v3_33 : Int32) (o_ahead_h33 : Nat → Int32) (o_ways_h33 : Nat → Int32) : Int32 × (Nat → Int32) × (Nat → Int32) := (v3_33, o_ways_h33, (upd o_ahead_h33 x1 (o_ahead x1)))
def K_X4_alwaysBehind_61 (x1 : Nat) (o_ahead : Nat → Int32) (k_33 : Nat) (v3_33 : Int32) (o_ahead_h33 : Nat → Int32) (r61_r : Int32) (r61_o_ways : Nat → Int32) : Int32 × (Nat → Int32) × (Nat → Int32) := (if r61_r = 0 then ((v3_33 ||| (S_X6_bit (nI k_33))), (upd o_ahead_h33 x1 ((o_ahead x1) ||| (S_X6_bit (nI k_33)))), r61_o_ways) else (v3_33, (upd o_ahead_h33 x1 ((o_ahead x1) ||| (S_X6_bit (nI k_33)))), r61_o_ways))
def B_X4_alwaysBehind_33 (x1 : Nat) (x2 : Nat) (o_ahead : Nat → Int32) (k_33 : Nat) (v3_33 : Int32) (o_ahead_h33 : Nat → Int32) (o_ways_h33 : Nat → Int32) : Int32 × (Nat → Int32) × (Nat → Int32) := (if k_33 = x1 then (v3_33, (upd o_ahead_h33 x1 ((o_ahead x1) ||| (S_X6_bit (nI k_33)))), o_ways_h33) else ((fun u => K_X4_alwaysBehind_61 x1 o_ahead k_33 v3_33 o_ahead_h33 u.1 u.2) (S_X4_countOrders x2 o_ways_h33 (upd o_ahead_h33 x1 ((o_ahead x1) ||| (S_X6_bit (nI k_33)))))))
def K_X4_alwaysBehind_12 (x1 : Nat) (x2 : Nat) (o_ahead : Nat → Int32) (r12_r : Int32) (r12_o_ways : Nat → Int32) : Int32 × (Nat → Int32) × (Nat → Int32) := (if r12_r = 0 then ((0 : Int32), r12_o_ways, o_ahead) else ((fun a => K_X4_alwaysBehind_33 x1 o_ahead a.1 a.2.1 a.2.2) (iter (fun k a => B_X4_alwaysBehind_33 x1 x2 o_ahead k a.1 a.2.1 a.2.2) x2 0 ((0 : Int32), o_ahead, r12_o_ways))))
def S_X4_alwaysBehind (x1 : Nat) (x2 : Nat) (o_ways : Nat → Int32) (o_ahead : Nat → Int32) : Int32 × (Nat → Int32) × (Nat → Int32) := (if 6 ≤ x1 then ((0 : Int32), o_ways, o_ahead) else ((fun u => K_X4_alwaysBehind_12 x1 x2 o_ahead u.1 u.2) (S_X4_countOrders x2 o_ways o_ahead)))
set_option maxHeartbeats 4000000 in
set_option maxRecDepth 100000 in
theorem c_X4_alwaysBehind (l : Launch) (D : va_G) (tB tI tZ : ClassId) (a_o a_o_ahead a_o_ways : Nat) (o_count : Nat) (o_ways : Nat → Int32) (o_ahead : Nat → Int32) (x1 : Nat) (x2 : Nat) (h1 : x1 < 6) (hmen : x2 ≤ 6) : CT l D (tyL tB tI tZ) yX4_alwaysBehind (.code yX4_alwaysBehind cX4_alwaysBehind 6 (some .int)) 2 65 [.ref a_o, .int (nI x1), .int (nI x2)] [(a_o, .inr (4, [.int (nI o_count), .ref a_o_ahead, .ref a_o_ways])), (a_o_ways, .inl (tI, 64, .inl o_ways)), (a_o_ahead, .inl (tI, 6, .inl o_ahead))] (fun u : Int32 × (Nat → Int32) × (Nat → Int32) => some (.int (u.1))) (fun u : Int32 × (Nat → Int32) × (Nat → Int32) => [(a_o, .inr (4, [.int (nI o_count), .ref a_o_ahead, .ref a_o_ways])), (a_o_ways, .inl (tI, 64, .inl (u.2.1))), (a_o_ahead, .inl (tI, 6, .inl (u.2.2)))]) (S_X4_alwaysBehind x1 x2 o_ways o_ahead) := by
  refine CT.intro (k := 0) (Nat.le_of_ble_eq_true rfl) (by decide) ?_
  intro p e s m below meth c Q A ls E hA hP hD hS hl hF
  obtain ⟨⟨hx, hb, hml, hown, hts⟩, hK⟩ := id E
  generalize hR : S_X4_alwaysBehind x1 x2 o_ways o_ahead = RES at hF
  unfold S_X4_alwaysBehind at hR
  have hl : lv_has ls 6 [(0, .ref a_o), (1, .int (nI x1)), (2, .int (nI x2))] := hl
  refine lv_iload_n hx hb dX4_alwaysBehind_0 rfl (lv_at hl 1 rfl) ?_
  refine nz_lt (a := x1) (tgt := 18) (by omega) hx hb dX4_alwaysBehind_1 (by decide) ?_
  refine lv_iload_n hx hb dX4_alwaysBehind_4 rfl (lv_at hl 1 rfl) ?_
  refine lv_bipush (v := (6 : Int32)) hx hb dX4_alwaysBehind_5 (by decide) ?_
  refine ni_ge (a := x1) (b := 6) (tgt := 18) (by omega) (by omega) hx hb dX4_alwaysBehind_7 (by decide) (fun c_2 => ?_) (fun c_2 => ?_)
  · rw [if_pos c_2] at hR
    refine lv_iconst (v := (0 : Int32)) hx hb dX4_alwaysBehind_18 (by decide) ?_
    subst hR
    exact (hF _ _ _ _ hP hS).1 _ rfl ⟨.int, rfl, rfl⟩ dX4_alwaysBehind_19
  · rw [if_neg c_2] at hR
    refine lv_aload_n hx hb dX4_alwaysBehind_10 rfl (lv_at hl 0 rfl) ?_
    refine lv_iload_n hx hb dX4_alwaysBehind_11 rfl (lv_at hl 2 rfl) ?_
    have hC_12 := (c_X4_countOrders l D tB tI tZ a_o a_o_ahead a_o_ways o_count o_ways o_ahead x2 (show x2 ≤ 6 by first | assumption | omega | exact NN.none | exact NN.nat (by omega) (by omega) | exact NN.up (by assumption) (by omega)))
    generalize hu_12 : (S_X4_countOrders x2 o_ways o_ahead) = u_12 at hC_12 hR
    obtain ⟨r12_r, r12_o_ways⟩ := u_12
    refine kcV E hl.1 hC_12 cv_X4_countOrders wm_X4_32 hP hD hS hA [0, 1, 2] rfl rfl rfl (ws2 := [(a_o, .inr (4, [.int (nI o_count), .ref a_o_ahead, .ref a_o_ways])), (a_o_ways, .inl (tI, 64, .inl r12_o_ways)), (a_o_ahead, .inl (tI, 6, .inl o_ahead))]) rfl rfl (b := a_o) (As := [.int (nI x2)]) (rest := []) 0 4 rfl rfl rfl rfl (Nat.le_of_ble_eq_true rfl) ⟨Nat.le_of_ble_eq_true rfl, Nat.le_of_ble_eq_true rfl⟩ ⟨Nat.zero_le _, Nat.zero_le _⟩ dX4_alwaysBehind_12 (fun H locs hP hD hS => ?_)
    have hP : va_P D vwCl [(a_o, .inr (4, [.int (nI o_count), .ref a_o_ahead, .ref a_o_ways])), (a_o_ways, .inl (tI, 64, .inl r12_o_ways)), (a_o_ahead, .inl (tI, 6, .inl o_ahead))] H := hP
    have hD : va_D A [(a_o, .inr (4, [.int (nI o_count), .ref a_o_ahead, .ref a_o_ways])), (a_o_ways, .inl (tI, 64, .inl r12_o_ways)), (a_o_ahead, .inl (tI, 6, .inl o_ahead))] := hD
    have hR : K_X4_alwaysBehind_12 x1 x2 o_ahead r12_r r12_o_ways = RES := hR
    unfold K_X4_alwaysBehind_12 at hR
    refine lv_if_ne (tgt := 20) hx hb dX4_alwaysBehind_15 (by decide) (fun c_3 => ?_) (fun c_3 => ?_)
    · rw [if_neg c_3] at hR
      refine lv_iconst (v := (0 : Int32)) hx hb dX4_alwaysBehind_20 (by decide) ?_
      refine lv_istore_n (lv' := [(3, .int (0 : Int32)), (0, .ref a_o), (1, .int (nI x1)), (2, .int (nI x2))]) hx hb dX4_alwaysBehind_21 rfl hl (by decide) rfl (fun ls hl => ?_)
      refine lv_aload_n hx hb dX4_alwaysBehind_22 rfl (lv_at hl 1 rfl) ?_
      refine fget E hP 0 rfl fd_X4_15 (v := .ref a_o_ahead) rfl dX4_alwaysBehind_23 ?_
      refine lv_iload_n hx hb dX4_alwaysBehind_26 rfl (lv_at hl 2 rfl) ?_
      refine ild E hP 2 rfl (k := x1) (by omega) (by decide) dX4_alwaysBehind_27 ?_
      refine lv_istore (lv' := [(4, .int (o_ahead x1)), (3, .int (0 : Int32)), (0, .ref a_o), (1, .int (nI x1)), (2, .int (nI x2))]) hx hb dX4_alwaysBehind_28 hl (by decide) rfl (fun ls hl => ?_)
      refine lv_iconst (v := (0 : Int32)) hx hb dX4_alwaysBehind_30 (by decide) ?_
      refine lv_istore (lv' := [(5, .int (0 : Int32)), (4, .int (o_ahead x1)), (3, .int (0 : Int32)), (0, .ref a_o), (1, .int (nI x1)), (2, .int (nI x2))]) hx hb dX4_alwaysBehind_31 hl (by decide) rfl (fun ls hl => ?_)
      have EX_33 : ∀ (v3_33 : Int32) (o_ahead_h33 : Nat → Int32) (o_ways_h33 : Nat → Int32)  (H : Heap) (locs : List Loc) (ls : Array Slot), K_X4_alwaysBehind_33 x1 o_ahead v3_33 o_ahead_h33 o_ways_h33 = RES → va_P D vwCl [(a_o, .inr (4, [.int (nI o_count), .ref a_o_ahead, .ref a_o_ways])), (a_o_ways, .inl (tI, 64, .inl o_ways_h33)), (a_o_ahead, .inl (tI, 6, .inl o_ahead_h33))] H → va_D A [(a_o, .inr (4, [.int (nI o_count), .ref a_o_ahead, .ref a_o_ways])), (a_o_ways, .inl (tI, 64, .inl o_ways_h33)), (a_o_ahead, .inl (tI, 6, .inl o_ahead_h33))] → va_S A s.heap H locs → lv_has ls 6 [(4, .int (o_ahead x1)), (3, .int v3_33), (0, .ref a_o), (1, .int (nI x1))] → W p l e { frames := 2, cells := 0, slots := 0, locals := 65 } s m ([.ref a_o, .int (nI x1), .int (nI x2)] : List Value).toArray below meth c H locs 0 0 Q (F0 m 81 ls []) := by
        intro v3_33 o_ahead_h33 o_ways_h33 H locs ls hR hP hD hS hl
        unfold K_X4_alwaysBehind_33 at hR
        refine lv_aload_n hx hb dX4_alwaysBehind_81 rfl (lv_at hl 2 rfl) ?_
        refine fget E hP 0 rfl fd_X4_15 (v := .ref a_o_ahead) rfl dX4_alwaysBehind_82 ?_
        refine lv_iload_n hx hb dX4_alwaysBehind_85 rfl (lv_at hl 3 rfl) ?_
        refine lv_iload hx hb dX4_alwaysBehind_86 (lv_at hl 0 rfl) ?_
        refine ist E hP hD hS 2 rfl (k := x1) (by omega) (by decide) dX4_alwaysBehind_88 (fun H locs hP hD hS => ?_)
        have hP : va_P D vwCl [(a_o, .inr (4, [.int (nI o_count), .ref a_o_ahead, .ref a_o_ways])), (a_o_ways, .inl (tI, 64, .inl o_ways_h33)), (a_o_ahead, .inl (tI, 6, .inl (upd o_ahead_h33 x1 (o_ahead x1))))] H := hP
        have hD : va_D A [(a_o, .inr (4, [.int (nI o_count), .ref a_o_ahead, .ref a_o_ways])), (a_o_ways, .inl (tI, 64, .inl o_ways_h33)), (a_o_ahead, .inl (tI, 6, .inl (upd o_ahead_h33 x1 (o_ahead x1))))] := hD
        refine lv_iload_n hx hb dX4_alwaysBehind_89 rfl (lv_at hl 1 rfl) ?_
        subst hR
        exact (hF _ _ _ _ hP hS).1 _ rfl ⟨.int, rfl, rfl⟩ dX4_alwaysBehind_90
      have LP_33 : ∀ (n_33 k_33 : Nat) (v3_33 : Int32) (o_ahead_h33 : Nat → Int32) (o_ways_h33 : Nat → Int32)  (H : Heap) (locs : List Loc) (ls : Array Slot), k_33 + n_33 = x2 → (fun a => K_X4_alwaysBehind_33 x1 o_ahead a.1 a.2.1 a.2.2) (iter (fun k a => B_X4_alwaysBehind_33 x1 x2 o_ahead k a.1 a.2.1 a.2.2) n_33 k_33 (v3_33, o_ahead_h33, o_ways_h33)) = RES → va_P D vwCl [(a_o, .inr (4, [.int (nI o_count), .ref a_o_ahead, .ref a_o_ways])), (a_o_ways, .inl (tI, 64, .inl o_ways_h33)), (a_o_ahead, .inl (tI, 6, .inl o_ahead_h33))] H → va_D A [(a_o, .inr (4, [.int (nI o_count), .ref a_o_ahead, .ref a_o_ways])), (a_o_ways, .inl (tI, 64, .inl o_ways_h33)), (a_o_ahead, .inl (tI, 6, .inl o_ahead_h33))] → va_S A s.heap H locs → lv_has ls 6 [(5, .int (nI k_33)), (4, .int (o_ahead x1)), (3, .int v3_33), (0, .ref a_o), (1, .int (nI x1)), (2, .int (nI x2))] → W p l e { frames := 2, cells := 0, slots := 0, locals := 65 } s m ([.ref a_o, .int (nI x1), .int (nI x2)] : List Value).toArray below meth c H locs 0 0 Q (F0 m 33 ls []) := by
        intro n_33
        induction n_33 with
        | zero =>
          intro k_33 v3_33 o_ahead_h33 o_ways_h33 H locs ls hn_33 hR hP hD hS hl
          refine lv_iload hx hb dX4_alwaysBehind_33 (lv_at hl 0 rfl) ?_
          refine lv_iload_n hx hb dX4_alwaysBehind_35 rfl (lv_at hl 5 rfl) ?_
          refine ni_ge (a := k_33) (b := x2) (tgt := 81) (by omega) (by omega) hx hb dX4_alwaysBehind_36 (by decide) (fun g_33 => ?_) (fun g_33 => ?_)
          · exact EX_33 v3_33 o_ahead_h33 o_ways_h33  _ _ _ hR hP hD hS (lv_sub hl [1, 2, 3, 4] rfl)
          · exfalso; omega
        | succ n_33 ih_33 =>
          intro k_33 v3_33 o_ahead_h33 o_ways_h33 H locs ls hn_33 hR hP hD hS hl
          have hR : (fun a => K_X4_alwaysBehind_33 x1 o_ahead a.1 a.2.1 a.2.2) (iter (fun k a => B_X4_alwaysBehind_33 x1 x2 o_ahead k a.1 a.2.1 a.2.2) n_33 (k_33 + 1) (B_X4_alwaysBehind_33 x1 x2 o_ahead k_33 v3_33 o_ahead_h33 o_ways_h33)) = RES := hR
          generalize hB_33 : B_X4_alwaysBehind_33 x1 x2 o_ahead k_33 v3_33 o_ahead_h33 o_ways_h33 = RB_33 at hR
          unfold B_X4_alwaysBehind_33 at hB_33
          refine lv_iload hx hb dX4_alwaysBehind_33 (lv_at hl 0 rfl) ?_
          refine lv_iload_n hx hb dX4_alwaysBehind_35 rfl (lv_at hl 5 rfl) ?_
          refine ni_ge (a := k_33) (b := x2) (tgt := 81) (by omega) (by omega) hx hb dX4_alwaysBehind_36 (by decide) (fun g_33 => ?_) (fun g_33 => ?_)
          · exfalso; omega
          · refine lv_aload_n hx hb dX4_alwaysBehind_39 rfl (lv_at hl 3 rfl) ?_
            refine fget E hP 0 rfl fd_X4_15 (v := .ref a_o_ahead) rfl dX4_alwaysBehind_40 ?_
            refine lv_iload_n hx hb dX4_alwaysBehind_43 rfl (lv_at hl 4 rfl) ?_
            refine lv_iload hx hb dX4_alwaysBehind_44 (lv_at hl 1 rfl) ?_
            refine lv_iload hx hb dX4_alwaysBehind_46 (lv_at hl 0 rfl) ?_
            refine kcSN E hl.1 (c_X6_bit l D tB tI tZ (nI k_33) ) cs_X6_bit 12 rfl hP hD hS hA [] rfl rfl rfl (ws2 := [(a_o, .inr (4, [.int (nI o_count), .ref a_o_ahead, .ref a_o_ways])), (a_o_ways, .inl (tI, 64, .inl o_ways_h33)), (a_o_ahead, .inl (tI, 6, .inl o_ahead_h33))]) rfl rfl (As := [.int (nI k_33)]) (rest := [.int (o_ahead x1), .int (nI x1), .ref a_o_ahead]) rfl rfl (Nat.le_of_ble_eq_true rfl) ⟨Nat.le_of_ble_eq_true rfl, Nat.le_of_ble_eq_true rfl⟩ ⟨Nat.zero_le _, Nat.zero_le _⟩ dX4_alwaysBehind_48 (fun H locs hP hD hS => ?_)
            refine lv_ior hx hb dX4_alwaysBehind_51 ?_
            refine ist E hP hD hS 2 rfl (k := x1) (by omega) (by decide) dX4_alwaysBehind_52 (fun H locs hP hD hS => ?_)
            have hP : va_P D vwCl [(a_o, .inr (4, [.int (nI o_count), .ref a_o_ahead, .ref a_o_ways])), (a_o_ways, .inl (tI, 64, .inl o_ways_h33)), (a_o_ahead, .inl (tI, 6, .inl (upd o_ahead_h33 x1 ((o_ahead x1) ||| (S_X6_bit (nI k_33))))))] H := hP
            have hD : va_D A [(a_o, .inr (4, [.int (nI o_count), .ref a_o_ahead, .ref a_o_ways])), (a_o_ways, .inl (tI, 64, .inl o_ways_h33)), (a_o_ahead, .inl (tI, 6, .inl (upd o_ahead_h33 x1 ((o_ahead x1) ||| (S_X6_bit (nI k_33))))))] := hD
            refine lv_iload hx hb dX4_alwaysBehind_53 (lv_at hl 0 rfl) ?_
            refine lv_iload_n hx hb dX4_alwaysBehind_55 rfl (lv_at hl 4 rfl) ?_
            refine ni_eq (a := k_33) (b := x1) (tgt := 75) (by omega) (by omega) hx hb dX4_alwaysBehind_56 (by decide) (fun c_5 => ?_) (fun c_5 => ?_)
            · rw [if_pos c_5] at hB_33
              refine lv_iinc (v := (nI (k_33 + 1))) (lv' := [(5, .int (nI (k_33 + 1))), (4, .int (o_ahead x1)), (3, .int v3_33), (0, .ref a_o), (1, .int (nI x1)), (2, .int (nI x2))]) hx hb dX4_alwaysBehind_75 hl (k := 0) rfl (nI_i1 k_33) (by decide) rfl (fun ls hl => ?_)
              refine lv_goto (tgt := 33) hx hb dX4_alwaysBehind_78 (by decide) ?_
              subst hB_33
              exact ih_33 (k_33 + 1) v3_33 (upd o_ahead_h33 x1 ((o_ahead x1) ||| (S_X6_bit (nI k_33)))) o_ways_h33  _ _ _ (by omega) hR hP hD hS (lv_sub hl [0, 1, 2, 3, 4, 5] rfl)
            · rw [if_neg c_5] at hB_33
              refine lv_aload_n hx hb dX4_alwaysBehind_59 rfl (lv_at hl 3 rfl) ?_
              refine lv_iload_n hx hb dX4_alwaysBehind_60 rfl (lv_at hl 5 rfl) ?_
              have hC_61 := (c_X4_countOrders l D tB tI tZ a_o a_o_ahead a_o_ways o_count o_ways_h33 (upd o_ahead_h33 x1 ((o_ahead x1) ||| (S_X6_bit (nI k_33)))) x2 (show x2 ≤ 6 by first | assumption | omega | exact NN.none | exact NN.nat (by omega) (by omega) | exact NN.up (by assumption) (by omega)))
              generalize hu_61 : (S_X4_countOrders x2 o_ways_h33 (upd o_ahead_h33 x1 ((o_ahead x1) ||| (S_X6_bit (nI k_33))))) = u_61 at hC_61 hB_33
              obtain ⟨r61_r, r61_o_ways⟩ := u_61
              refine kcV E hl.1 hC_61 cv_X4_countOrders wm_X4_32 hP hD hS hA [0, 1, 2] rfl rfl rfl (ws2 := [(a_o, .inr (4, [.int (nI o_count), .ref a_o_ahead, .ref a_o_ways])), (a_o_ways, .inl (tI, 64, .inl r61_o_ways)), (a_o_ahead, .inl (tI, 6, .inl (upd o_ahead_h33 x1 ((o_ahead x1) ||| (S_X6_bit (nI k_33))))))]) rfl rfl (b := a_o) (As := [.int (nI x2)]) (rest := []) 0 4 rfl rfl rfl rfl (Nat.le_of_ble_eq_true rfl) ⟨Nat.le_of_ble_eq_true rfl, Nat.le_of_ble_eq_true rfl⟩ ⟨Nat.zero_le _, Nat.zero_le _⟩ dX4_alwaysBehind_61 (fun H locs hP hD hS => ?_)
              have hP : va_P D vwCl [(a_o, .inr (4, [.int (nI o_count), .ref a_o_ahead, .ref a_o_ways])), (a_o_ways, .inl (tI, 64, .inl r61_o_ways)), (a_o_ahead, .inl (tI, 6, .inl (upd o_ahead_h33 x1 ((o_ahead x1) ||| (S_X6_bit (nI k_33))))))] H := hP
              have hD : va_D A [(a_o, .inr (4, [.int (nI o_count), .ref a_o_ahead, .ref a_o_ways])), (a_o_ways, .inl (tI, 64, .inl r61_o_ways)), (a_o_ahead, .inl (tI, 6, .inl (upd o_ahead_h33 x1 ((o_ahead x1) ||| (S_X6_bit (nI k_33))))))] := hD
              have hB_33 : K_X4_alwaysBehind_61 x1 o_ahead k_33 v3_33 o_ahead_h33 r61_r r61_o_ways = RB_33 := hB_33
              unfold K_X4_alwaysBehind_61 at hB_33
              refine lv_if_ne (tgt := 75) hx hb dX4_alwaysBehind_64 (by decide) (fun c_6 => ?_) (fun c_6 => ?_)
              · rw [if_neg c_6] at hB_33
                refine lv_iinc (v := (nI (k_33 + 1))) (lv' := [(5, .int (nI (k_33 + 1))), (4, .int (o_ahead x1)), (3, .int v3_33), (0, .ref a_o), (1, .int (nI x1)), (2, .int (nI x2))]) hx hb dX4_alwaysBehind_75 hl (k := 0) rfl (nI_i1 k_33) (by decide) rfl (fun ls hl => ?_)
                refine lv_goto (tgt := 33) hx hb dX4_alwaysBehind_78 (by decide) ?_
                subst hB_33
                exact ih_33 (k_33 + 1) v3_33 (upd o_ahead_h33 x1 ((o_ahead x1) ||| (S_X6_bit (nI k_33)))) r61_o_ways  _ _ _ (by omega) hR hP hD hS (lv_sub hl [0, 1, 2, 3, 4, 5] rfl)
              · rw [if_pos c_6] at hB_33
                refine lv_iload_n hx hb dX4_alwaysBehind_67 rfl (lv_at hl 2 rfl) ?_
                refine lv_iload hx hb dX4_alwaysBehind_68 (lv_at hl 0 rfl) ?_
                refine kcSN E hl.1 (c_X6_bit l D tB tI tZ (nI k_33) ) cs_X6_bit 12 rfl hP hD hS hA [] rfl rfl rfl (ws2 := [(a_o, .inr (4, [.int (nI o_count), .ref a_o_ahead, .ref a_o_ways])), (a_o_ways, .inl (tI, 64, .inl r61_o_ways)), (a_o_ahead, .inl (tI, 6, .inl (upd o_ahead_h33 x1 ((o_ahead x1) ||| (S_X6_bit (nI k_33))))))]) rfl rfl (As := [.int (nI k_33)]) (rest := [.int v3_33]) rfl rfl (Nat.le_of_ble_eq_true rfl) ⟨Nat.le_of_ble_eq_true rfl, Nat.le_of_ble_eq_true rfl⟩ ⟨Nat.zero_le _, Nat.zero_le _⟩ dX4_alwaysBehind_70 (fun H locs hP hD hS => ?_)
                refine lv_ior hx hb dX4_alwaysBehind_73 ?_
                refine lv_istore_n (lv' := [(3, .int (v3_33 ||| (S_X6_bit (nI k_33)))), (5, .int (nI k_33)), (4, .int (o_ahead x1)), (0, .ref a_o), (1, .int (nI x1)), (2, .int (nI x2))]) hx hb dX4_alwaysBehind_74 rfl hl (by decide) rfl (fun ls hl => ?_)
                refine lv_iinc (v := (nI (k_33 + 1))) (lv' := [(5, .int (nI (k_33 + 1))), (3, .int (v3_33 ||| (S_X6_bit (nI k_33)))), (4, .int (o_ahead x1)), (0, .ref a_o), (1, .int (nI x1)), (2, .int (nI x2))]) hx hb dX4_alwaysBehind_75 hl (k := 1) rfl (nI_i1 k_33) (by decide) rfl (fun ls hl => ?_)
                refine lv_goto (tgt := 33) hx hb dX4_alwaysBehind_78 (by decide) ?_
                subst hB_33
                exact ih_33 (k_33 + 1) (v3_33 ||| (S_X6_bit (nI k_33))) (upd o_ahead_h33 x1 ((o_ahead x1) ||| (S_X6_bit (nI k_33)))) r61_o_ways  _ _ _ (by omega) hR hP hD hS (lv_sub hl [0, 2, 1, 3, 4, 5] rfl)
      exact LP_33 x2 0 (0 : Int32) o_ahead r12_o_ways  _ _ _ (by omega) hR hP hD hS (lv_sub hl [0, 1, 2, 3, 4, 5] rfl)
    · rw [if_pos c_3] at hR
      refine lv_iconst (v := (0 : Int32)) hx hb dX4_alwaysBehind_18 (by decide) ?_
      subst hR
      exact (hF _ _ _ _ hP hS).1 _ rfl ⟨.int, rfl, rfl⟩ dX4_alwaysBehind_19

def S_X2_add (x1 : Int32) (x2 : Int32) (o_count : Nat) (o_who : Nat → Int32) (o_nameBy : Nat → Int32) : Nat × (Nat → Int32) × (Nat → Int32) × Nat := (if 6 ≤ o_count then (o_count, o_who, o_nameBy, o_count) else ((o_count + 1), (upd o_who o_count x1), (upd o_nameBy o_count x2), (o_count + 1)))
set_option maxHeartbeats 4000000 in
set_option maxRecDepth 100000 in
theorem c_X2_add (l : Launch) (D : va_G) (tB tI tZ : ClassId) (a_o a_o_who a_o_nameBy : Nat) (o_count : Nat) (o_who : Nat → Int32) (o_nameBy : Nat → Int32) (x1 : Int32) (x2 : Int32) (hc : o_count ≤ 6) : CT l D (tyL tB tI tZ) yX2_add (.code yX2_add cX2_add 3 (some .int)) 0 0 [.ref a_o, .int x1, .int x2] [(a_o, .inr (2, [.int (nI o_count), .ref a_o_who, .ref a_o_nameBy])), (a_o_who, .inl (tI, 6, .inl o_who)), (a_o_nameBy, .inl (tI, 6, .inl o_nameBy))] (fun u : Nat × (Nat → Int32) × (Nat → Int32) × Nat => some (.int (nI (u.1)))) (fun u : Nat × (Nat → Int32) × (Nat → Int32) × Nat => [(a_o, .inr (2, [.int (nI (u.2.2.2)), .ref a_o_who, .ref a_o_nameBy])), (a_o_who, .inl (tI, 6, .inl (u.2.1))), (a_o_nameBy, .inl (tI, 6, .inl (u.2.2.1)))]) (S_X2_add x1 x2 o_count o_who o_nameBy) := by
  refine CT.intro (k := 0) (Nat.le_of_ble_eq_true rfl) (by decide) ?_
  intro p e s m below meth c Q A ls E hA hP hD hS hl hF
  obtain ⟨⟨hx, hb, hml, hown, hts⟩, hK⟩ := id E
  generalize hR : S_X2_add x1 x2 o_count o_who o_nameBy = RES at hF
  unfold S_X2_add at hR
  have hl : lv_has ls 3 [(0, .ref a_o), (1, .int x1), (2, .int x2)] := hl
  refine lv_aload_n hx hb dX2_add_0 rfl (lv_at hl 0 rfl) ?_
  refine fget E hP 0 rfl fd_X2_9 (v := .int (nI o_count)) rfl dX2_add_1 ?_
  refine lv_bipush (v := (6 : Int32)) hx hb dX2_add_4 (by decide) ?_
  refine ni_ge (a := o_count) (b := 6) (tgt := 39) (by omega) (by omega) hx hb dX2_add_6 (by decide) (fun c_1 => ?_) (fun c_1 => ?_)
  · rw [if_pos c_1] at hR
    refine lv_aload_n hx hb dX2_add_39 rfl (lv_at hl 0 rfl) ?_
    refine fget E hP 0 rfl fd_X2_9 (v := .int (nI o_count)) rfl dX2_add_40 ?_
    subst hR
    exact (hF _ _ _ _ hP hS).1 _ rfl ⟨.int, rfl, rfl⟩ dX2_add_43
  · rw [if_neg c_1] at hR
    refine lv_aload_n hx hb dX2_add_9 rfl (lv_at hl 0 rfl) ?_
    refine fget E hP 0 rfl fd_X2_15 (v := .ref a_o_who) rfl dX2_add_10 ?_
    refine lv_aload_n hx hb dX2_add_13 rfl (lv_at hl 0 rfl) ?_
    refine fget E hP 0 rfl fd_X2_9 (v := .int (nI o_count)) rfl dX2_add_14 ?_
    refine lv_iload_n hx hb dX2_add_17 rfl (lv_at hl 1 rfl) ?_
    refine ist E hP hD hS 1 rfl (k := o_count) (by omega) (by decide) dX2_add_18 (fun H locs hP hD hS => ?_)
    have hP : va_P D vwCl [(a_o, .inr (2, [.int (nI o_count), .ref a_o_who, .ref a_o_nameBy])), (a_o_who, .inl (tI, 6, .inl (upd o_who o_count x1))), (a_o_nameBy, .inl (tI, 6, .inl o_nameBy))] H := hP
    have hD : va_D A [(a_o, .inr (2, [.int (nI o_count), .ref a_o_who, .ref a_o_nameBy])), (a_o_who, .inl (tI, 6, .inl (upd o_who o_count x1))), (a_o_nameBy, .inl (tI, 6, .inl o_nameBy))] := hD
    refine lv_aload_n hx hb dX2_add_19 rfl (lv_at hl 0 rfl) ?_
    refine fget E hP 0 rfl fd_X2_19 (v := .ref a_o_nameBy) rfl dX2_add_20 ?_
    refine lv_aload_n hx hb dX2_add_23 rfl (lv_at hl 0 rfl) ?_
    refine fget E hP 0 rfl fd_X2_9 (v := .int (nI o_count)) rfl dX2_add_24 ?_
    refine lv_iload_n hx hb dX2_add_27 rfl (lv_at hl 2 rfl) ?_
    refine ist E hP hD hS 2 rfl (k := o_count) (by omega) (by decide) dX2_add_28 (fun H locs hP hD hS => ?_)
    have hP : va_P D vwCl [(a_o, .inr (2, [.int (nI o_count), .ref a_o_who, .ref a_o_nameBy])), (a_o_who, .inl (tI, 6, .inl (upd o_who o_count x1))), (a_o_nameBy, .inl (tI, 6, .inl (upd o_nameBy o_count x2)))] H := hP
    have hD : va_D A [(a_o, .inr (2, [.int (nI o_count), .ref a_o_who, .ref a_o_nameBy])), (a_o_who, .inl (tI, 6, .inl (upd o_who o_count x1))), (a_o_nameBy, .inl (tI, 6, .inl (upd o_nameBy o_count x2)))] := hD
    refine lv_aload_n hx hb dX2_add_29 rfl (lv_at hl 0 rfl) ?_
    refine lv_dup hx hb dX2_add_30 rfl ?_
    refine fget E hP 0 rfl fd_X2_9 (v := .int (nI o_count)) rfl dX2_add_31 ?_
    refine lv_iconst (v := (1 : Int32)) hx hb dX2_add_34 (by decide) ?_
    refine lv_iadd hx hb dX2_add_35 ?_
    refine lv_is (nI_add o_count 1) ?_
    refine fput E hP hD hS 0 rfl fd_X2_9 fp_X2 (ty := .int) (v := .int (nI (o_count + 1))) rfl rfl rfl rfl (Nat.le_of_ble_eq_true rfl) dX2_add_36 (fun H locs hP hD hS => ?_)
    have hP : va_P D vwCl [(a_o, .inr (2, [.int (nI (o_count + 1)), .ref a_o_who, .ref a_o_nameBy])), (a_o_who, .inl (tI, 6, .inl (upd o_who o_count x1))), (a_o_nameBy, .inl (tI, 6, .inl (upd o_nameBy o_count x2)))] H := hP
    have hD : va_D A [(a_o, .inr (2, [.int (nI (o_count + 1)), .ref a_o_who, .ref a_o_nameBy])), (a_o_who, .inl (tI, 6, .inl (upd o_who o_count x1))), (a_o_nameBy, .inl (tI, 6, .inl (upd o_nameBy o_count x2)))] := hD
    refine lv_aload_n hx hb dX2_add_39 rfl (lv_at hl 0 rfl) ?_
    refine fget E hP 0 rfl fd_X2_9 (v := .int (nI (o_count + 1))) rfl dX2_add_40 ?_
    subst hR
    exact (hF _ _ _ _ hP hS).1 _ rfl ⟨.int, rfl, rfl⟩ dX2_add_43

def S_X2_clear  : Nat := 0
set_option maxHeartbeats 4000000 in
set_option maxRecDepth 100000 in
theorem c_X2_clear (l : Launch) (D : va_G) (tB tI tZ : ClassId) (a_o a_o_who a_o_nameBy : Nat) (o_count : Nat)   : CT l D (tyL tB tI tZ) yX2_clear (.code yX2_clear cX2_clear 1 none) 0 0 [.ref a_o] [(a_o, .inr (2, [.int (nI o_count), .ref a_o_who, .ref a_o_nameBy]))] (fun _ : Nat => none) (fun u : Nat => [(a_o, .inr (2, [.int (nI u), .ref a_o_who, .ref a_o_nameBy]))]) (S_X2_clear ) := by
  refine CT.intro (k := 0) (Nat.le_of_ble_eq_true rfl) (by decide) ?_
  intro p e s m below meth c Q A ls E hA hP hD hS hl hF
  obtain ⟨⟨hx, hb, hml, hown, hts⟩, hK⟩ := id E
  generalize hR : S_X2_clear  = RES at hF
  unfold S_X2_clear at hR
  have hl : lv_has ls 1 [(0, .ref a_o)] := hl
  refine lv_aload_n hx hb dX2_clear_0 rfl (lv_at hl 0 rfl) ?_
  refine lv_iconst (v := (0 : Int32)) hx hb dX2_clear_1 (by decide) ?_
  refine fput E hP hD hS 0 rfl fd_X2_9 fp_X2 (ty := .int) (v := .int (nI 0)) rfl rfl rfl rfl (Nat.le_of_ble_eq_true rfl) dX2_clear_2 (fun H locs hP hD hS => ?_)
  have hP : va_P D vwCl [(a_o, .inr (2, [.int (nI 0), .ref a_o_who, .ref a_o_nameBy]))] H := hP
  have hD : va_D A [(a_o, .inr (2, [.int (nI 0), .ref a_o_who, .ref a_o_nameBy]))] := hD
  subst hR
  exact (hF _ _ _ _ hP hS).2.2.2 rfl rfl dX2_clear_5

def K_X2_allNamed_4  (v1_4 : Int32) : Int32 := v1_4
def B_X2_allNamed_4 (o_nameBy : Nat → Int32) (k_4 : Nat) (v1_4 : Int32) : Int32 := (if (o_nameBy k_4) = (-1 : Int32) then v1_4 else (v1_4 ||| (S_X6_bit (o_nameBy k_4))))
def S_X2_allNamed (o_count : Nat) (o_nameBy : Nat → Int32) : Int32 := ((fun a => K_X2_allNamed_4 a) (iter (fun k a => B_X2_allNamed_4 o_nameBy k a) o_count 0 (0 : Int32)))
set_option maxHeartbeats 4000000 in
set_option maxRecDepth 100000 in
theorem c_X2_allNamed (l : Launch) (D : va_G) (tB tI tZ : ClassId) (a_o a_o_who a_o_nameBy : Nat) (o_count : Nat) (o_nameBy : Nat → Int32)  (hc : o_count ≤ 6) : CT l D (tyL tB tI tZ) yX2_allNamed (.code yX2_allNamed cX2_allNamed 3 (some .int)) 1 20 [.ref a_o] [(a_o, .inr (2, [.int (nI o_count), .ref a_o_who, .ref a_o_nameBy])), (a_o_nameBy, .inl (tI, 6, .inl o_nameBy))] (fun u : Int32 => some (.int (u))) (fun _ : Int32 => [(a_o, .inr (2, [.int (nI o_count), .ref a_o_who, .ref a_o_nameBy])), (a_o_nameBy, .inl (tI, 6, .inl o_nameBy))]) (S_X2_allNamed o_count o_nameBy) := by
  refine CT.intro (k := 0) (Nat.le_of_ble_eq_true rfl) (by decide) ?_
  intro p e s m below meth c Q A ls E hA hP hD hS hl hF
  obtain ⟨⟨hx, hb, hml, hown, hts⟩, hK⟩ := id E
  generalize hR : S_X2_allNamed o_count o_nameBy = RES at hF
  unfold S_X2_allNamed at hR
  have hl : lv_has ls 3 [(0, .ref a_o)] := hl
  refine lv_iconst (v := (0 : Int32)) hx hb dX2_allNamed_0 (by decide) ?_
  refine lv_istore_n (lv' := [(1, .int (0 : Int32)), (0, .ref a_o)]) hx hb dX2_allNamed_1 rfl hl (by decide) rfl (fun ls hl => ?_)
  refine lv_iconst (v := (0 : Int32)) hx hb dX2_allNamed_2 (by decide) ?_
  refine lv_istore_n (lv' := [(2, .int (0 : Int32)), (1, .int (0 : Int32)), (0, .ref a_o)]) hx hb dX2_allNamed_3 rfl hl (by decide) rfl (fun ls hl => ?_)
  have EX_4 : ∀ (v1_4 : Int32)  (H : Heap) (locs : List Loc) (ls : Array Slot), K_X2_allNamed_4 v1_4 = RES → va_P D vwCl [(a_o, .inr (2, [.int (nI o_count), .ref a_o_who, .ref a_o_nameBy])), (a_o_nameBy, .inl (tI, 6, .inl o_nameBy))] H → va_D A [(a_o, .inr (2, [.int (nI o_count), .ref a_o_who, .ref a_o_nameBy])), (a_o_nameBy, .inl (tI, 6, .inl o_nameBy))] → va_S A s.heap H locs → lv_has ls 3 [(1, .int v1_4)] → W p l e { frames := 1, cells := 0, slots := 0, locals := 20 } s m ([.ref a_o] : List Value).toArray below meth c H locs 0 0 Q (F0 m 40 ls []) := by
    intro v1_4 H locs ls hR hP hD hS hl
    unfold K_X2_allNamed_4 at hR
    refine lv_iload_n hx hb dX2_allNamed_40 rfl (lv_at hl 0 rfl) ?_
    subst hR
    exact (hF _ _ _ _ hP hS).1 _ rfl ⟨.int, rfl, rfl⟩ dX2_allNamed_41
  have LP_4 : ∀ (n_4 k_4 : Nat) (v1_4 : Int32)  (H : Heap) (locs : List Loc) (ls : Array Slot), k_4 + n_4 = o_count → (fun a => K_X2_allNamed_4 a) (iter (fun k a => B_X2_allNamed_4 o_nameBy k a) n_4 k_4 v1_4) = RES → va_P D vwCl [(a_o, .inr (2, [.int (nI o_count), .ref a_o_who, .ref a_o_nameBy])), (a_o_nameBy, .inl (tI, 6, .inl o_nameBy))] H → va_D A [(a_o, .inr (2, [.int (nI o_count), .ref a_o_who, .ref a_o_nameBy])), (a_o_nameBy, .inl (tI, 6, .inl o_nameBy))] → va_S A s.heap H locs → lv_has ls 3 [(2, .int (nI k_4)), (1, .int v1_4), (0, .ref a_o)] → W p l e { frames := 1, cells := 0, slots := 0, locals := 20 } s m ([.ref a_o] : List Value).toArray below meth c H locs 0 0 Q (F0 m 4 ls []) := by
    intro n_4
    induction n_4 with
    | zero =>
      intro k_4 v1_4 H locs ls hn_4 hR hP hD hS hl
      refine lv_iload_n hx hb dX2_allNamed_4 rfl (lv_at hl 0 rfl) ?_
      refine lv_aload_n hx hb dX2_allNamed_5 rfl (lv_at hl 2 rfl) ?_
      refine fget E hP 0 rfl fd_X2_9 (v := .int (nI o_count)) rfl dX2_allNamed_6 ?_
      refine ni_ge (a := k_4) (b := o_count) (tgt := 40) (by omega) (by omega) hx hb dX2_allNamed_9 (by decide) (fun g_4 => ?_) (fun g_4 => ?_)
      · exact EX_4 v1_4  _ _ _ hR hP hD hS (lv_sub hl [1] rfl)
      · exfalso; omega
    | succ n_4 ih_4 =>
      intro k_4 v1_4 H locs ls hn_4 hR hP hD hS hl
      have hR : (fun a => K_X2_allNamed_4 a) (iter (fun k a => B_X2_allNamed_4 o_nameBy k a) n_4 (k_4 + 1) (B_X2_allNamed_4 o_nameBy k_4 v1_4)) = RES := hR
      generalize hB_4 : B_X2_allNamed_4 o_nameBy k_4 v1_4 = RB_4 at hR
      unfold B_X2_allNamed_4 at hB_4
      refine lv_iload_n hx hb dX2_allNamed_4 rfl (lv_at hl 0 rfl) ?_
      refine lv_aload_n hx hb dX2_allNamed_5 rfl (lv_at hl 2 rfl) ?_
      refine fget E hP 0 rfl fd_X2_9 (v := .int (nI o_count)) rfl dX2_allNamed_6 ?_
      refine ni_ge (a := k_4) (b := o_count) (tgt := 40) (by omega) (by omega) hx hb dX2_allNamed_9 (by decide) (fun g_4 => ?_) (fun g_4 => ?_)
      · exfalso; omega
      · refine lv_aload_n hx hb dX2_allNamed_12 rfl (lv_at hl 2 rfl) ?_
        refine fget E hP 0 rfl fd_X2_19 (v := .ref a_o_nameBy) rfl dX2_allNamed_13 ?_
        refine lv_iload_n hx hb dX2_allNamed_16 rfl (lv_at hl 0 rfl) ?_
        refine ild E hP 1 rfl (k := k_4) (by omega) (by decide) dX2_allNamed_17 ?_
        refine lv_iconst (v := (-1 : Int32)) hx hb dX2_allNamed_18 (by decide) ?_
        refine lv_icmp_eq (tgt := 34) hx hb dX2_allNamed_19 (by decide) (fun c_2 => ?_) (fun c_2 => ?_)
        · rw [if_pos c_2] at hB_4
          refine lv_iinc (v := (nI (k_4 + 1))) (lv' := [(2, .int (nI (k_4 + 1))), (1, .int v1_4), (0, .ref a_o)]) hx hb dX2_allNamed_34 hl (k := 0) rfl (nI_i1 k_4) (by decide) rfl (fun ls hl => ?_)
          refine lv_goto (tgt := 4) hx hb dX2_allNamed_37 (by decide) ?_
          subst hB_4
          exact ih_4 (k_4 + 1) v1_4  _ _ _ (by omega) hR hP hD hS (lv_sub hl [0, 1, 2] rfl)
        · rw [if_neg c_2] at hB_4
          refine lv_iload_n hx hb dX2_allNamed_22 rfl (lv_at hl 1 rfl) ?_
          refine lv_aload_n hx hb dX2_allNamed_23 rfl (lv_at hl 2 rfl) ?_
          refine fget E hP 0 rfl fd_X2_19 (v := .ref a_o_nameBy) rfl dX2_allNamed_24 ?_
          refine lv_iload_n hx hb dX2_allNamed_27 rfl (lv_at hl 0 rfl) ?_
          refine ild E hP 1 rfl (k := k_4) (by omega) (by decide) dX2_allNamed_28 ?_
          refine kcSN E hl.1 (c_X6_bit l D tB tI tZ (o_nameBy k_4) ) cs_X6_bit 13 rfl hP hD hS hA [] rfl rfl rfl (ws2 := [(a_o, .inr (2, [.int (nI o_count), .ref a_o_who, .ref a_o_nameBy])), (a_o_nameBy, .inl (tI, 6, .inl o_nameBy))]) rfl rfl (As := [.int (o_nameBy k_4)]) (rest := [.int v1_4]) rfl rfl (Nat.le_of_ble_eq_true rfl) ⟨Nat.le_of_ble_eq_true rfl, Nat.le_of_ble_eq_true rfl⟩ ⟨Nat.zero_le _, Nat.zero_le _⟩ dX2_allNamed_29 (fun H locs hP hD hS => ?_)
          refine lv_ior hx hb dX2_allNamed_32 ?_
          refine lv_istore_n (lv' := [(1, .int (v1_4 ||| (S_X6_bit (o_nameBy k_4)))), (2, .int (nI k_4)), (0, .ref a_o)]) hx hb dX2_allNamed_33 rfl hl (by decide) rfl (fun ls hl => ?_)
          refine lv_iinc (v := (nI (k_4 + 1))) (lv' := [(2, .int (nI (k_4 + 1))), (1, .int (v1_4 ||| (S_X6_bit (o_nameBy k_4)))), (0, .ref a_o)]) hx hb dX2_allNamed_34 hl (k := 1) rfl (nI_i1 k_4) (by decide) rfl (fun ls hl => ?_)
          refine lv_goto (tgt := 4) hx hb dX2_allNamed_37 (by decide) ?_
          subst hB_4
          exact ih_4 (k_4 + 1) (v1_4 ||| (S_X6_bit (o_nameBy k_4)))  _ _ _ (by omega) hR hP hD hS (lv_sub hl [0, 1, 2] rfl)
  exact LP_4 o_count 0 (0 : Int32)  _ _ _ (by omega) hR hP hD hS (lv_sub hl [0, 1, 2] rfl)

def K_X2_firstEaten_9  (v3_9 : Int32) : Int32 := (-1 : Int32)
def B_X2_firstEaten_9 (x2 : Nat) (x1_lives : Int32) (x1_day : Int32) (x1_over : Nat → Int32) (o_nameBy : Nat → Int32) (o_who : Nat → Int32) (x1_lieDay : Nat → Int32) (x1_land_year : Int32) (x1_land_men : Nat) (x1_land_forgets : Nat → Int32) (x1_knows : Nat → Int32) (x1_land_weight : Nat → Int32) (x1_aloneYear : Nat → Int32) (k_9 : Nat) (v3_9 : Int32) : Int32 ⊕ (Int32) := (if (o_nameBy k_9) = (-1 : Int32) then (if (S_X6_has v3_9 (nI ((o_who k_9).toNatClampNeg))) = 0 then (.inr (nI k_9)) else (if (S_X0_goesAlone x2 ((o_who k_9).toNatClampNeg) x1_land_weight x1_land_year x1_land_men x1_lives x1_day x1_aloneYear) = 0 then (.inr (nI k_9)) else (.inl (v3_9 &&& ((S_X6_bit (nI ((o_who k_9).toNatClampNeg))) ^^^ (-1 : Int32)))))) else (if (S_X6_has v3_9 (nI ((o_who k_9).toNatClampNeg))) = 0 then (.inr (nI k_9)) else (if (S_X6_has ((S_X0_helpers x2 ((o_who k_9).toNatClampNeg) x1_lives x1_day x1_lieDay x1_land_men x1_land_forgets x1_knows x1_land_weight x1_over) &&& v3_9) (o_nameBy k_9)) = 0 then (.inr (nI k_9)) else (.inl (v3_9 &&& ((S_X6_bit (nI ((o_who k_9).toNatClampNeg))) ^^^ (-1 : Int32)))))))
def S_X2_firstEaten (x2 : Nat) (x1_lives : Int32) (x1_day : Int32) (x1_over : Nat → Int32) (o_count : Nat) (o_nameBy : Nat → Int32) (o_who : Nat → Int32) (x1_lieDay : Nat → Int32) (x1_land_year : Int32) (x1_land_men : Nat) (x1_land_forgets : Nat → Int32) (x1_knows : Nat → Int32) (x1_land_weight : Nat → Int32) (x1_aloneYear : Nat → Int32) : Int32 := (outE (fun a => K_X2_firstEaten_9 a) (iterE (fun k a => B_X2_firstEaten_9 x2 x1_lives x1_day x1_over o_nameBy o_who x1_lieDay x1_land_year x1_land_men x1_land_forgets x1_knows x1_land_weight x1_aloneYear k a) o_count 0 (S_X0_toCome x2 x1_lives x1_over)))
set_option maxHeartbeats 4000000 in
set_option maxRecDepth 100000 in
theorem c_X2_firstEaten (l : Launch) (D : va_G) (tB tI tZ : ClassId) (a_x1 a_x1_land a_x1_knows a_x1_over a_x1_nameBy a_x1_lieDay a_x1_aloneYear a_o a_o_who a_o_nameBy a_x1_land_forgets a_x1_land_weight a_x1_land_chance a_x1_land_knowsAtFirst a_x1_land_oxWeight a_x1_land_oxPrice : Nat) (x1_lives : Int32) (x1_day : Int32) (x1_seed : Int32) (x1_over : Nat → Int32) (o_count : Nat) (o_nameBy : Nat → Int32) (o_who : Nat → Int32) (x1_lieDay : Nat → Int32) (x1_land_year : Int32) (x1_land_bridges : Nat) (x1_land_men : Nat) (x1_land_oxen : Nat) (x1_land_forgets : Nat → Int32) (x1_knows : Nat → Int32) (x1_land_weight : Nat → Int32) (x1_aloneYear : Nat → Int32) (x2 : Nat) (hc : o_count ≤ 6) (hb : x2 < 5) (hmen : x1_land_men ≤ 6) (hwho : ∀ i, i < o_count → RN 6 (o_who i)) : CT l D (tyL tB tI tZ) yX2_firstEaten (.code yX2_firstEaten cX2_firstEaten 6 (some .int)) 3 66 [.ref a_o, .ref a_x1, .int (nI x2)] [(a_x1, .inr (0, [.ref a_x1_land, .int x1_lives, .int x1_day, .int x1_seed, .ref a_x1_knows, .ref a_x1_over, .ref a_x1_nameBy, .ref a_x1_lieDay, .ref a_x1_aloneYear])), (a_x1_over, .inl (tI, 5, .inl x1_over)), (a_o, .inr (2, [.int (nI o_count), .ref a_o_who, .ref a_o_nameBy])), (a_o_nameBy, .inl (tI, 6, .inl o_nameBy)), (a_o_who, .inl (tI, 6, .inl o_who)), (a_x1_lieDay, .inl (tI, 30, .inl x1_lieDay)), (a_x1_land, .inr (1, [.int x1_land_year, .int (nI x1_land_bridges), .int (nI x1_land_men), .int (nI x1_land_oxen), .ref a_x1_land_forgets, .ref a_x1_land_weight, .ref a_x1_land_chance, .ref a_x1_land_knowsAtFirst, .ref a_x1_land_oxWeight, .ref a_x1_land_oxPrice])), (a_x1_land_forgets, .inl (tI, 5, .inl x1_land_forgets)), (a_x1_knows, .inl (tI, 6, .inl x1_knows)), (a_x1_land_weight, .inl (tI, 6, .inl x1_land_weight)), (a_x1_aloneYear, .inl (tI, 30, .inl x1_aloneYear))] (fun u : Int32 => some (.int (u))) (fun _ : Int32 => [(a_x1, .inr (0, [.ref a_x1_land, .int x1_lives, .int x1_day, .int x1_seed, .ref a_x1_knows, .ref a_x1_over, .ref a_x1_nameBy, .ref a_x1_lieDay, .ref a_x1_aloneYear])), (a_x1_over, .inl (tI, 5, .inl x1_over)), (a_o, .inr (2, [.int (nI o_count), .ref a_o_who, .ref a_o_nameBy])), (a_o_nameBy, .inl (tI, 6, .inl o_nameBy)), (a_o_who, .inl (tI, 6, .inl o_who)), (a_x1_lieDay, .inl (tI, 30, .inl x1_lieDay)), (a_x1_land, .inr (1, [.int x1_land_year, .int (nI x1_land_bridges), .int (nI x1_land_men), .int (nI x1_land_oxen), .ref a_x1_land_forgets, .ref a_x1_land_weight, .ref a_x1_land_chance, .ref a_x1_land_knowsAtFirst, .ref a_x1_land_oxWeight, .ref a_x1_land_oxPrice])), (a_x1_land_forgets, .inl (tI, 5, .inl x1_land_forgets)), (a_x1_knows, .inl (tI, 6, .inl x1_knows)), (a_x1_land_weight, .inl (tI, 6, .inl x1_land_weight)), (a_x1_aloneYear, .inl (tI, 30, .inl x1_aloneYear))]) (S_X2_firstEaten x2 x1_lives x1_day x1_over o_count o_nameBy o_who x1_lieDay x1_land_year x1_land_men x1_land_forgets x1_knows x1_land_weight x1_aloneYear) := by
  refine CT.intro (k := 0) (Nat.le_of_ble_eq_true rfl) (by decide) ?_
  intro p e s m below meth c Q A ls E hA hP hD hS hl hF
  obtain ⟨⟨hx, hb, hml, hown, hts⟩, hK⟩ := id E
  generalize hR : S_X2_firstEaten x2 x1_lives x1_day x1_over o_count o_nameBy o_who x1_lieDay x1_land_year x1_land_men x1_land_forgets x1_knows x1_land_weight x1_aloneYear = RES at hF
  unfold S_X2_firstEaten at hR
  have hl : lv_has ls 6 [(0, .ref a_o), (1, .ref a_x1), (2, .int (nI x2))] := hl
  refine lv_aload_n hx hb dX2_firstEaten_0 rfl (lv_at hl 1 rfl) ?_
  refine lv_iload_n hx hb dX2_firstEaten_1 rfl (lv_at hl 2 rfl) ?_
  refine kcV E hl.1 (c_X0_toCome l D tB tI tZ a_x1 a_x1_land a_x1_knows a_x1_over a_x1_nameBy a_x1_lieDay a_x1_aloneYear x1_lives x1_day x1_seed x1_over x2 (show x2 < 5 by first | assumption | omega | exact NN.none | exact NN.nat (by omega) (by omega) | exact NN.up (by assumption) (by omega))) cv_X0_toCome wm_X2_34 hP hD hS hA [0, 1] rfl rfl rfl (ws2 := [(a_x1, .inr (0, [.ref a_x1_land, .int x1_lives, .int x1_day, .int x1_seed, .ref a_x1_knows, .ref a_x1_over, .ref a_x1_nameBy, .ref a_x1_lieDay, .ref a_x1_aloneYear])), (a_x1_over, .inl (tI, 5, .inl x1_over)), (a_o, .inr (2, [.int (nI o_count), .ref a_o_who, .ref a_o_nameBy])), (a_o_nameBy, .inl (tI, 6, .inl o_nameBy)), (a_o_who, .inl (tI, 6, .inl o_who)), (a_x1_lieDay, .inl (tI, 30, .inl x1_lieDay)), (a_x1_land, .inr (1, [.int x1_land_year, .int (nI x1_land_bridges), .int (nI x1_land_men), .int (nI x1_land_oxen), .ref a_x1_land_forgets, .ref a_x1_land_weight, .ref a_x1_land_chance, .ref a_x1_land_knowsAtFirst, .ref a_x1_land_oxWeight, .ref a_x1_land_oxPrice])), (a_x1_land_forgets, .inl (tI, 5, .inl x1_land_forgets)), (a_x1_knows, .inl (tI, 6, .inl x1_knows)), (a_x1_land_weight, .inl (tI, 6, .inl x1_land_weight)), (a_x1_aloneYear, .inl (tI, 30, .inl x1_aloneYear))]) rfl rfl (b := a_x1) (As := [.int (nI x2)]) (rest := []) 0 0 rfl rfl rfl rfl (Nat.le_of_ble_eq_true rfl) ⟨Nat.le_of_ble_eq_true rfl, Nat.le_of_ble_eq_true rfl⟩ ⟨Nat.zero_le _, Nat.zero_le _⟩ dX2_firstEaten_2 (fun H locs hP hD hS => ?_)
  refine lv_istore_n (lv' := [(3, .int (S_X0_toCome x2 x1_lives x1_over)), (0, .ref a_o), (1, .ref a_x1), (2, .int (nI x2))]) hx hb dX2_firstEaten_5 rfl hl (by decide) rfl (fun ls hl => ?_)
  refine lv_iconst (v := (0 : Int32)) hx hb dX2_firstEaten_6 (by decide) ?_
  refine lv_istore (lv' := [(4, .int (0 : Int32)), (3, .int (S_X0_toCome x2 x1_lives x1_over)), (0, .ref a_o), (1, .ref a_x1), (2, .int (nI x2))]) hx hb dX2_firstEaten_7 hl (by decide) rfl (fun ls hl => ?_)
  have EX_9 : ∀ (v3_9 : Int32)  (H : Heap) (locs : List Loc) (ls : Array Slot), K_X2_firstEaten_9 v3_9 = RES → va_P D vwCl [(a_x1, .inr (0, [.ref a_x1_land, .int x1_lives, .int x1_day, .int x1_seed, .ref a_x1_knows, .ref a_x1_over, .ref a_x1_nameBy, .ref a_x1_lieDay, .ref a_x1_aloneYear])), (a_x1_over, .inl (tI, 5, .inl x1_over)), (a_o, .inr (2, [.int (nI o_count), .ref a_o_who, .ref a_o_nameBy])), (a_o_nameBy, .inl (tI, 6, .inl o_nameBy)), (a_o_who, .inl (tI, 6, .inl o_who)), (a_x1_lieDay, .inl (tI, 30, .inl x1_lieDay)), (a_x1_land, .inr (1, [.int x1_land_year, .int (nI x1_land_bridges), .int (nI x1_land_men), .int (nI x1_land_oxen), .ref a_x1_land_forgets, .ref a_x1_land_weight, .ref a_x1_land_chance, .ref a_x1_land_knowsAtFirst, .ref a_x1_land_oxWeight, .ref a_x1_land_oxPrice])), (a_x1_land_forgets, .inl (tI, 5, .inl x1_land_forgets)), (a_x1_knows, .inl (tI, 6, .inl x1_knows)), (a_x1_land_weight, .inl (tI, 6, .inl x1_land_weight)), (a_x1_aloneYear, .inl (tI, 30, .inl x1_aloneYear))] H → va_D A [(a_x1, .inr (0, [.ref a_x1_land, .int x1_lives, .int x1_day, .int x1_seed, .ref a_x1_knows, .ref a_x1_over, .ref a_x1_nameBy, .ref a_x1_lieDay, .ref a_x1_aloneYear])), (a_x1_over, .inl (tI, 5, .inl x1_over)), (a_o, .inr (2, [.int (nI o_count), .ref a_o_who, .ref a_o_nameBy])), (a_o_nameBy, .inl (tI, 6, .inl o_nameBy)), (a_o_who, .inl (tI, 6, .inl o_who)), (a_x1_lieDay, .inl (tI, 30, .inl x1_lieDay)), (a_x1_land, .inr (1, [.int x1_land_year, .int (nI x1_land_bridges), .int (nI x1_land_men), .int (nI x1_land_oxen), .ref a_x1_land_forgets, .ref a_x1_land_weight, .ref a_x1_land_chance, .ref a_x1_land_knowsAtFirst, .ref a_x1_land_oxWeight, .ref a_x1_land_oxPrice])), (a_x1_land_forgets, .inl (tI, 5, .inl x1_land_forgets)), (a_x1_knows, .inl (tI, 6, .inl x1_knows)), (a_x1_land_weight, .inl (tI, 6, .inl x1_land_weight)), (a_x1_aloneYear, .inl (tI, 30, .inl x1_aloneYear))] → va_S A s.heap H locs → lv_has ls 6 [] → W p l e { frames := 3, cells := 0, slots := 0, locals := 66 } s m ([.ref a_o, .ref a_x1, .int (nI x2)] : List Value).toArray below meth c H locs 0 0 Q (F0 m 113 ls []) := by
    intro v3_9 H locs ls hR hP hD hS hl
    unfold K_X2_firstEaten_9 at hR
    refine lv_iconst (v := (-1 : Int32)) hx hb dX2_firstEaten_113 (by decide) ?_
    subst hR
    exact (hF _ _ _ _ hP hS).1 _ rfl ⟨.int, rfl, rfl⟩ dX2_firstEaten_114
  have LP_9 : ∀ (n_9 k_9 : Nat) (v3_9 : Int32)  (H : Heap) (locs : List Loc) (ls : Array Slot), k_9 + n_9 = o_count → outE (fun a => K_X2_firstEaten_9 a) (iterE (fun k a => B_X2_firstEaten_9 x2 x1_lives x1_day x1_over o_nameBy o_who x1_lieDay x1_land_year x1_land_men x1_land_forgets x1_knows x1_land_weight x1_aloneYear k a) n_9 k_9 v3_9) = RES → va_P D vwCl [(a_x1, .inr (0, [.ref a_x1_land, .int x1_lives, .int x1_day, .int x1_seed, .ref a_x1_knows, .ref a_x1_over, .ref a_x1_nameBy, .ref a_x1_lieDay, .ref a_x1_aloneYear])), (a_x1_over, .inl (tI, 5, .inl x1_over)), (a_o, .inr (2, [.int (nI o_count), .ref a_o_who, .ref a_o_nameBy])), (a_o_nameBy, .inl (tI, 6, .inl o_nameBy)), (a_o_who, .inl (tI, 6, .inl o_who)), (a_x1_lieDay, .inl (tI, 30, .inl x1_lieDay)), (a_x1_land, .inr (1, [.int x1_land_year, .int (nI x1_land_bridges), .int (nI x1_land_men), .int (nI x1_land_oxen), .ref a_x1_land_forgets, .ref a_x1_land_weight, .ref a_x1_land_chance, .ref a_x1_land_knowsAtFirst, .ref a_x1_land_oxWeight, .ref a_x1_land_oxPrice])), (a_x1_land_forgets, .inl (tI, 5, .inl x1_land_forgets)), (a_x1_knows, .inl (tI, 6, .inl x1_knows)), (a_x1_land_weight, .inl (tI, 6, .inl x1_land_weight)), (a_x1_aloneYear, .inl (tI, 30, .inl x1_aloneYear))] H → va_D A [(a_x1, .inr (0, [.ref a_x1_land, .int x1_lives, .int x1_day, .int x1_seed, .ref a_x1_knows, .ref a_x1_over, .ref a_x1_nameBy, .ref a_x1_lieDay, .ref a_x1_aloneYear])), (a_x1_over, .inl (tI, 5, .inl x1_over)), (a_o, .inr (2, [.int (nI o_count), .ref a_o_who, .ref a_o_nameBy])), (a_o_nameBy, .inl (tI, 6, .inl o_nameBy)), (a_o_who, .inl (tI, 6, .inl o_who)), (a_x1_lieDay, .inl (tI, 30, .inl x1_lieDay)), (a_x1_land, .inr (1, [.int x1_land_year, .int (nI x1_land_bridges), .int (nI x1_land_men), .int (nI x1_land_oxen), .ref a_x1_land_forgets, .ref a_x1_land_weight, .ref a_x1_land_chance, .ref a_x1_land_knowsAtFirst, .ref a_x1_land_oxWeight, .ref a_x1_land_oxPrice])), (a_x1_land_forgets, .inl (tI, 5, .inl x1_land_forgets)), (a_x1_knows, .inl (tI, 6, .inl x1_knows)), (a_x1_land_weight, .inl (tI, 6, .inl x1_land_weight)), (a_x1_aloneYear, .inl (tI, 30, .inl x1_aloneYear))] → va_S A s.heap H locs → lv_has ls 6 [(4, .int (nI k_9)), (3, .int v3_9), (0, .ref a_o), (1, .ref a_x1), (2, .int (nI x2))] → W p l e { frames := 3, cells := 0, slots := 0, locals := 66 } s m ([.ref a_o, .ref a_x1, .int (nI x2)] : List Value).toArray below meth c H locs 0 0 Q (F0 m 9 ls []) := by
    intro n_9
    induction n_9 with
    | zero =>
      intro k_9 v3_9 H locs ls hn_9 hR hP hD hS hl
      refine lv_iload hx hb dX2_firstEaten_9 (lv_at hl 0 rfl) ?_
      refine lv_aload_n hx hb dX2_firstEaten_11 rfl (lv_at hl 2 rfl) ?_
      refine fget E hP 2 rfl fd_X2_9 (v := .int (nI o_count)) rfl dX2_firstEaten_12 ?_
      refine ni_ge (a := k_9) (b := o_count) (tgt := 113) (by omega) (by omega) hx hb dX2_firstEaten_15 (by decide) (fun g_9 => ?_) (fun g_9 => ?_)
      · exact EX_9 v3_9  _ _ _ hR hP hD hS (lv_sub hl [] rfl)
      · exfalso; omega
    | succ n_9 ih_9 =>
      intro k_9 v3_9 H locs ls hn_9 hR hP hD hS hl
      have hR : outE (fun a => K_X2_firstEaten_9 a) (stepE (iterE (fun k a => B_X2_firstEaten_9 x2 x1_lives x1_day x1_over o_nameBy o_who x1_lieDay x1_land_year x1_land_men x1_land_forgets x1_knows x1_land_weight x1_aloneYear k a) n_9 (k_9 + 1)) (B_X2_firstEaten_9 x2 x1_lives x1_day x1_over o_nameBy o_who x1_lieDay x1_land_year x1_land_men x1_land_forgets x1_knows x1_land_weight x1_aloneYear k_9 v3_9)) = RES := hR
      generalize hB_9 : B_X2_firstEaten_9 x2 x1_lives x1_day x1_over o_nameBy o_who x1_lieDay x1_land_year x1_land_men x1_land_forgets x1_knows x1_land_weight x1_aloneYear k_9 v3_9 = RB_9 at hR
      unfold B_X2_firstEaten_9 at hB_9
      refine lv_iload hx hb dX2_firstEaten_9 (lv_at hl 0 rfl) ?_
      refine lv_aload_n hx hb dX2_firstEaten_11 rfl (lv_at hl 2 rfl) ?_
      refine fget E hP 2 rfl fd_X2_9 (v := .int (nI o_count)) rfl dX2_firstEaten_12 ?_
      refine ni_ge (a := k_9) (b := o_count) (tgt := 113) (by omega) (by omega) hx hb dX2_firstEaten_15 (by decide) (fun g_9 => ?_) (fun g_9 => ?_)
      · exfalso; omega
      · obtain ⟨fw1, fw2⟩ := hwho k_9 (by omega)
        refine lv_aload_n hx hb dX2_firstEaten_18 rfl (lv_at hl 2 rfl) ?_
        refine fget E hP 2 rfl fd_X2_19 (v := .ref a_o_nameBy) rfl dX2_firstEaten_19 ?_
        refine lv_iload hx hb dX2_firstEaten_22 (lv_at hl 0 rfl) ?_
        refine ild E hP 3 rfl (k := k_9) (by omega) (by decide) dX2_firstEaten_24 ?_
        refine lv_iconst (v := (-1 : Int32)) hx hb dX2_firstEaten_25 (by decide) ?_
        refine lv_icmp_ne (tgt := 44) hx hb dX2_firstEaten_26 (by decide) (fun c_2 => ?_) (fun c_2 => ?_)
        · rw [if_neg c_2] at hB_9
          refine lv_aload_n hx hb dX2_firstEaten_44 rfl (lv_at hl 3 rfl) ?_
          refine lv_iload_n hx hb dX2_firstEaten_45 rfl (lv_at hl 4 rfl) ?_
          refine lv_aload_n hx hb dX2_firstEaten_46 rfl (lv_at hl 2 rfl) ?_
          refine fget E hP 2 rfl fd_X2_15 (v := .ref a_o_who) rfl dX2_firstEaten_47 ?_
          refine lv_iload hx hb dX2_firstEaten_50 (lv_at hl 0 rfl) ?_
          refine ild E hP 4 rfl (k := k_9) (by omega) (by decide) dX2_firstEaten_52 ?_
          refine lv_is fw1 ?_
          refine kcV E hl.1 (c_X0_helpers l D tB tI tZ a_x1 a_x1_land a_x1_knows a_x1_over a_x1_nameBy a_x1_lieDay a_x1_aloneYear a_x1_land_forgets a_x1_land_weight a_x1_land_chance a_x1_land_knowsAtFirst a_x1_land_oxWeight a_x1_land_oxPrice x1_lives x1_day x1_seed x1_lieDay x1_land_year x1_land_bridges x1_land_men x1_land_oxen x1_land_forgets x1_knows x1_land_weight x1_over x2 ((o_who k_9).toNatClampNeg) (show x2 < 5 by first | assumption | omega | exact NN.none | exact NN.nat (by omega) (by omega) | exact NN.up (by assumption) (by omega)) (show ((o_who k_9).toNatClampNeg) < 6 by first | assumption | omega | exact NN.none | exact NN.nat (by omega) (by omega) | exact NN.up (by assumption) (by omega)) (show x1_land_men ≤ 6 by first | assumption | omega | exact NN.none | exact NN.nat (by omega) (by omega) | exact NN.up (by assumption) (by omega))) cv_X0_helpers wm_X2_43 hP hD hS hA [0, 5, 6, 7, 8, 9, 1] rfl rfl rfl (ws2 := [(a_x1, .inr (0, [.ref a_x1_land, .int x1_lives, .int x1_day, .int x1_seed, .ref a_x1_knows, .ref a_x1_over, .ref a_x1_nameBy, .ref a_x1_lieDay, .ref a_x1_aloneYear])), (a_x1_over, .inl (tI, 5, .inl x1_over)), (a_o, .inr (2, [.int (nI o_count), .ref a_o_who, .ref a_o_nameBy])), (a_o_nameBy, .inl (tI, 6, .inl o_nameBy)), (a_o_who, .inl (tI, 6, .inl o_who)), (a_x1_lieDay, .inl (tI, 30, .inl x1_lieDay)), (a_x1_land, .inr (1, [.int x1_land_year, .int (nI x1_land_bridges), .int (nI x1_land_men), .int (nI x1_land_oxen), .ref a_x1_land_forgets, .ref a_x1_land_weight, .ref a_x1_land_chance, .ref a_x1_land_knowsAtFirst, .ref a_x1_land_oxWeight, .ref a_x1_land_oxPrice])), (a_x1_land_forgets, .inl (tI, 5, .inl x1_land_forgets)), (a_x1_knows, .inl (tI, 6, .inl x1_knows)), (a_x1_land_weight, .inl (tI, 6, .inl x1_land_weight)), (a_x1_aloneYear, .inl (tI, 30, .inl x1_aloneYear))]) rfl rfl (b := a_x1) (As := [.int (nI x2), .int (nI ((o_who k_9).toNatClampNeg))]) (rest := []) 0 0 rfl rfl rfl rfl (Nat.le_of_ble_eq_true rfl) ⟨Nat.le_of_ble_eq_true rfl, Nat.le_of_ble_eq_true rfl⟩ ⟨Nat.zero_le _, Nat.zero_le _⟩ dX2_firstEaten_53 (fun H locs hP hD hS => ?_)
          refine lv_iload_n hx hb dX2_firstEaten_56 rfl (lv_at hl 1 rfl) ?_
          refine lv_iand hx hb dX2_firstEaten_57 ?_
          refine lv_aload_n hx hb dX2_firstEaten_58 rfl (lv_at hl 2 rfl) ?_
          refine fget E hP 2 rfl fd_X2_19 (v := .ref a_o_nameBy) rfl dX2_firstEaten_59 ?_
          refine lv_iload hx hb dX2_firstEaten_62 (lv_at hl 0 rfl) ?_
          refine ild E hP 3 rfl (k := k_9) (by omega) (by decide) dX2_firstEaten_64 ?_
          refine kcSN E hl.1 (c_X6_has l D tB tI tZ ((S_X0_helpers x2 ((o_who k_9).toNatClampNeg) x1_lives x1_day x1_lieDay x1_land_men x1_land_forgets x1_knows x1_land_weight x1_over) &&& v3_9) (o_nameBy k_9) ) cs_X6_has 14 rfl hP hD hS hA [] rfl rfl rfl (ws2 := [(a_x1, .inr (0, [.ref a_x1_land, .int x1_lives, .int x1_day, .int x1_seed, .ref a_x1_knows, .ref a_x1_over, .ref a_x1_nameBy, .ref a_x1_lieDay, .ref a_x1_aloneYear])), (a_x1_over, .inl (tI, 5, .inl x1_over)), (a_o, .inr (2, [.int (nI o_count), .ref a_o_who, .ref a_o_nameBy])), (a_o_nameBy, .inl (tI, 6, .inl o_nameBy)), (a_o_who, .inl (tI, 6, .inl o_who)), (a_x1_lieDay, .inl (tI, 30, .inl x1_lieDay)), (a_x1_land, .inr (1, [.int x1_land_year, .int (nI x1_land_bridges), .int (nI x1_land_men), .int (nI x1_land_oxen), .ref a_x1_land_forgets, .ref a_x1_land_weight, .ref a_x1_land_chance, .ref a_x1_land_knowsAtFirst, .ref a_x1_land_oxWeight, .ref a_x1_land_oxPrice])), (a_x1_land_forgets, .inl (tI, 5, .inl x1_land_forgets)), (a_x1_knows, .inl (tI, 6, .inl x1_knows)), (a_x1_land_weight, .inl (tI, 6, .inl x1_land_weight)), (a_x1_aloneYear, .inl (tI, 30, .inl x1_aloneYear))]) rfl rfl (As := [.int ((S_X0_helpers x2 ((o_who k_9).toNatClampNeg) x1_lives x1_day x1_lieDay x1_land_men x1_land_forgets x1_knows x1_land_weight x1_over) &&& v3_9), .int (o_nameBy k_9)]) (rest := []) rfl rfl (Nat.le_of_ble_eq_true rfl) ⟨Nat.le_of_ble_eq_true rfl, Nat.le_of_ble_eq_true rfl⟩ ⟨Nat.zero_le _, Nat.zero_le _⟩ dX2_firstEaten_65 (fun H locs hP hD hS => ?_)
          refine lv_istore (lv' := [(5, .int (S_X6_has ((S_X0_helpers x2 ((o_who k_9).toNatClampNeg) x1_lives x1_day x1_lieDay x1_land_men x1_land_forgets x1_knows x1_land_weight x1_over) &&& v3_9) (o_nameBy k_9))), (4, .int (nI k_9)), (3, .int v3_9), (0, .ref a_o), (1, .ref a_x1), (2, .int (nI x2))]) hx hb dX2_firstEaten_68 hl (by decide) rfl (fun ls hl => ?_)
          refine lv_iload_n hx hb dX2_firstEaten_70 rfl (lv_at hl 2 rfl) ?_
          refine lv_aload_n hx hb dX2_firstEaten_71 rfl (lv_at hl 3 rfl) ?_
          refine fget E hP 2 rfl fd_X2_15 (v := .ref a_o_who) rfl dX2_firstEaten_72 ?_
          refine lv_iload hx hb dX2_firstEaten_75 (lv_at hl 1 rfl) ?_
          refine ild E hP 4 rfl (k := k_9) (by omega) (by decide) dX2_firstEaten_77 ?_
          refine lv_is fw1 ?_
          refine kcSN E hl.1 (c_X6_has l D tB tI tZ v3_9 (nI ((o_who k_9).toNatClampNeg)) ) cs_X6_has 14 rfl hP hD hS hA [] rfl rfl rfl (ws2 := [(a_x1, .inr (0, [.ref a_x1_land, .int x1_lives, .int x1_day, .int x1_seed, .ref a_x1_knows, .ref a_x1_over, .ref a_x1_nameBy, .ref a_x1_lieDay, .ref a_x1_aloneYear])), (a_x1_over, .inl (tI, 5, .inl x1_over)), (a_o, .inr (2, [.int (nI o_count), .ref a_o_who, .ref a_o_nameBy])), (a_o_nameBy, .inl (tI, 6, .inl o_nameBy)), (a_o_who, .inl (tI, 6, .inl o_who)), (a_x1_lieDay, .inl (tI, 30, .inl x1_lieDay)), (a_x1_land, .inr (1, [.int x1_land_year, .int (nI x1_land_bridges), .int (nI x1_land_men), .int (nI x1_land_oxen), .ref a_x1_land_forgets, .ref a_x1_land_weight, .ref a_x1_land_chance, .ref a_x1_land_knowsAtFirst, .ref a_x1_land_oxWeight, .ref a_x1_land_oxPrice])), (a_x1_land_forgets, .inl (tI, 5, .inl x1_land_forgets)), (a_x1_knows, .inl (tI, 6, .inl x1_knows)), (a_x1_land_weight, .inl (tI, 6, .inl x1_land_weight)), (a_x1_aloneYear, .inl (tI, 30, .inl x1_aloneYear))]) rfl rfl (As := [.int v3_9, .int (nI ((o_who k_9).toNatClampNeg))]) (rest := []) rfl rfl (Nat.le_of_ble_eq_true rfl) ⟨Nat.le_of_ble_eq_true rfl, Nat.le_of_ble_eq_true rfl⟩ ⟨Nat.zero_le _, Nat.zero_le _⟩ dX2_firstEaten_78 (fun H locs hP hD hS => ?_)
          refine lv_if_eq (tgt := 89) hx hb dX2_firstEaten_81 (by decide) (fun c_3 => ?_) (fun c_3 => ?_)
          · rw [if_pos c_3] at hB_9
            refine lv_iload hx hb dX2_firstEaten_89 (lv_at hl 1 rfl) ?_
            subst hB_9
            have hR : (nI k_9) = RES := hR
            subst hR
            exact (hF _ _ _ _ hP hS).1 _ rfl ⟨.int, rfl, rfl⟩ dX2_firstEaten_91
          · rw [if_neg c_3] at hB_9
            refine lv_iload hx hb dX2_firstEaten_84 (lv_at hl 0 rfl) ?_
            refine lv_if_ne (tgt := 92) hx hb dX2_firstEaten_86 (by decide) (fun c_4 => ?_) (fun c_4 => ?_)
            · rw [if_neg c_4] at hB_9
              refine lv_iload_n hx hb dX2_firstEaten_92 rfl (lv_at hl 2 rfl) ?_
              refine lv_aload_n hx hb dX2_firstEaten_93 rfl (lv_at hl 3 rfl) ?_
              refine fget E hP 2 rfl fd_X2_15 (v := .ref a_o_who) rfl dX2_firstEaten_94 ?_
              refine lv_iload hx hb dX2_firstEaten_97 (lv_at hl 1 rfl) ?_
              refine ild E hP 4 rfl (k := k_9) (by omega) (by decide) dX2_firstEaten_99 ?_
              refine lv_is fw1 ?_
              refine kcSN E hl.1 (c_X6_bit l D tB tI tZ (nI ((o_who k_9).toNatClampNeg)) ) cs_X6_bit 13 rfl hP hD hS hA [] rfl rfl rfl (ws2 := [(a_x1, .inr (0, [.ref a_x1_land, .int x1_lives, .int x1_day, .int x1_seed, .ref a_x1_knows, .ref a_x1_over, .ref a_x1_nameBy, .ref a_x1_lieDay, .ref a_x1_aloneYear])), (a_x1_over, .inl (tI, 5, .inl x1_over)), (a_o, .inr (2, [.int (nI o_count), .ref a_o_who, .ref a_o_nameBy])), (a_o_nameBy, .inl (tI, 6, .inl o_nameBy)), (a_o_who, .inl (tI, 6, .inl o_who)), (a_x1_lieDay, .inl (tI, 30, .inl x1_lieDay)), (a_x1_land, .inr (1, [.int x1_land_year, .int (nI x1_land_bridges), .int (nI x1_land_men), .int (nI x1_land_oxen), .ref a_x1_land_forgets, .ref a_x1_land_weight, .ref a_x1_land_chance, .ref a_x1_land_knowsAtFirst, .ref a_x1_land_oxWeight, .ref a_x1_land_oxPrice])), (a_x1_land_forgets, .inl (tI, 5, .inl x1_land_forgets)), (a_x1_knows, .inl (tI, 6, .inl x1_knows)), (a_x1_land_weight, .inl (tI, 6, .inl x1_land_weight)), (a_x1_aloneYear, .inl (tI, 30, .inl x1_aloneYear))]) rfl rfl (As := [.int (nI ((o_who k_9).toNatClampNeg))]) (rest := [.int v3_9]) rfl rfl (Nat.le_of_ble_eq_true rfl) ⟨Nat.le_of_ble_eq_true rfl, Nat.le_of_ble_eq_true rfl⟩ ⟨Nat.zero_le _, Nat.zero_le _⟩ dX2_firstEaten_100 (fun H locs hP hD hS => ?_)
              refine lv_iconst (v := (-1 : Int32)) hx hb dX2_firstEaten_103 (by decide) ?_
              refine lv_ixor hx hb dX2_firstEaten_104 ?_
              refine lv_iand hx hb dX2_firstEaten_105 ?_
              refine lv_istore_n (lv' := [(3, .int (v3_9 &&& ((S_X6_bit (nI ((o_who k_9).toNatClampNeg))) ^^^ (-1 : Int32)))), (5, .int (S_X6_has ((S_X0_helpers x2 ((o_who k_9).toNatClampNeg) x1_lives x1_day x1_lieDay x1_land_men x1_land_forgets x1_knows x1_land_weight x1_over) &&& v3_9) (o_nameBy k_9))), (4, .int (nI k_9)), (0, .ref a_o), (1, .ref a_x1), (2, .int (nI x2))]) hx hb dX2_firstEaten_106 rfl hl (by decide) rfl (fun ls hl => ?_)
              refine lv_iinc (v := (nI (k_9 + 1))) (lv' := [(4, .int (nI (k_9 + 1))), (3, .int (v3_9 &&& ((S_X6_bit (nI ((o_who k_9).toNatClampNeg))) ^^^ (-1 : Int32)))), (5, .int (S_X6_has ((S_X0_helpers x2 ((o_who k_9).toNatClampNeg) x1_lives x1_day x1_lieDay x1_land_men x1_land_forgets x1_knows x1_land_weight x1_over) &&& v3_9) (o_nameBy k_9))), (0, .ref a_o), (1, .ref a_x1), (2, .int (nI x2))]) hx hb dX2_firstEaten_107 hl (k := 2) rfl (nI_i1 k_9) (by decide) rfl (fun ls hl => ?_)
              refine lv_goto (tgt := 9) hx hb dX2_firstEaten_110 (by decide) ?_
              subst hB_9
              exact ih_9 (k_9 + 1) (v3_9 &&& ((S_X6_bit (nI ((o_who k_9).toNatClampNeg))) ^^^ (-1 : Int32)))  _ _ _ (by omega) hR hP hD hS (lv_sub hl [0, 1, 3, 4, 5] rfl)
            · rw [if_pos c_4] at hB_9
              refine lv_iload hx hb dX2_firstEaten_89 (lv_at hl 1 rfl) ?_
              subst hB_9
              have hR : (nI k_9) = RES := hR
              subst hR
              exact (hF _ _ _ _ hP hS).1 _ rfl ⟨.int, rfl, rfl⟩ dX2_firstEaten_91
        · rw [if_pos c_2] at hB_9
          refine lv_aload_n hx hb dX2_firstEaten_29 rfl (lv_at hl 3 rfl) ?_
          refine lv_iload_n hx hb dX2_firstEaten_30 rfl (lv_at hl 4 rfl) ?_
          refine lv_aload_n hx hb dX2_firstEaten_31 rfl (lv_at hl 2 rfl) ?_
          refine fget E hP 2 rfl fd_X2_15 (v := .ref a_o_who) rfl dX2_firstEaten_32 ?_
          refine lv_iload hx hb dX2_firstEaten_35 (lv_at hl 0 rfl) ?_
          refine ild E hP 4 rfl (k := k_9) (by omega) (by decide) dX2_firstEaten_37 ?_
          refine lv_is fw1 ?_
          refine kcV E hl.1 (c_X0_goesAlone l D tB tI tZ a_x1 a_x1_land a_x1_knows a_x1_over a_x1_nameBy a_x1_lieDay a_x1_aloneYear a_x1_land_forgets a_x1_land_weight a_x1_land_chance a_x1_land_knowsAtFirst a_x1_land_oxWeight a_x1_land_oxPrice x1_lives x1_day x1_seed x1_land_year x1_land_bridges x1_land_men x1_land_oxen x1_land_weight x1_aloneYear x2 ((o_who k_9).toNatClampNeg) (show x2 < 5 by first | assumption | omega | exact NN.none | exact NN.nat (by omega) (by omega) | exact NN.up (by assumption) (by omega)) (show ((o_who k_9).toNatClampNeg) < 6 by first | assumption | omega | exact NN.none | exact NN.nat (by omega) (by omega) | exact NN.up (by assumption) (by omega)) (show x1_land_men ≤ 6 by first | assumption | omega | exact NN.none | exact NN.nat (by omega) (by omega) | exact NN.up (by assumption) (by omega))) cv_X0_goesAlone wm_X2_39 hP hD hS hA [0, 6, 9, 10] rfl rfl rfl (ws2 := [(a_x1, .inr (0, [.ref a_x1_land, .int x1_lives, .int x1_day, .int x1_seed, .ref a_x1_knows, .ref a_x1_over, .ref a_x1_nameBy, .ref a_x1_lieDay, .ref a_x1_aloneYear])), (a_x1_over, .inl (tI, 5, .inl x1_over)), (a_o, .inr (2, [.int (nI o_count), .ref a_o_who, .ref a_o_nameBy])), (a_o_nameBy, .inl (tI, 6, .inl o_nameBy)), (a_o_who, .inl (tI, 6, .inl o_who)), (a_x1_lieDay, .inl (tI, 30, .inl x1_lieDay)), (a_x1_land, .inr (1, [.int x1_land_year, .int (nI x1_land_bridges), .int (nI x1_land_men), .int (nI x1_land_oxen), .ref a_x1_land_forgets, .ref a_x1_land_weight, .ref a_x1_land_chance, .ref a_x1_land_knowsAtFirst, .ref a_x1_land_oxWeight, .ref a_x1_land_oxPrice])), (a_x1_land_forgets, .inl (tI, 5, .inl x1_land_forgets)), (a_x1_knows, .inl (tI, 6, .inl x1_knows)), (a_x1_land_weight, .inl (tI, 6, .inl x1_land_weight)), (a_x1_aloneYear, .inl (tI, 30, .inl x1_aloneYear))]) rfl rfl (b := a_x1) (As := [.int (nI x2), .int (nI ((o_who k_9).toNatClampNeg))]) (rest := []) 0 0 rfl rfl rfl rfl (Nat.le_of_ble_eq_true rfl) ⟨Nat.le_of_ble_eq_true rfl, Nat.le_of_ble_eq_true rfl⟩ ⟨Nat.zero_le _, Nat.zero_le _⟩ dX2_firstEaten_38 (fun H locs hP hD hS => ?_)
          refine lv_goto (tgt := 68) hx hb dX2_firstEaten_41 (by decide) ?_
          refine lv_istore (lv' := [(5, .int (S_X0_goesAlone x2 ((o_who k_9).toNatClampNeg) x1_land_weight x1_land_year x1_land_men x1_lives x1_day x1_aloneYear)), (4, .int (nI k_9)), (3, .int v3_9), (0, .ref a_o), (1, .ref a_x1), (2, .int (nI x2))]) hx hb dX2_firstEaten_68 hl (by decide) rfl (fun ls hl => ?_)
          refine lv_iload_n hx hb dX2_firstEaten_70 rfl (lv_at hl 2 rfl) ?_
          refine lv_aload_n hx hb dX2_firstEaten_71 rfl (lv_at hl 3 rfl) ?_
          refine fget E hP 2 rfl fd_X2_15 (v := .ref a_o_who) rfl dX2_firstEaten_72 ?_
          refine lv_iload hx hb dX2_firstEaten_75 (lv_at hl 1 rfl) ?_
          refine ild E hP 4 rfl (k := k_9) (by omega) (by decide) dX2_firstEaten_77 ?_
          refine lv_is fw1 ?_
          refine kcSN E hl.1 (c_X6_has l D tB tI tZ v3_9 (nI ((o_who k_9).toNatClampNeg)) ) cs_X6_has 14 rfl hP hD hS hA [] rfl rfl rfl (ws2 := [(a_x1, .inr (0, [.ref a_x1_land, .int x1_lives, .int x1_day, .int x1_seed, .ref a_x1_knows, .ref a_x1_over, .ref a_x1_nameBy, .ref a_x1_lieDay, .ref a_x1_aloneYear])), (a_x1_over, .inl (tI, 5, .inl x1_over)), (a_o, .inr (2, [.int (nI o_count), .ref a_o_who, .ref a_o_nameBy])), (a_o_nameBy, .inl (tI, 6, .inl o_nameBy)), (a_o_who, .inl (tI, 6, .inl o_who)), (a_x1_lieDay, .inl (tI, 30, .inl x1_lieDay)), (a_x1_land, .inr (1, [.int x1_land_year, .int (nI x1_land_bridges), .int (nI x1_land_men), .int (nI x1_land_oxen), .ref a_x1_land_forgets, .ref a_x1_land_weight, .ref a_x1_land_chance, .ref a_x1_land_knowsAtFirst, .ref a_x1_land_oxWeight, .ref a_x1_land_oxPrice])), (a_x1_land_forgets, .inl (tI, 5, .inl x1_land_forgets)), (a_x1_knows, .inl (tI, 6, .inl x1_knows)), (a_x1_land_weight, .inl (tI, 6, .inl x1_land_weight)), (a_x1_aloneYear, .inl (tI, 30, .inl x1_aloneYear))]) rfl rfl (As := [.int v3_9, .int (nI ((o_who k_9).toNatClampNeg))]) (rest := []) rfl rfl (Nat.le_of_ble_eq_true rfl) ⟨Nat.le_of_ble_eq_true rfl, Nat.le_of_ble_eq_true rfl⟩ ⟨Nat.zero_le _, Nat.zero_le _⟩ dX2_firstEaten_78 (fun H locs hP hD hS => ?_)
          refine lv_if_eq (tgt := 89) hx hb dX2_firstEaten_81 (by decide) (fun c_5 => ?_) (fun c_5 => ?_)
          · rw [if_pos c_5] at hB_9
            refine lv_iload hx hb dX2_firstEaten_89 (lv_at hl 1 rfl) ?_
            subst hB_9
            have hR : (nI k_9) = RES := hR
            subst hR
            exact (hF _ _ _ _ hP hS).1 _ rfl ⟨.int, rfl, rfl⟩ dX2_firstEaten_91
          · rw [if_neg c_5] at hB_9
            refine lv_iload hx hb dX2_firstEaten_84 (lv_at hl 0 rfl) ?_
            refine lv_if_ne (tgt := 92) hx hb dX2_firstEaten_86 (by decide) (fun c_6 => ?_) (fun c_6 => ?_)
            · rw [if_neg c_6] at hB_9
              refine lv_iload_n hx hb dX2_firstEaten_92 rfl (lv_at hl 2 rfl) ?_
              refine lv_aload_n hx hb dX2_firstEaten_93 rfl (lv_at hl 3 rfl) ?_
              refine fget E hP 2 rfl fd_X2_15 (v := .ref a_o_who) rfl dX2_firstEaten_94 ?_
              refine lv_iload hx hb dX2_firstEaten_97 (lv_at hl 1 rfl) ?_
              refine ild E hP 4 rfl (k := k_9) (by omega) (by decide) dX2_firstEaten_99 ?_
              refine lv_is fw1 ?_
              refine kcSN E hl.1 (c_X6_bit l D tB tI tZ (nI ((o_who k_9).toNatClampNeg)) ) cs_X6_bit 13 rfl hP hD hS hA [] rfl rfl rfl (ws2 := [(a_x1, .inr (0, [.ref a_x1_land, .int x1_lives, .int x1_day, .int x1_seed, .ref a_x1_knows, .ref a_x1_over, .ref a_x1_nameBy, .ref a_x1_lieDay, .ref a_x1_aloneYear])), (a_x1_over, .inl (tI, 5, .inl x1_over)), (a_o, .inr (2, [.int (nI o_count), .ref a_o_who, .ref a_o_nameBy])), (a_o_nameBy, .inl (tI, 6, .inl o_nameBy)), (a_o_who, .inl (tI, 6, .inl o_who)), (a_x1_lieDay, .inl (tI, 30, .inl x1_lieDay)), (a_x1_land, .inr (1, [.int x1_land_year, .int (nI x1_land_bridges), .int (nI x1_land_men), .int (nI x1_land_oxen), .ref a_x1_land_forgets, .ref a_x1_land_weight, .ref a_x1_land_chance, .ref a_x1_land_knowsAtFirst, .ref a_x1_land_oxWeight, .ref a_x1_land_oxPrice])), (a_x1_land_forgets, .inl (tI, 5, .inl x1_land_forgets)), (a_x1_knows, .inl (tI, 6, .inl x1_knows)), (a_x1_land_weight, .inl (tI, 6, .inl x1_land_weight)), (a_x1_aloneYear, .inl (tI, 30, .inl x1_aloneYear))]) rfl rfl (As := [.int (nI ((o_who k_9).toNatClampNeg))]) (rest := [.int v3_9]) rfl rfl (Nat.le_of_ble_eq_true rfl) ⟨Nat.le_of_ble_eq_true rfl, Nat.le_of_ble_eq_true rfl⟩ ⟨Nat.zero_le _, Nat.zero_le _⟩ dX2_firstEaten_100 (fun H locs hP hD hS => ?_)
              refine lv_iconst (v := (-1 : Int32)) hx hb dX2_firstEaten_103 (by decide) ?_
              refine lv_ixor hx hb dX2_firstEaten_104 ?_
              refine lv_iand hx hb dX2_firstEaten_105 ?_
              refine lv_istore_n (lv' := [(3, .int (v3_9 &&& ((S_X6_bit (nI ((o_who k_9).toNatClampNeg))) ^^^ (-1 : Int32)))), (5, .int (S_X0_goesAlone x2 ((o_who k_9).toNatClampNeg) x1_land_weight x1_land_year x1_land_men x1_lives x1_day x1_aloneYear)), (4, .int (nI k_9)), (0, .ref a_o), (1, .ref a_x1), (2, .int (nI x2))]) hx hb dX2_firstEaten_106 rfl hl (by decide) rfl (fun ls hl => ?_)
              refine lv_iinc (v := (nI (k_9 + 1))) (lv' := [(4, .int (nI (k_9 + 1))), (3, .int (v3_9 &&& ((S_X6_bit (nI ((o_who k_9).toNatClampNeg))) ^^^ (-1 : Int32)))), (5, .int (S_X0_goesAlone x2 ((o_who k_9).toNatClampNeg) x1_land_weight x1_land_year x1_land_men x1_lives x1_day x1_aloneYear)), (0, .ref a_o), (1, .ref a_x1), (2, .int (nI x2))]) hx hb dX2_firstEaten_107 hl (k := 2) rfl (nI_i1 k_9) (by decide) rfl (fun ls hl => ?_)
              refine lv_goto (tgt := 9) hx hb dX2_firstEaten_110 (by decide) ?_
              subst hB_9
              exact ih_9 (k_9 + 1) (v3_9 &&& ((S_X6_bit (nI ((o_who k_9).toNatClampNeg))) ^^^ (-1 : Int32)))  _ _ _ (by omega) hR hP hD hS (lv_sub hl [0, 1, 3, 4, 5] rfl)
            · rw [if_pos c_6] at hB_9
              refine lv_iload hx hb dX2_firstEaten_89 (lv_at hl 1 rfl) ?_
              subst hB_9
              have hR : (nI k_9) = RES := hR
              subst hR
              exact (hF _ _ _ _ hP hS).1 _ rfl ⟨.int, rfl, rfl⟩ dX2_firstEaten_91
  exact LP_9 o_count 0 (S_X0_toCome x2 x1_lives x1_over)  _ _ _ (by omega) hR hP hD hS (lv_sub hl [0, 1, 2, 3, 4] rfl)

def K_X2_firstLiar_11  (v1_11 : Int32) (v2_11 : Int32) : Int32 := v2_11
def B_X2_firstLiar_11 (o_nameBy : Nat → Int32) (o_who : Nat → Int32) (k_11 : Nat) (v1_11 : Int32) (v2_11 : Int32) : Int32 × Int32 := (if (o_nameBy k_11) = (-1 : Int32) then ((v1_11 ||| (S_X6_bit (o_who k_11))), v2_11) else (if (S_X6_has v1_11 (o_nameBy k_11)) = 0 then ((v1_11 ||| (S_X6_bit (o_who k_11))), (nI k_11)) else ((v1_11 ||| (S_X6_bit (o_who k_11))), v2_11)))
def S_X2_firstLiar (o_count : Nat) (o_nameBy : Nat → Int32) (o_who : Nat → Int32) : Int32 := ((fun a => K_X2_firstLiar_11 a.1 a.2) (iterD (fun k a => B_X2_firstLiar_11 o_nameBy o_who k a.1 a.2) o_count ((0 : Int32), (-1 : Int32))))
set_option maxHeartbeats 4000000 in
set_option maxRecDepth 100000 in
theorem c_X2_firstLiar (l : Launch) (D : va_G) (tB tI tZ : ClassId) (a_o a_o_who a_o_nameBy : Nat) (o_count : Nat) (o_nameBy : Nat → Int32) (o_who : Nat → Int32)  (hc : o_count ≤ 6) : CT l D (tyL tB tI tZ) yX2_firstLiar (.code yX2_firstLiar cX2_firstLiar 4 (some .int)) 2 41 [.ref a_o] [(a_o, .inr (2, [.int (nI o_count), .ref a_o_who, .ref a_o_nameBy])), (a_o_nameBy, .inl (tI, 6, .inl o_nameBy)), (a_o_who, .inl (tI, 6, .inl o_who))] (fun u : Int32 => some (.int (u))) (fun _ : Int32 => [(a_o, .inr (2, [.int (nI o_count), .ref a_o_who, .ref a_o_nameBy])), (a_o_nameBy, .inl (tI, 6, .inl o_nameBy)), (a_o_who, .inl (tI, 6, .inl o_who))]) (S_X2_firstLiar o_count o_nameBy o_who) := by
  refine CT.intro (k := 0) (Nat.le_of_ble_eq_true rfl) (by decide) ?_
  intro p e s m below meth c Q A ls E hA hP hD hS hl hF
  obtain ⟨⟨hx, hb, hml, hown, hts⟩, hK⟩ := id E
  generalize hR : S_X2_firstLiar o_count o_nameBy o_who = RES at hF
  unfold S_X2_firstLiar at hR
  have hl : lv_has ls 4 [(0, .ref a_o)] := hl
  refine lv_iconst (v := (0 : Int32)) hx hb dX2_firstLiar_0 (by decide) ?_
  refine lv_istore_n (lv' := [(1, .int (0 : Int32)), (0, .ref a_o)]) hx hb dX2_firstLiar_1 rfl hl (by decide) rfl (fun ls hl => ?_)
  refine lv_iconst (v := (-1 : Int32)) hx hb dX2_firstLiar_2 (by decide) ?_
  refine lv_istore_n (lv' := [(2, .int (-1 : Int32)), (1, .int (0 : Int32)), (0, .ref a_o)]) hx hb dX2_firstLiar_3 rfl hl (by decide) rfl (fun ls hl => ?_)
  refine lv_aload_n hx hb dX2_firstLiar_4 rfl (lv_at hl 2 rfl) ?_
  refine fget E hP 0 rfl fd_X2_9 (v := .int (nI o_count)) rfl dX2_firstLiar_5 ?_
  refine lv_iconst (v := (1 : Int32)) hx hb dX2_firstLiar_8 (by decide) ?_
  refine lv_isub hx hb dX2_firstLiar_9 ?_
  refine lv_is (dv_of o_count) ?_
  refine lv_istore_n (lv' := [(3, .int (dv o_count)), (2, .int (-1 : Int32)), (1, .int (0 : Int32)), (0, .ref a_o)]) hx hb dX2_firstLiar_10 rfl hl (by decide) rfl (fun ls hl => ?_)
  have EX_11 : ∀ (v1_11 : Int32) (v2_11 : Int32)  (H : Heap) (locs : List Loc) (ls : Array Slot), K_X2_firstLiar_11 v1_11 v2_11 = RES → va_P D vwCl [(a_o, .inr (2, [.int (nI o_count), .ref a_o_who, .ref a_o_nameBy])), (a_o_nameBy, .inl (tI, 6, .inl o_nameBy)), (a_o_who, .inl (tI, 6, .inl o_who))] H → va_D A [(a_o, .inr (2, [.int (nI o_count), .ref a_o_who, .ref a_o_nameBy])), (a_o_nameBy, .inl (tI, 6, .inl o_nameBy)), (a_o_who, .inl (tI, 6, .inl o_who))] → va_S A s.heap H locs → lv_has ls 4 [(2, .int v2_11)] → W p l e { frames := 2, cells := 0, slots := 0, locals := 41 } s m ([.ref a_o] : List Value).toArray below meth c H locs 0 0 Q (F0 m 58 ls []) := by
    intro v1_11 v2_11 H locs ls hR hP hD hS hl
    unfold K_X2_firstLiar_11 at hR
    refine lv_iload_n hx hb dX2_firstLiar_58 rfl (lv_at hl 0 rfl) ?_
    subst hR
    exact (hF _ _ _ _ hP hS).1 _ rfl ⟨.int, rfl, rfl⟩ dX2_firstLiar_59
  have LP_11 : ∀ (k_11 : Nat) (v1_11 : Int32) (v2_11 : Int32)  (H : Heap) (locs : List Loc) (ls : Array Slot), k_11 ≤ o_count → (fun a => K_X2_firstLiar_11 a.1 a.2) (iterD (fun k a => B_X2_firstLiar_11 o_nameBy o_who k a.1 a.2) k_11 (v1_11, v2_11)) = RES → va_P D vwCl [(a_o, .inr (2, [.int (nI o_count), .ref a_o_who, .ref a_o_nameBy])), (a_o_nameBy, .inl (tI, 6, .inl o_nameBy)), (a_o_who, .inl (tI, 6, .inl o_who))] H → va_D A [(a_o, .inr (2, [.int (nI o_count), .ref a_o_who, .ref a_o_nameBy])), (a_o_nameBy, .inl (tI, 6, .inl o_nameBy)), (a_o_who, .inl (tI, 6, .inl o_who))] → va_S A s.heap H locs → lv_has ls 4 [(3, .int (dv k_11)), (2, .int v2_11), (1, .int v1_11), (0, .ref a_o)] → W p l e { frames := 2, cells := 0, slots := 0, locals := 41 } s m ([.ref a_o] : List Value).toArray below meth c H locs 0 0 Q (F0 m 11 ls []) := by
    intro k_11
    induction k_11 with
    | zero =>
      intro v1_11 v2_11 H locs ls hn_11 hR hP hD hS hl
      refine lv_iload_n hx hb dX2_firstLiar_11 rfl (lv_at hl 0 rfl) ?_
      refine lv_if_lt (tgt := 58) hx hb dX2_firstLiar_12 (by decide) (fun g_11 => ?_) (fun g_11 => ?_)
      · exact EX_11 v1_11 v2_11  _ _ _ hR hP hD hS (lv_sub hl [1] rfl)
      · exact absurd dv_neg g_11
    | succ k_11 ih_11 =>
      intro v1_11 v2_11 H locs ls hn_11 hR hP hD hS hl
      have hl : lv_has ls 4 [(3, .int (nI k_11)), (2, .int v2_11), (1, .int v1_11), (0, .ref a_o)] := hl
      have hR : (fun a => K_X2_firstLiar_11 a.1 a.2) (iterD (fun k a => B_X2_firstLiar_11 o_nameBy o_who k a.1 a.2) k_11 (B_X2_firstLiar_11 o_nameBy o_who k_11 v1_11 v2_11)) = RES := hR
      generalize hB_11 : B_X2_firstLiar_11 o_nameBy o_who k_11 v1_11 v2_11 = RB_11 at hR
      unfold B_X2_firstLiar_11 at hB_11
      refine lv_iload_n hx hb dX2_firstLiar_11 rfl (lv_at hl 0 rfl) ?_
      refine nz_lt (a := k_11) (tgt := 58) (by omega) hx hb dX2_firstLiar_12 (by decide) ?_
      refine lv_aload_n hx hb dX2_firstLiar_15 rfl (lv_at hl 3 rfl) ?_
      refine fget E hP 0 rfl fd_X2_19 (v := .ref a_o_nameBy) rfl dX2_firstLiar_16 ?_
      refine lv_iload_n hx hb dX2_firstLiar_19 rfl (lv_at hl 0 rfl) ?_
      refine ild E hP 1 rfl (k := k_11) (by omega) (by decide) dX2_firstLiar_20 ?_
      refine lv_iconst (v := (-1 : Int32)) hx hb dX2_firstLiar_21 (by decide) ?_
      refine lv_icmp_eq (tgt := 40) hx hb dX2_firstLiar_22 (by decide) (fun c_1 => ?_) (fun c_1 => ?_)
      · rw [if_pos c_1] at hB_11
        refine lv_iload_n hx hb dX2_firstLiar_40 rfl (lv_at hl 2 rfl) ?_
        refine lv_aload_n hx hb dX2_firstLiar_41 rfl (lv_at hl 3 rfl) ?_
        refine fget E hP 0 rfl fd_X2_15 (v := .ref a_o_who) rfl dX2_firstLiar_42 ?_
        refine lv_iload_n hx hb dX2_firstLiar_45 rfl (lv_at hl 0 rfl) ?_
        refine ild E hP 2 rfl (k := k_11) (by omega) (by decide) dX2_firstLiar_46 ?_
        refine kcSN E hl.1 (c_X6_bit l D tB tI tZ (o_who k_11) ) cs_X6_bit 13 rfl hP hD hS hA [] rfl rfl rfl (ws2 := [(a_o, .inr (2, [.int (nI o_count), .ref a_o_who, .ref a_o_nameBy])), (a_o_nameBy, .inl (tI, 6, .inl o_nameBy)), (a_o_who, .inl (tI, 6, .inl o_who))]) rfl rfl (As := [.int (o_who k_11)]) (rest := [.int v1_11]) rfl rfl (Nat.le_of_ble_eq_true rfl) ⟨Nat.le_of_ble_eq_true rfl, Nat.le_of_ble_eq_true rfl⟩ ⟨Nat.zero_le _, Nat.zero_le _⟩ dX2_firstLiar_47 (fun H locs hP hD hS => ?_)
        refine lv_ior hx hb dX2_firstLiar_50 ?_
        refine lv_istore_n (lv' := [(1, .int (v1_11 ||| (S_X6_bit (o_who k_11)))), (3, .int (nI k_11)), (2, .int v2_11), (0, .ref a_o)]) hx hb dX2_firstLiar_51 rfl hl (by decide) rfl (fun ls hl => ?_)
        refine lv_iinc (v := (dv k_11)) (lv' := [(3, .int (dv k_11)), (1, .int (v1_11 ||| (S_X6_bit (o_who k_11)))), (2, .int v2_11), (0, .ref a_o)]) hx hb dX2_firstLiar_52 hl (k := 1) rfl (dv_dec k_11) (by decide) rfl (fun ls hl => ?_)
        refine lv_goto (tgt := 11) hx hb dX2_firstLiar_55 (by decide) ?_
        subst hB_11
        exact ih_11 (v1_11 ||| (S_X6_bit (o_who k_11))) v2_11  _ _ _ (by omega) hR hP hD hS (lv_sub hl [0, 2, 1, 3] rfl)
      · rw [if_neg c_1] at hB_11
        refine lv_iload_n hx hb dX2_firstLiar_25 rfl (lv_at hl 2 rfl) ?_
        refine lv_aload_n hx hb dX2_firstLiar_26 rfl (lv_at hl 3 rfl) ?_
        refine fget E hP 0 rfl fd_X2_19 (v := .ref a_o_nameBy) rfl dX2_firstLiar_27 ?_
        refine lv_iload_n hx hb dX2_firstLiar_30 rfl (lv_at hl 0 rfl) ?_
        refine ild E hP 1 rfl (k := k_11) (by omega) (by decide) dX2_firstLiar_31 ?_
        refine kcSN E hl.1 (c_X6_has l D tB tI tZ v1_11 (o_nameBy k_11) ) cs_X6_has 14 rfl hP hD hS hA [] rfl rfl rfl (ws2 := [(a_o, .inr (2, [.int (nI o_count), .ref a_o_who, .ref a_o_nameBy])), (a_o_nameBy, .inl (tI, 6, .inl o_nameBy)), (a_o_who, .inl (tI, 6, .inl o_who))]) rfl rfl (As := [.int v1_11, .int (o_nameBy k_11)]) (rest := []) rfl rfl (Nat.le_of_ble_eq_true rfl) ⟨Nat.le_of_ble_eq_true rfl, Nat.le_of_ble_eq_true rfl⟩ ⟨Nat.zero_le _, Nat.zero_le _⟩ dX2_firstLiar_32 (fun H locs hP hD hS => ?_)
        refine lv_if_ne (tgt := 40) hx hb dX2_firstLiar_35 (by decide) (fun c_2 => ?_) (fun c_2 => ?_)
        · rw [if_neg c_2] at hB_11
          refine lv_iload_n hx hb dX2_firstLiar_40 rfl (lv_at hl 2 rfl) ?_
          refine lv_aload_n hx hb dX2_firstLiar_41 rfl (lv_at hl 3 rfl) ?_
          refine fget E hP 0 rfl fd_X2_15 (v := .ref a_o_who) rfl dX2_firstLiar_42 ?_
          refine lv_iload_n hx hb dX2_firstLiar_45 rfl (lv_at hl 0 rfl) ?_
          refine ild E hP 2 rfl (k := k_11) (by omega) (by decide) dX2_firstLiar_46 ?_
          refine kcSN E hl.1 (c_X6_bit l D tB tI tZ (o_who k_11) ) cs_X6_bit 13 rfl hP hD hS hA [] rfl rfl rfl (ws2 := [(a_o, .inr (2, [.int (nI o_count), .ref a_o_who, .ref a_o_nameBy])), (a_o_nameBy, .inl (tI, 6, .inl o_nameBy)), (a_o_who, .inl (tI, 6, .inl o_who))]) rfl rfl (As := [.int (o_who k_11)]) (rest := [.int v1_11]) rfl rfl (Nat.le_of_ble_eq_true rfl) ⟨Nat.le_of_ble_eq_true rfl, Nat.le_of_ble_eq_true rfl⟩ ⟨Nat.zero_le _, Nat.zero_le _⟩ dX2_firstLiar_47 (fun H locs hP hD hS => ?_)
          refine lv_ior hx hb dX2_firstLiar_50 ?_
          refine lv_istore_n (lv' := [(1, .int (v1_11 ||| (S_X6_bit (o_who k_11)))), (3, .int (nI k_11)), (2, .int v2_11), (0, .ref a_o)]) hx hb dX2_firstLiar_51 rfl hl (by decide) rfl (fun ls hl => ?_)
          refine lv_iinc (v := (dv k_11)) (lv' := [(3, .int (dv k_11)), (1, .int (v1_11 ||| (S_X6_bit (o_who k_11)))), (2, .int v2_11), (0, .ref a_o)]) hx hb dX2_firstLiar_52 hl (k := 1) rfl (dv_dec k_11) (by decide) rfl (fun ls hl => ?_)
          refine lv_goto (tgt := 11) hx hb dX2_firstLiar_55 (by decide) ?_
          subst hB_11
          exact ih_11 (v1_11 ||| (S_X6_bit (o_who k_11))) v2_11  _ _ _ (by omega) hR hP hD hS (lv_sub hl [0, 2, 1, 3] rfl)
        · rw [if_pos c_2] at hB_11
          refine lv_iload_n hx hb dX2_firstLiar_38 rfl (lv_at hl 0 rfl) ?_
          refine lv_istore_n (lv' := [(2, .int (nI k_11)), (3, .int (nI k_11)), (1, .int v1_11), (0, .ref a_o)]) hx hb dX2_firstLiar_39 rfl hl (by decide) rfl (fun ls hl => ?_)
          refine lv_iload_n hx hb dX2_firstLiar_40 rfl (lv_at hl 2 rfl) ?_
          refine lv_aload_n hx hb dX2_firstLiar_41 rfl (lv_at hl 3 rfl) ?_
          refine fget E hP 0 rfl fd_X2_15 (v := .ref a_o_who) rfl dX2_firstLiar_42 ?_
          refine lv_iload_n hx hb dX2_firstLiar_45 rfl (lv_at hl 1 rfl) ?_
          refine ild E hP 2 rfl (k := k_11) (by omega) (by decide) dX2_firstLiar_46 ?_
          refine kcSN E hl.1 (c_X6_bit l D tB tI tZ (o_who k_11) ) cs_X6_bit 13 rfl hP hD hS hA [] rfl rfl rfl (ws2 := [(a_o, .inr (2, [.int (nI o_count), .ref a_o_who, .ref a_o_nameBy])), (a_o_nameBy, .inl (tI, 6, .inl o_nameBy)), (a_o_who, .inl (tI, 6, .inl o_who))]) rfl rfl (As := [.int (o_who k_11)]) (rest := [.int v1_11]) rfl rfl (Nat.le_of_ble_eq_true rfl) ⟨Nat.le_of_ble_eq_true rfl, Nat.le_of_ble_eq_true rfl⟩ ⟨Nat.zero_le _, Nat.zero_le _⟩ dX2_firstLiar_47 (fun H locs hP hD hS => ?_)
          refine lv_ior hx hb dX2_firstLiar_50 ?_
          refine lv_istore_n (lv' := [(1, .int (v1_11 ||| (S_X6_bit (o_who k_11)))), (2, .int (nI k_11)), (3, .int (nI k_11)), (0, .ref a_o)]) hx hb dX2_firstLiar_51 rfl hl (by decide) rfl (fun ls hl => ?_)
          refine lv_iinc (v := (dv k_11)) (lv' := [(3, .int (dv k_11)), (1, .int (v1_11 ||| (S_X6_bit (o_who k_11)))), (2, .int (nI k_11)), (0, .ref a_o)]) hx hb dX2_firstLiar_52 hl (k := 2) rfl (dv_dec k_11) (by decide) rfl (fun ls hl => ?_)
          refine lv_goto (tgt := 11) hx hb dX2_firstLiar_55 (by decide) ?_
          subst hB_11
          exact ih_11 (v1_11 ||| (S_X6_bit (o_who k_11))) (nI k_11)  _ _ _ (by omega) hR hP hD hS (lv_sub hl [0, 2, 1, 3] rfl)
  exact LP_11 o_count (0 : Int32) (-1 : Int32)  _ _ _ (by omega) hR hP hD hS (lv_sub hl [0, 1, 2, 3] rfl)

def S_X2_firstWrong (x2 : Nat) (x1_lives : Int32) (x1_day : Int32) (x1_over : Nat → Int32) (o_count : Nat) (o_nameBy : Nat → Int32) (o_who : Nat → Int32) (x1_lieDay : Nat → Int32) (x1_land_year : Int32) (x1_land_men : Nat) (x1_land_forgets : Nat → Int32) (x1_knows : Nat → Int32) (x1_land_weight : Nat → Int32) (x1_aloneYear : Nat → Int32) : Int32 := (if (S_X2_firstEaten x2 x1_lives x1_day x1_over o_count o_nameBy o_who x1_lieDay x1_land_year x1_land_men x1_land_forgets x1_knows x1_land_weight x1_aloneYear) = (-1 : Int32) then (S_X2_firstLiar o_count o_nameBy o_who) else (S_X2_firstEaten x2 x1_lives x1_day x1_over o_count o_nameBy o_who x1_lieDay x1_land_year x1_land_men x1_land_forgets x1_knows x1_land_weight x1_aloneYear))
set_option maxHeartbeats 4000000 in
set_option maxRecDepth 100000 in
theorem c_X2_firstWrong (l : Launch) (D : va_G) (tB tI tZ : ClassId) (a_x1 a_x1_land a_x1_knows a_x1_over a_x1_nameBy a_x1_lieDay a_x1_aloneYear a_o a_o_who a_o_nameBy a_x1_land_forgets a_x1_land_weight a_x1_land_chance a_x1_land_knowsAtFirst a_x1_land_oxWeight a_x1_land_oxPrice : Nat) (x1_lives : Int32) (x1_day : Int32) (x1_seed : Int32) (x1_over : Nat → Int32) (o_count : Nat) (o_nameBy : Nat → Int32) (o_who : Nat → Int32) (x1_lieDay : Nat → Int32) (x1_land_year : Int32) (x1_land_bridges : Nat) (x1_land_men : Nat) (x1_land_oxen : Nat) (x1_land_forgets : Nat → Int32) (x1_knows : Nat → Int32) (x1_land_weight : Nat → Int32) (x1_aloneYear : Nat → Int32) (x2 : Nat) (hc : o_count ≤ 6) (hb : x2 < 5) (hmen : x1_land_men ≤ 6) (hwho : ∀ i, i < o_count → RN 6 (o_who i)) : CT l D (tyL tB tI tZ) yX2_firstWrong (.code yX2_firstWrong cX2_firstWrong 4 (some .int)) 4 91 [.ref a_o, .ref a_x1, .int (nI x2)] [(a_x1, .inr (0, [.ref a_x1_land, .int x1_lives, .int x1_day, .int x1_seed, .ref a_x1_knows, .ref a_x1_over, .ref a_x1_nameBy, .ref a_x1_lieDay, .ref a_x1_aloneYear])), (a_x1_over, .inl (tI, 5, .inl x1_over)), (a_o, .inr (2, [.int (nI o_count), .ref a_o_who, .ref a_o_nameBy])), (a_o_nameBy, .inl (tI, 6, .inl o_nameBy)), (a_o_who, .inl (tI, 6, .inl o_who)), (a_x1_lieDay, .inl (tI, 30, .inl x1_lieDay)), (a_x1_land, .inr (1, [.int x1_land_year, .int (nI x1_land_bridges), .int (nI x1_land_men), .int (nI x1_land_oxen), .ref a_x1_land_forgets, .ref a_x1_land_weight, .ref a_x1_land_chance, .ref a_x1_land_knowsAtFirst, .ref a_x1_land_oxWeight, .ref a_x1_land_oxPrice])), (a_x1_land_forgets, .inl (tI, 5, .inl x1_land_forgets)), (a_x1_knows, .inl (tI, 6, .inl x1_knows)), (a_x1_land_weight, .inl (tI, 6, .inl x1_land_weight)), (a_x1_aloneYear, .inl (tI, 30, .inl x1_aloneYear))] (fun u : Int32 => some (.int (u))) (fun _ : Int32 => [(a_x1, .inr (0, [.ref a_x1_land, .int x1_lives, .int x1_day, .int x1_seed, .ref a_x1_knows, .ref a_x1_over, .ref a_x1_nameBy, .ref a_x1_lieDay, .ref a_x1_aloneYear])), (a_x1_over, .inl (tI, 5, .inl x1_over)), (a_o, .inr (2, [.int (nI o_count), .ref a_o_who, .ref a_o_nameBy])), (a_o_nameBy, .inl (tI, 6, .inl o_nameBy)), (a_o_who, .inl (tI, 6, .inl o_who)), (a_x1_lieDay, .inl (tI, 30, .inl x1_lieDay)), (a_x1_land, .inr (1, [.int x1_land_year, .int (nI x1_land_bridges), .int (nI x1_land_men), .int (nI x1_land_oxen), .ref a_x1_land_forgets, .ref a_x1_land_weight, .ref a_x1_land_chance, .ref a_x1_land_knowsAtFirst, .ref a_x1_land_oxWeight, .ref a_x1_land_oxPrice])), (a_x1_land_forgets, .inl (tI, 5, .inl x1_land_forgets)), (a_x1_knows, .inl (tI, 6, .inl x1_knows)), (a_x1_land_weight, .inl (tI, 6, .inl x1_land_weight)), (a_x1_aloneYear, .inl (tI, 30, .inl x1_aloneYear))]) (S_X2_firstWrong x2 x1_lives x1_day x1_over o_count o_nameBy o_who x1_lieDay x1_land_year x1_land_men x1_land_forgets x1_knows x1_land_weight x1_aloneYear) := by
  refine CT.intro (k := 0) (Nat.le_of_ble_eq_true rfl) (by decide) ?_
  intro p e s m below meth c Q A ls E hA hP hD hS hl hF
  obtain ⟨⟨hx, hb, hml, hown, hts⟩, hK⟩ := id E
  generalize hR : S_X2_firstWrong x2 x1_lives x1_day x1_over o_count o_nameBy o_who x1_lieDay x1_land_year x1_land_men x1_land_forgets x1_knows x1_land_weight x1_aloneYear = RES at hF
  unfold S_X2_firstWrong at hR
  have hl : lv_has ls 4 [(0, .ref a_o), (1, .ref a_x1), (2, .int (nI x2))] := hl
  refine lv_aload_n hx hb dX2_firstWrong_0 rfl (lv_at hl 0 rfl) ?_
  refine lv_aload_n hx hb dX2_firstWrong_1 rfl (lv_at hl 1 rfl) ?_
  refine lv_iload_n hx hb dX2_firstWrong_2 rfl (lv_at hl 2 rfl) ?_
  refine kcV E hl.1 (c_X2_firstEaten l D tB tI tZ a_x1 a_x1_land a_x1_knows a_x1_over a_x1_nameBy a_x1_lieDay a_x1_aloneYear a_o a_o_who a_o_nameBy a_x1_land_forgets a_x1_land_weight a_x1_land_chance a_x1_land_knowsAtFirst a_x1_land_oxWeight a_x1_land_oxPrice x1_lives x1_day x1_seed x1_over o_count o_nameBy o_who x1_lieDay x1_land_year x1_land_bridges x1_land_men x1_land_oxen x1_land_forgets x1_knows x1_land_weight x1_aloneYear x2 (show o_count ≤ 6 by first | assumption | omega | exact NN.none | exact NN.nat (by omega) (by omega) | exact NN.up (by assumption) (by omega)) (show x2 < 5 by first | assumption | omega | exact NN.none | exact NN.nat (by omega) (by omega) | exact NN.up (by assumption) (by omega)) (show x1_land_men ≤ 6 by first | assumption | omega | exact NN.none | exact NN.nat (by omega) (by omega) | exact NN.up (by assumption) (by omega)) (show ∀ i, i < o_count → RN 6 (o_who i) by first | assumption | omega | exact NN.none | exact NN.nat (by omega) (by omega) | exact NN.up (by assumption) (by omega))) cv_X2_firstEaten wm_X2_26 hP hD hS hA [0, 1, 2, 3, 4, 5, 6, 7, 8, 9, 10] rfl rfl rfl (ws2 := [(a_x1, .inr (0, [.ref a_x1_land, .int x1_lives, .int x1_day, .int x1_seed, .ref a_x1_knows, .ref a_x1_over, .ref a_x1_nameBy, .ref a_x1_lieDay, .ref a_x1_aloneYear])), (a_x1_over, .inl (tI, 5, .inl x1_over)), (a_o, .inr (2, [.int (nI o_count), .ref a_o_who, .ref a_o_nameBy])), (a_o_nameBy, .inl (tI, 6, .inl o_nameBy)), (a_o_who, .inl (tI, 6, .inl o_who)), (a_x1_lieDay, .inl (tI, 30, .inl x1_lieDay)), (a_x1_land, .inr (1, [.int x1_land_year, .int (nI x1_land_bridges), .int (nI x1_land_men), .int (nI x1_land_oxen), .ref a_x1_land_forgets, .ref a_x1_land_weight, .ref a_x1_land_chance, .ref a_x1_land_knowsAtFirst, .ref a_x1_land_oxWeight, .ref a_x1_land_oxPrice])), (a_x1_land_forgets, .inl (tI, 5, .inl x1_land_forgets)), (a_x1_knows, .inl (tI, 6, .inl x1_knows)), (a_x1_land_weight, .inl (tI, 6, .inl x1_land_weight)), (a_x1_aloneYear, .inl (tI, 30, .inl x1_aloneYear))]) rfl rfl (b := a_o) (As := [.ref a_x1, .int (nI x2)]) (rest := []) 2 2 rfl rfl rfl rfl (Nat.le_of_ble_eq_true rfl) ⟨Nat.le_of_ble_eq_true rfl, Nat.le_of_ble_eq_true rfl⟩ ⟨Nat.zero_le _, Nat.zero_le _⟩ dX2_firstWrong_3 (fun H locs hP hD hS => ?_)
  refine lv_istore_n (lv' := [(3, .int (S_X2_firstEaten x2 x1_lives x1_day x1_over o_count o_nameBy o_who x1_lieDay x1_land_year x1_land_men x1_land_forgets x1_knows x1_land_weight x1_aloneYear)), (0, .ref a_o), (1, .ref a_x1), (2, .int (nI x2))]) hx hb dX2_firstWrong_6 rfl hl (by decide) rfl (fun ls hl => ?_)
  refine lv_iload_n hx hb dX2_firstWrong_7 rfl (lv_at hl 0 rfl) ?_
  refine lv_iconst (v := (-1 : Int32)) hx hb dX2_firstWrong_8 (by decide) ?_
  refine lv_icmp_ne (tgt := 19) hx hb dX2_firstWrong_9 (by decide) (fun c_1 => ?_) (fun c_1 => ?_)
  · rw [if_neg c_1] at hR
    refine lv_iload_n hx hb dX2_firstWrong_19 rfl (lv_at hl 0 rfl) ?_
    subst hR
    exact (hF _ _ _ _ hP hS).1 _ rfl ⟨.int, rfl, rfl⟩ dX2_firstWrong_20
  · rw [if_pos c_1] at hR
    refine lv_aload_n hx hb dX2_firstWrong_12 rfl (lv_at hl 1 rfl) ?_
    refine kcV E hl.1 (c_X2_firstLiar l D tB tI tZ a_o a_o_who a_o_nameBy o_count o_nameBy o_who (show o_count ≤ 6 by first | assumption | omega | exact NN.none | exact NN.nat (by omega) (by omega) | exact NN.up (by assumption) (by omega))) cv_X2_firstLiar wm_X2_30 hP hD hS hA [2, 3, 4] rfl rfl rfl (ws2 := [(a_x1, .inr (0, [.ref a_x1_land, .int x1_lives, .int x1_day, .int x1_seed, .ref a_x1_knows, .ref a_x1_over, .ref a_x1_nameBy, .ref a_x1_lieDay, .ref a_x1_aloneYear])), (a_x1_over, .inl (tI, 5, .inl x1_over)), (a_o, .inr (2, [.int (nI o_count), .ref a_o_who, .ref a_o_nameBy])), (a_o_nameBy, .inl (tI, 6, .inl o_nameBy)), (a_o_who, .inl (tI, 6, .inl o_who)), (a_x1_lieDay, .inl (tI, 30, .inl x1_lieDay)), (a_x1_land, .inr (1, [.int x1_land_year, .int (nI x1_land_bridges), .int (nI x1_land_men), .int (nI x1_land_oxen), .ref a_x1_land_forgets, .ref a_x1_land_weight, .ref a_x1_land_chance, .ref a_x1_land_knowsAtFirst, .ref a_x1_land_oxWeight, .ref a_x1_land_oxPrice])), (a_x1_land_forgets, .inl (tI, 5, .inl x1_land_forgets)), (a_x1_knows, .inl (tI, 6, .inl x1_knows)), (a_x1_land_weight, .inl (tI, 6, .inl x1_land_weight)), (a_x1_aloneYear, .inl (tI, 30, .inl x1_aloneYear))]) rfl rfl (b := a_o) (As := []) (rest := []) 0 2 rfl rfl rfl rfl (Nat.le_of_ble_eq_true rfl) ⟨Nat.le_of_ble_eq_true rfl, Nat.le_of_ble_eq_true rfl⟩ ⟨Nat.zero_le _, Nat.zero_le _⟩ dX2_firstWrong_13 (fun H locs hP hD hS => ?_)
    refine lv_goto (tgt := 20) hx hb dX2_firstWrong_16 (by decide) ?_
    subst hR
    exact (hF _ _ _ _ hP hS).1 _ rfl ⟨.int, rfl, rfl⟩ dX2_firstWrong_20
