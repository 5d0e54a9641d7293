
def S_X6_bit (x0 : Int32) : Int32 := ((1 : Int32) <<< (x0 &&& 31))
set_option maxHeartbeats 4000000 in
set_option maxRecDepth 100000 in
theorem c_X6_bit (l : Launch) (D : va_G) (tB tI tZ : ClassId)   (x0 : Int32)  : CT l D (tyL tB tI tZ) yX6_bit (.code yX6_bit cX6_bit 1 (some .int)) 0 0 [.int x0] [] (fun u : Int32 => some (.int (u))) (fun _ : Int32 => []) (S_X6_bit x0) := by
  refine CT.intro (k := 0) (Nat.le_of_ble_eq_true rfl) (by decide) ?_
  intro p e s m below meth c Q A ls E hA hP hD hS hl hF
  obtain ⟨⟨hx, hb, hml, hown, hts⟩, hK⟩ := id E
  generalize hR : S_X6_bit x0 = RES at hF
  unfold S_X6_bit at hR
  have hl : lv_has ls 1 [(0, .int x0)] := hl
  refine lv_iconst (v := (1 : Int32)) hx hb dX6_bit_0 (by decide) ?_
  refine lv_iload_n hx hb dX6_bit_1 rfl (lv_at hl 0 rfl) ?_
  refine lv_ishl hx hb dX6_bit_2 ?_
  subst hR
  exact (hF _ _ _ _ hP hS).1 _ rfl ⟨.int, rfl, rfl⟩ dX6_bit_3

def S_X6_has (x0 : Int32) (x1 : Int32) : Int32 := (if (x0 &&& (S_X6_bit x1)) = 0 then (0 : Int32) else (1 : Int32))
theorem z_X6_has (x0 : Int32) (x1 : Int32)  : S_X6_has x0 x1 = 0 ∨ S_X6_has x0 x1 = 1 := by unfold S_X6_has; (repeat' split) <;> first | exact Or.inl rfl | exact Or.inr rfl | assumption
set_option maxHeartbeats 4000000 in
set_option maxRecDepth 100000 in
theorem c_X6_has (l : Launch) (D : va_G) (tB tI tZ : ClassId)   (x0 : Int32) (x1 : Int32)  : CT l D (tyL tB tI tZ) yX6_has (.code yX6_has cX6_has 2 (some .boolean)) 1 20 [.int x0, .int x1] [] (fun u : Int32 => some (.int (u))) (fun _ : Int32 => []) (S_X6_has x0 x1) := by
  refine CT.intro (k := 0) (Nat.le_of_ble_eq_true rfl) (by decide) ?_
  intro p e s m below meth c Q A ls E hA hP hD hS hl hF
  obtain ⟨⟨hx, hb, hml, hown, hts⟩, hK⟩ := id E
  generalize hR : S_X6_has x0 x1 = RES at hF
  unfold S_X6_has at hR
  have hl : lv_has ls 2 [(0, .int x0), (1, .int x1)] := hl
  refine lv_iload_n hx hb dX6_has_0 rfl (lv_at hl 0 rfl) ?_
  refine lv_iload_n hx hb dX6_has_1 rfl (lv_at hl 1 rfl) ?_
  refine kcS E hl.1 (c_X6_bit l D tB tI tZ x1 ) cs_X6_bit wm_X6_182 hP hD hS hA [] rfl rfl rfl (ws2 := []) rfl rfl (As := [.int x1]) (rest := [.int x0]) rfl rfl (Nat.le_of_ble_eq_true rfl) ⟨Nat.le_of_ble_eq_true rfl, Nat.le_of_ble_eq_true rfl⟩ ⟨Nat.zero_le _, Nat.zero_le _⟩ dX6_has_2 (fun H locs hP hD hS => ?_)
  refine lv_iand hx hb dX6_has_5 ?_
  refine lv_if_eq (tgt := 13) hx hb dX6_has_6 (by decide) (fun c_1 => ?_) (fun c_1 => ?_)
  · rw [if_pos c_1] at hR
    refine lv_iconst (v := (0 : Int32)) hx hb dX6_has_13 (by decide) ?_
    subst hR
    exact (hF _ _ _ _ hP hS).1 _ rfl ⟨.boolean, rfl, rfl⟩ dX6_has_14
  · rw [if_neg c_1] at hR
    refine lv_iconst (v := (1 : Int32)) hx hb dX6_has_9 (by decide) ?_
    refine lv_goto (tgt := 14) hx hb dX6_has_10 (by decide) ?_
    subst hR
    exact (hF _ _ _ _ hP hS).1 _ rfl ⟨.boolean, rfl, rfl⟩ dX6_has_14

def S_X6_slot (x0 : Nat) (x1 : Nat) : Nat := ((x0 * 6) + x1)
set_option maxHeartbeats 4000000 in
set_option maxRecDepth 100000 in
theorem c_X6_slot (l : Launch) (D : va_G) (tB tI tZ : ClassId)   (x0 : Nat) (x1 : Nat)  : CT l D (tyL tB tI tZ) yX6_slot (.code yX6_slot cX6_slot 2 (some .int)) 0 0 [.int (nI x0), .int (nI x1)] [] (fun u : Nat => some (.int (nI (u)))) (fun _ : Nat => []) (S_X6_slot x0 x1) := by
  refine CT.intro (k := 0) (Nat.le_of_ble_eq_true rfl) (by decide) ?_
  intro p e s m below meth c Q A ls E hA hP hD hS hl hF
  obtain ⟨⟨hx, hb, hml, hown, hts⟩, hK⟩ := id E
  generalize hR : S_X6_slot x0 x1 = RES at hF
  unfold S_X6_slot at hR
  have hl : lv_has ls 2 [(0, .int (nI x0)), (1, .int (nI x1))] := hl
  refine lv_iload_n hx hb dX6_slot_0 rfl (lv_at hl 0 rfl) ?_
  refine lv_bipush (v := (6 : Int32)) hx hb dX6_slot_1 (by decide) ?_
  refine lv_imul hx hb dX6_slot_3 ?_
  refine lv_is (pk_mul x0 6) ?_
  refine lv_iload_n hx hb dX6_slot_4 rfl (lv_at hl 1 rfl) ?_
  refine lv_iadd hx hb dX6_slot_5 ?_
  refine lv_is (nI_add (x0 * 6) x1) ?_
  subst hR
  exact (hF _ _ _ _ hP hS).1 _ rfl ⟨.int, rfl, rfl⟩ dX6_slot_6

def RN (n : Nat) (v : Int32) : Prop := v = nI v.toNatClampNeg ∧ v.toNatClampNeg < n
theorem RN.nat {n k : Nat} (h : k < n) (hn : n ≤ 1000) : RN n (nI k) := by
  unfold RN
  rw [nI_clamp (by omega)]
  exact ⟨rfl, h⟩
theorem bit_nat {k : Nat} (h : k < 31) : S_X6_bit (nI k) = nI (2 ^ k) := by
  have : ∀ k, k < 31 → S_X6_bit (nI k) = nI (2 ^ k) := by decide +kernel
  exact this k h
theorem p2_le5 {k : Nat} (h : k ≤ 5) : 2 ^ k ≤ 32 := by
  have : ∀ k, k < 6 → 2 ^ k ≤ 32 := by decide
  exact this k (by omega)
theorem p2_le6 {k : Nat} (h : k ≤ 6) : 2 ^ k ≤ 64 := by
  have : ∀ k, k < 7 → 2 ^ k ≤ 64 := by decide
  exact this k (by omega)
theorem p2_pos (k : Nat) : 1 ≤ 2 ^ k := Nat.one_le_two_pow
theorem mm6 {k : Nat} (h : k ≤ 6) : (if (6 : Int32) < (nI k) then (6 : Int32) else (nI k)) = nI k := by
  have : ∀ k, k < 7 → (if (6 : Int32) < (nI k) then (6 : Int32) else (nI k)) = nI k := by decide +kernel
  exact this k (by omega)
/-- a set without one -/
def wo (k j : Nat) : Nat := if k.testBit j then k - 2 ^ j else k
theorem wo_le (k j : Nat) : wo k j ≤ k := by
  unfold wo
  split
  · exact Nat.sub_le _ _
  · exact Nat.le_refl _
theorem wo_eq {k j : Nat} (hk : k < 64) (hj : j < 6) : ((nI k) &&& ((S_X6_bit (nI j)) ^^^ (-1 : Int32))) = nI (wo k j) := by
  have : ∀ k, k < 64 → ∀ j, j < 6 → ((nI k) &&& ((S_X6_bit (nI j)) ^^^ (-1 : Int32))) = nI (wo k j) := by decide +kernel
  exact this k hk j hj

def S_X1_clear  : Int32 × Nat × Nat × Nat := ((10 : Int32), 0, 0, 0)
set_option maxHeartbeats 4000000 in
set_option maxRecDepth 100000 in
theorem c_X1_clear (l : Launch) (D : va_G) (tB tI tZ : ClassId) (a_o a_o_forgets a_o_weight a_o_chance a_o_knowsAtFirst a_o_oxWeight a_o_oxPrice : Nat) (o_year : Int32) (o_bridges : Nat) (o_men : Nat) (o_oxen : Nat)   : CT l D (tyL tB tI tZ) yX1_clear (.code yX1_clear cX1_clear 1 none) 0 0 [.ref a_o] [(a_o, .inr (1, [.int o_year, .int (nI o_bridges), .int (nI o_men), .int (nI o_oxen), .ref a_o_forgets, .ref a_o_weight, .ref a_o_chance, .ref a_o_knowsAtFirst, .ref a_o_oxWeight, .ref a_o_oxPrice]))] (fun _ : Int32 × Nat × Nat × Nat => none) (fun u : Int32 × Nat × Nat × Nat => [(a_o, .inr (1, [.int (u.1), .int (nI (u.2.1)), .int (nI (u.2.2.1)), .int (nI (u.2.2.2)), .ref a_o_forgets, .ref a_o_weight, .ref a_o_chance, .ref a_o_knowsAtFirst, .ref a_o_oxWeight, .ref a_o_oxPrice]))]) (S_X1_clear ) := by
  refine CT.intro (k := 0) (Nat.le_of_ble_eq_true rfl) (by decide) ?_
  intro p e s m below meth c Q A ls E hA hP hD hS hl hF
  obtain ⟨⟨hx, hb, hml, hown, hts⟩, hK⟩ := id E
  generalize hR : S_X1_clear  = RES at hF
  unfold S_X1_clear at hR
  have hl : lv_has ls 1 [(0, .ref a_o)] := hl
  refine lv_aload_n hx hb dX1_clear_0 rfl (lv_at hl 0 rfl) ?_
  refine lv_bipush (v := (10 : Int32)) hx hb dX1_clear_1 (by decide) ?_
  refine fput E hP hD hS 0 rfl fd_X1_33 fp_X1 (ty := .int) (v := .int (10 : Int32)) rfl rfl rfl rfl (Nat.le_of_ble_eq_true rfl) dX1_clear_3 (fun H locs hP hD hS => ?_)
  have hP : va_P D vwCl [(a_o, .inr (1, [.int (10 : Int32), .int (nI o_bridges), .int (nI o_men), .int (nI o_oxen), .ref a_o_forgets, .ref a_o_weight, .ref a_o_chance, .ref a_o_knowsAtFirst, .ref a_o_oxWeight, .ref a_o_oxPrice]))] H := hP
  have hD : va_D A [(a_o, .inr (1, [.int (10 : Int32), .int (nI o_bridges), .int (nI o_men), .int (nI o_oxen), .ref a_o_forgets, .ref a_o_weight, .ref a_o_chance, .ref a_o_knowsAtFirst, .ref a_o_oxWeight, .ref a_o_oxPrice]))] := hD
  refine lv_aload_n hx hb dX1_clear_6 rfl (lv_at hl 0 rfl) ?_
  refine lv_iconst (v := (0 : Int32)) hx hb dX1_clear_7 (by decide) ?_
  refine fput E hP hD hS 0 rfl fd_X1_37 fp_X1 (ty := .int) (v := .int (nI 0)) rfl rfl rfl rfl (Nat.le_of_ble_eq_true rfl) dX1_clear_8 (fun H locs hP hD hS => ?_)
  have hP : va_P D vwCl [(a_o, .inr (1, [.int (10 : Int32), .int (nI 0), .int (nI o_men), .int (nI o_oxen), .ref a_o_forgets, .ref a_o_weight, .ref a_o_chance, .ref a_o_knowsAtFirst, .ref a_o_oxWeight, .ref a_o_oxPrice]))] H := hP
  have hD : va_D A [(a_o, .inr (1, [.int (10 : Int32), .int (nI 0), .int (nI o_men), .int (nI o_oxen), .ref a_o_forgets, .ref a_o_weight, .ref a_o_chance, .ref a_o_knowsAtFirst, .ref a_o_oxWeight, .ref a_o_oxPrice]))] := hD
  refine lv_aload_n hx hb dX1_clear_11 rfl (lv_at hl 0 rfl) ?_
  refine lv_iconst (v := (0 : Int32)) hx hb dX1_clear_12 (by decide) ?_
  refine fput E hP hD hS 0 rfl fd_X1_40 fp_X1 (ty := .int) (v := .int (nI 0)) rfl rfl rfl rfl (Nat.le_of_ble_eq_true rfl) dX1_clear_13 (fun H locs hP hD hS => ?_)
  have hP : va_P D vwCl [(a_o, .inr (1, [.int (10 : Int32), .int (nI 0), .int (nI 0), .int (nI o_oxen), .ref a_o_forgets, .ref a_o_weight, .ref a_o_chance, .ref a_o_knowsAtFirst, .ref a_o_oxWeight, .ref a_o_oxPrice]))] H := hP
  have hD : va_D A [(a_o, .inr (1, [.int (10 : Int32), .int (nI 0), .int (nI 0), .int (nI o_oxen), .ref a_o_forgets, .ref a_o_weight, .ref a_o_chance, .ref a_o_knowsAtFirst, .ref a_o_oxWeight, .ref a_o_oxPrice]))] := hD
  refine lv_aload_n hx hb dX1_clear_16 rfl (lv_at hl 0 rfl) ?_
  refine lv_iconst (v := (0 : Int32)) hx hb dX1_clear_17 (by decide) ?_
  refine fput E hP hD hS 0 rfl fd_X1_43 fp_X1 (ty := .int) (v := .int (nI 0)) rfl rfl rfl rfl (Nat.le_of_ble_eq_true rfl) dX1_clear_18 (fun H locs hP hD hS => ?_)
  have hP : va_P D vwCl [(a_o, .inr (1, [.int (10 : Int32), .int (nI 0), .int (nI 0), .int (nI 0), .ref a_o_forgets, .ref a_o_weight, .ref a_o_chance, .ref a_o_knowsAtFirst, .ref a_o_oxWeight, .ref a_o_oxPrice]))] H := hP
  have hD : va_D A [(a_o, .inr (1, [.int (10 : Int32), .int (nI 0), .int (nI 0), .int (nI 0), .ref a_o_forgets, .ref a_o_weight, .ref a_o_chance, .ref a_o_knowsAtFirst, .ref a_o_oxWeight, .ref a_o_oxPrice]))] := hD
  subst hR
  exact (hF _ _ _ _ hP hS).2.2.2 rfl rfl dX1_clear_21

def S_X1_hasBridge (x1 : Int32) (o_bridges : Nat) : Int32 := (if x1 < 0 then (0 : Int32) else (if (nI o_bridges) ≤ x1 then (0 : Int32) else (1 : Int32)))
theorem z_X1_hasBridge (x1 : Int32) (o_bridges : Nat)  : S_X1_hasBridge x1 o_bridges = 0 ∨ S_X1_hasBridge x1 o_bridges = 1 := by unfold S_X1_hasBridge; (repeat' split) <;> first | exact Or.inl rfl | exact Or.inr rfl | assumption
set_option maxHeartbeats 4000000 in
set_option maxRecDepth 100000 in
theorem c_X1_hasBridge (l : Launch) (D : va_G) (tB tI tZ : ClassId) (a_o a_o_forgets a_o_weight a_o_chance a_o_knowsAtFirst a_o_oxWeight a_o_oxPrice : Nat) (o_year : Int32) (o_bridges : Nat) (o_men : Nat) (o_oxen : Nat) (x1 : Int32)  : CT l D (tyL tB tI tZ) yX1_hasBridge (.code yX1_hasBridge cX1_hasBridge 2 (some .boolean)) 0 0 [.ref a_o, .int x1] [(a_o, .inr (1, [.int o_year, .int (nI o_bridges), .int (nI o_men), .int (nI o_oxen), .ref a_o_forgets, .ref a_o_weight, .ref a_o_chance, .ref a_o_knowsAtFirst, .ref a_o_oxWeight, .ref a_o_oxPrice]))] (fun u : Int32 => some (.int (u))) (fun _ : Int32 => [(a_o, .inr (1, [.int o_year, .int (nI o_bridges), .int (nI o_men), .int (nI o_oxen), .ref a_o_forgets, .ref a_o_weight, .ref a_o_chance, .ref a_o_knowsAtFirst, .ref a_o_oxWeight, .ref a_o_oxPrice]))]) (S_X1_hasBridge x1 o_bridges) := by
  refine CT.intro (k := 0) (Nat.le_of_ble_eq_true rfl) (by decide) ?_
  intro p e s m below meth c Q A ls E hA hP hD hS hl hF
  obtain ⟨⟨hx, hb, hml, hown, hts⟩, hK⟩ := id E
  generalize hR : S_X1_hasBridge x1 o_bridges = RES at hF
  unfold S_X1_hasBridge at hR
  have hl : lv_has ls 2 [(0, .ref a_o), (1, .int x1)] := hl
  refine lv_iload_n hx hb dX1_hasBridge_0 rfl (lv_at hl 1 rfl) ?_
  refine lv_if_lt (tgt := 16) hx hb dX1_hasBridge_1 (by decide) (fun c_1 => ?_) (fun c_1 => ?_)
  · rw [if_pos c_1] at hR
    refine lv_iconst (v := (0 : Int32)) hx hb dX1_hasBridge_16 (by decide) ?_
    subst hR
    exact (hF _ _ _ _ hP hS).1 _ rfl ⟨.boolean, rfl, rfl⟩ dX1_hasBridge_17
  · rw [if_neg c_1] at hR
    refine lv_iload_n hx hb dX1_hasBridge_4 rfl (lv_at hl 1 rfl) ?_
    refine lv_aload_n hx hb dX1_hasBridge_5 rfl (lv_at hl 0 rfl) ?_
    refine fget E hP 0 rfl fd_X1_37 (v := .int (nI o_bridges)) rfl dX1_hasBridge_6 ?_
    refine lv_icmp_ge (tgt := 16) hx hb dX1_hasBridge_9 (by decide) (fun c_2 => ?_) (fun c_2 => ?_)
    · rw [if_pos c_2] at hR
      refine lv_iconst (v := (0 : Int32)) hx hb dX1_hasBridge_16 (by decide) ?_
      subst hR
      exact (hF _ _ _ _ hP hS).1 _ rfl ⟨.boolean, rfl, rfl⟩ dX1_hasBridge_17
    · rw [if_neg c_2] at hR
      refine lv_iconst (v := (1 : Int32)) hx hb dX1_hasBridge_12 (by decide) ?_
      refine lv_goto (tgt := 17) hx hb dX1_hasBridge_13 (by decide) ?_
      subst hR
      exact (hF _ _ _ _ hP hS).1 _ rfl ⟨.boolean, rfl, rfl⟩ dX1_hasBridge_17

def S_X1_hasMan (x1 : Int32) (o_men : Nat) : Int32 := (if x1 < 0 then (0 : Int32) else (if (nI o_men) ≤ x1 then (0 : Int32) else (1 : Int32)))
theorem z_X1_hasMan (x1 : Int32) (o_men : Nat)  : S_X1_hasMan x1 o_men = 0 ∨ S_X1_hasMan x1 o_men = 1 := by unfold S_X1_hasMan; (repeat' split) <;> first | exact Or.inl rfl | exact Or.inr rfl | assumption
set_option maxHeartbeats 4000000 in
set_option maxRecDepth 100000 in
theorem c_X1_hasMan (l : Launch) (D : va_G) (tB tI tZ : ClassId) (a_o a_o_forgets a_o_weight a_o_chance a_o_knowsAtFirst a_o_oxWeight a_o_oxPrice : Nat) (o_year : Int32) (o_bridges : Nat) (o_men : Nat) (o_oxen : Nat) (x1 : Int32)  : CT l D (tyL tB tI tZ) yX1_hasMan (.code yX1_hasMan cX1_hasMan 2 (some .boolean)) 0 0 [.ref a_o, .int x1] [(a_o, .inr (1, [.int o_year, .int (nI o_bridges), .int (nI o_men), .int (nI o_oxen), .ref a_o_forgets, .ref a_o_weight, .ref a_o_chance, .ref a_o_knowsAtFirst, .ref a_o_oxWeight, .ref a_o_oxPrice]))] (fun u : Int32 => some (.int (u))) (fun _ : Int32 => [(a_o, .inr (1, [.int o_year, .int (nI o_bridges), .int (nI o_men), .int (nI o_oxen), .ref a_o_forgets, .ref a_o_weight, .ref a_o_chance, .ref a_o_knowsAtFirst, .ref a_o_oxWeight, .ref a_o_oxPrice]))]) (S_X1_hasMan x1 o_men) := by
  refine CT.intro (k := 0) (Nat.le_of_ble_eq_true rfl) (by decide) ?_
  intro p e s m below meth c Q A ls E hA hP hD hS hl hF
  obtain ⟨⟨hx, hb, hml, hown, hts⟩, hK⟩ := id E
  generalize hR : S_X1_hasMan x1 o_men = RES at hF
  unfold S_X1_hasMan at hR
  have hl : lv_has ls 2 [(0, .ref a_o), (1, .int x1)] := hl
  refine lv_iload_n hx hb dX1_hasMan_0 rfl (lv_at hl 1 rfl) ?_
  refine lv_if_lt (tgt := 16) hx hb dX1_hasMan_1 (by decide) (fun c_1 => ?_) (fun c_1 => ?_)
  · rw [if_pos c_1] at hR
    refine lv_iconst (v := (0 : Int32)) hx hb dX1_hasMan_16 (by decide) ?_
    subst hR
    exact (hF _ _ _ _ hP hS).1 _ rfl ⟨.boolean, rfl, rfl⟩ dX1_hasMan_17
  · rw [if_neg c_1] at hR
    refine lv_iload_n hx hb dX1_hasMan_4 rfl (lv_at hl 1 rfl) ?_
    refine lv_aload_n hx hb dX1_hasMan_5 rfl (lv_at hl 0 rfl) ?_
    refine fget E hP 0 rfl fd_X1_40 (v := .int (nI o_men)) rfl dX1_hasMan_6 ?_
    refine lv_icmp_ge (tgt := 16) hx hb dX1_hasMan_9 (by decide) (fun c_2 => ?_) (fun c_2 => ?_)
    · rw [if_pos c_2] at hR
      refine lv_iconst (v := (0 : Int32)) hx hb dX1_hasMan_16 (by decide) ?_
      subst hR
      exact (hF _ _ _ _ hP hS).1 _ rfl ⟨.boolean, rfl, rfl⟩ dX1_hasMan_17
    · rw [if_neg c_2] at hR
      refine lv_iconst (v := (1 : Int32)) hx hb dX1_hasMan_12 (by decide) ?_
      refine lv_goto (tgt := 17) hx hb dX1_hasMan_13 (by decide) ?_
      subst hR
      exact (hF _ _ _ _ hP hS).1 _ rfl ⟨.boolean, rfl, rfl⟩ dX1_hasMan_17

def S_X1_hasOx (x1 : Int32) (o_oxen : Nat) : Int32 := (if x1 < 0 then (0 : Int32) else (if (nI o_oxen) ≤ x1 then (0 : Int32) else (1 : Int32)))
theorem z_X1_hasOx (x1 : Int32) (o_oxen : Nat)  : S_X1_hasOx x1 o_oxen = 0 ∨ S_X1_hasOx x1 o_oxen = 1 := by unfold S_X1_hasOx; (repeat' split) <;> first | exact Or.inl rfl | exact Or.inr rfl | assumption
set_option maxHeartbeats 4000000 in
set_option maxRecDepth 100000 in
theorem c_X1_hasOx (l : Launch) (D : va_G) (tB tI tZ : ClassId) (a_o a_o_forgets a_o_weight a_o_chance a_o_knowsAtFirst a_o_oxWeight a_o_oxPrice : Nat) (o_year : Int32) (o_bridges : Nat) (o_men : Nat) (o_oxen : Nat) (x1 : Int32)  : CT l D (tyL tB tI tZ) yX1_hasOx (.code yX1_hasOx cX1_hasOx 2 (some .boolean)) 0 0 [.ref a_o, .int x1] [(a_o, .inr (1, [.int o_year, .int (nI o_bridges), .int (nI o_men), .int (nI o_oxen), .ref a_o_forgets, .ref a_o_weight, .ref a_o_chance, .ref a_o_knowsAtFirst, .ref a_o_oxWeight, .ref a_o_oxPrice]))] (fun u : Int32 => some (.int (u))) (fun _ : Int32 => [(a_o, .inr (1, [.int o_year, .int (nI o_bridges), .int (nI o_men), .int (nI o_oxen), .ref a_o_forgets, .ref a_o_weight, .ref a_o_chance, .ref a_o_knowsAtFirst, .ref a_o_oxWeight, .ref a_o_oxPrice]))]) (S_X1_hasOx x1 o_oxen) := by
  refine CT.intro (k := 0) (Nat.le_of_ble_eq_true rfl) (by decide) ?_
  intro p e s m below meth c Q A ls E hA hP hD hS hl hF
  obtain ⟨⟨hx, hb, hml, hown, hts⟩, hK⟩ := id E
  generalize hR : S_X1_hasOx x1 o_oxen = RES at hF
  unfold S_X1_hasOx at hR
  have hl : lv_has ls 2 [(0, .ref a_o), (1, .int x1)] := hl
  refine lv_iload_n hx hb dX1_hasOx_0 rfl (lv_at hl 1 rfl) ?_
  refine lv_if_lt (tgt := 16) hx hb dX1_hasOx_1 (by decide) (fun c_1 => ?_) (fun c_1 => ?_)
  · rw [if_pos c_1] at hR
    refine lv_iconst (v := (0 : Int32)) hx hb dX1_hasOx_16 (by decide) ?_
    subst hR
    exact (hF _ _ _ _ hP hS).1 _ rfl ⟨.boolean, rfl, rfl⟩ dX1_hasOx_17
  · rw [if_neg c_1] at hR
    refine lv_iload_n hx hb dX1_hasOx_4 rfl (lv_at hl 1 rfl) ?_
    refine lv_aload_n hx hb dX1_hasOx_5 rfl (lv_at hl 0 rfl) ?_
    refine fget E hP 0 rfl fd_X1_43 (v := .int (nI o_oxen)) rfl dX1_hasOx_6 ?_
    refine lv_icmp_ge (tgt := 16) hx hb dX1_hasOx_9 (by decide) (fun c_2 => ?_) (fun c_2 => ?_)
    · rw [if_pos c_2] at hR
      refine lv_iconst (v := (0 : Int32)) hx hb dX1_hasOx_16 (by decide) ?_
      subst hR
      exact (hF _ _ _ _ hP hS).1 _ rfl ⟨.boolean, rfl, rfl⟩ dX1_hasOx_17
    · rw [if_neg c_2] at hR
      refine lv_iconst (v := (1 : Int32)) hx hb dX1_hasOx_12 (by decide) ?_
      refine lv_goto (tgt := 17) hx hb dX1_hasOx_13 (by decide) ?_
      subst hR
      exact (hF _ _ _ _ hP hS).1 _ rfl ⟨.boolean, rfl, rfl⟩ dX1_hasOx_17

theorem hasBridge_of {x : Int32} {n : Nat} (h : ¬ S_X1_hasBridge x n = 0) (hn : n ≤ 1000) : x = nI x.toNatClampNeg ∧ x.toNatClampNeg < n := by
  unfold S_X1_hasBridge at h
  by_cases h0 : x < 0
  · rw [if_pos h0] at h; exact absurd rfl h
  · rw [if_neg h0] at h
    by_cases h1 : nI n ≤ x
    · rw [if_pos h1] at h; exact absurd rfl h
    · exact rg_of h0 h1 hn
theorem hasMan_of {x : Int32} {n : Nat} (h : ¬ S_X1_hasMan x n = 0) (hn : n ≤ 1000) : x = nI x.toNatClampNeg ∧ x.toNatClampNeg < n := hasBridge_of (x := x) (n := n) h hn
theorem hasOx_of {x : Int32} {n : Nat} (h : ¬ S_X1_hasOx x n = 0) (hn : n ≤ 1000) : x = nI x.toNatClampNeg ∧ x.toNatClampNeg < n := hasBridge_of (x := x) (n := n) h hn

def S_X1_arePair (x1 : Int32) (x2 : Int32) (o_men : Nat) : Int32 := (if (S_X1_hasMan x1 o_men) = 0 then (0 : Int32) else (if (S_X1_hasMan x2 o_men) = 0 then (0 : Int32) else (if x1.toNatClampNeg = x2.toNatClampNeg then (0 : Int32) else (1 : Int32))))
theorem z_X1_arePair (x1 : Int32) (x2 : Int32) (o_men : Nat)  : S_X1_arePair x1 x2 o_men = 0 ∨ S_X1_arePair x1 x2 o_men = 1 := by unfold S_X1_arePair; (repeat' split) <;> first | exact Or.inl rfl | exact Or.inr rfl | assumption | exact z_X1_hasMan _ _
set_option maxHeartbeats 4000000 in
set_option maxRecDepth 100000 in
theorem c_X1_arePair (l : Launch) (D : va_G) (tB tI tZ : ClassId) (a_o a_o_forgets a_o_weight a_o_chance a_o_knowsAtFirst a_o_oxWeight a_o_oxPrice : Nat) (o_year : Int32) (o_bridges : Nat) (o_men : Nat) (o_oxen : Nat) (x1 : Int32) (x2 : Int32) (hmen : o_men ≤ 6) : CT l D (tyL tB tI tZ) yX1_arePair (.code yX1_arePair cX1_arePair 3 (some .boolean)) 1 21 [.ref a_o, .int x1, .int x2] [(a_o, .inr (1, [.int o_year, .int (nI o_bridges), .int (nI o_men), .int (nI o_oxen), .ref a_o_forgets, .ref a_o_weight, .ref a_o_chance, .ref a_o_knowsAtFirst, .ref a_o_oxWeight, .ref a_o_oxPrice]))] (fun u : Int32 => some (.int (u))) (fun _ : Int32 => [(a_o, .inr (1, [.int o_year, .int (nI o_bridges), .int (nI o_men), .int (nI o_oxen), .ref a_o_forgets, .ref a_o_weight, .ref a_o_chance, .ref a_o_knowsAtFirst, .ref a_o_oxWeight, .ref a_o_oxPrice]))]) (S_X1_arePair x1 x2 o_men) := by
  refine CT.intro (k := 0) (Nat.le_of_ble_eq_true rfl) (by decide) ?_
  intro p e s m below meth c Q A ls E hA hP hD hS hl hF
  obtain ⟨⟨hx, hb, hml, hown, hts⟩, hK⟩ := id E
  generalize hR : S_X1_arePair x1 x2 o_men = RES at hF
  unfold S_X1_arePair at hR
  have hl : lv_has ls 3 [(0, .ref a_o), (1, .int x1), (2, .int x2)] := hl
  refine lv_aload_n hx hb dX1_arePair_0 rfl (lv_at hl 0 rfl) ?_
  refine lv_iload_n hx hb dX1_arePair_1 rfl (lv_at hl 1 rfl) ?_
  refine kcV E hl.1 (c_X1_hasMan l D tB tI tZ a_o a_o_forgets a_o_weight a_o_chance a_o_knowsAtFirst a_o_oxWeight a_o_oxPrice o_year o_bridges o_men o_oxen x1 ) cv_X1_hasMan wm_X1_52 hP hD hS hA [0] rfl rfl rfl (ws2 := [(a_o, .inr (1, [.int o_year, .int (nI o_bridges), .int (nI o_men), .int (nI o_oxen), .ref a_o_forgets, .ref a_o_weight, .ref a_o_chance, .ref a_o_knowsAtFirst, .ref a_o_oxWeight, .ref a_o_oxPrice]))]) rfl rfl (b := a_o) (As := [.int x1]) (rest := []) 0 1 rfl rfl rfl rfl (Nat.le_of_ble_eq_true rfl) ⟨Nat.le_of_ble_eq_true rfl, Nat.le_of_ble_eq_true rfl⟩ ⟨Nat.zero_le _, Nat.zero_le _⟩ dX1_arePair_2 (fun H locs hP hD hS => ?_)
  refine lv_if_eq (tgt := 25) hx hb dX1_arePair_5 (by decide) (fun c_1 => ?_) (fun c_1 => ?_)
  · rw [if_pos c_1] at hR
    refine lv_iconst (v := (0 : Int32)) hx hb dX1_arePair_25 (by decide) ?_
    subst hR
    exact (hF _ _ _ _ hP hS).1 _ rfl ⟨.boolean, rfl, rfl⟩ dX1_arePair_26
  · rw [if_neg c_1] at hR
    obtain ⟨fa_c_1, fb_c_1⟩ := hasMan_of c_1 (by omega)
    refine lv_aload_n hx hb dX1_arePair_8 rfl (lv_at hl 0 rfl) ?_
    refine lv_iload_n hx hb dX1_arePair_9 rfl (lv_at hl 2 rfl) ?_
    refine kcV E hl.1 (c_X1_hasMan l D tB tI tZ a_o a_o_forgets a_o_weight a_o_chance a_o_knowsAtFirst a_o_oxWeight a_o_oxPrice o_year o_bridges o_men o_oxen x2 ) cv_X1_hasMan wm_X1_52 hP hD hS hA [0] rfl rfl rfl (ws2 := [(a_o, .inr (1, [.int o_year, .int (nI o_bridges), .int (nI o_men), .int (nI o_oxen), .ref a_o_forgets, .ref a_o_weight, .ref a_o_chance, .ref a_o_knowsAtFirst, .ref a_o_oxWeight, .ref a_o_oxPrice]))]) rfl rfl (b := a_o) (As := [.int x2]) (rest := []) 0 1 rfl rfl rfl rfl (Nat.le_of_ble_eq_true rfl) ⟨Nat.le_of_ble_eq_true rfl, Nat.le_of_ble_eq_true rfl⟩ ⟨Nat.zero_le _, Nat.zero_le _⟩ dX1_arePair_10 (fun H locs hP hD hS => ?_)
    refine lv_if_eq (tgt := 25) hx hb dX1_arePair_13 (by decide) (fun c_2 => ?_) (fun c_2 => ?_)
    · rw [if_pos c_2] at hR
      refine lv_iconst (v := (0 : Int32)) hx hb dX1_arePair_25 (by decide) ?_
      subst hR
      exact (hF _ _ _ _ hP hS).1 _ rfl ⟨.boolean, rfl, rfl⟩ dX1_arePair_26
    · rw [if_neg c_2] at hR
      obtain ⟨fa_c_2, fb_c_2⟩ := hasMan_of c_2 (by omega)
      refine lv_iload_n hx hb dX1_arePair_16 rfl (lv_at hl 1 rfl) ?_
      refine lv_is fa_c_1 ?_
      refine lv_iload_n hx hb dX1_arePair_17 rfl (lv_at hl 2 rfl) ?_
      refine lv_is fa_c_2 ?_
      refine ni_eq (a := x1.toNatClampNeg) (b := x2.toNatClampNeg) (tgt := 25) (by omega) (by omega) hx hb dX1_arePair_18 (by decide) (fun c_3 => ?_) (fun c_3 => ?_)
      · rw [if_pos c_3] at hR
        refine lv_iconst (v := (0 : Int32)) hx hb dX1_arePair_25 (by decide) ?_
        subst hR
        exact (hF _ _ _ _ hP hS).1 _ rfl ⟨.boolean, rfl, rfl⟩ dX1_arePair_26
      · rw [if_neg c_3] at hR
        refine lv_iconst (v := (1 : Int32)) hx hb dX1_arePair_21 (by decide) ?_
        refine lv_goto (tgt := 26) hx hb dX1_arePair_22 (by decide) ?_
        subst hR
        exact (hF _ _ _ _ hP hS).1 _ rfl ⟨.boolean, rfl, rfl⟩ dX1_arePair_26

theorem arePair_of {x y : Int32} {n : Nat} (h : ¬ S_X1_arePair x y n = 0) (hn : n ≤ 1000) : (x = nI x.toNatClampNeg ∧ x.toNatClampNeg < n) ∧ (y = nI y.toNatClampNeg ∧ y.toNatClampNeg < n) ∧ ¬ x.toNatClampNeg = y.toNatClampNeg := by
  unfold S_X1_arePair at h
  by_cases h0 : S_X1_hasMan x n = 0
  · rw [if_pos h0] at h; exact absurd rfl h
  · rw [if_neg h0] at h
    by_cases h1 : S_X1_hasMan y n = 0
    · rw [if_pos h1] at h; exact absurd rfl h
    · rw [if_neg h1] at h
      by_cases h2 : x.toNatClampNeg = y.toNatClampNeg
      · rw [if_pos h2] at h; exact absurd rfl h
      · exact ⟨hasMan_of h0 hn, hasMan_of h1 hn, h2⟩

def S_X1_mayName (x1 : Int32) (x2 : Int32) (o_men : Nat) : Int32 := (if x2 = (-1 : Int32) then (S_X1_hasMan x1 o_men) else (S_X1_arePair x1 x2 o_men))
theorem z_X1_mayName (x1 : Int32) (x2 : Int32) (o_men : Nat)  : S_X1_mayName x1 x2 o_men = 0 ∨ S_X1_mayName x1 x2 o_men = 1 := by unfold S_X1_mayName; (repeat' split) <;> first | exact Or.inl rfl | exact Or.inr rfl | assumption | exact z_X1_arePair _ _ _ | exact z_X1_hasMan _ _
set_option maxHeartbeats 4000000 in
set_option maxRecDepth 100000 in
theorem c_X1_mayName (l : Launch) (D : va_G) (tB tI tZ : ClassId) (a_o a_o_forgets a_o_weight a_o_chance a_o_knowsAtFirst a_o_oxWeight a_o_oxPrice : Nat) (o_year : Int32) (o_bridges : Nat) (o_men : Nat) (o_oxen : Nat) (x1 : Int32) (x2 : Int32) (hmen : o_men ≤ 6) : CT l D (tyL tB tI tZ) yX1_mayName (.code yX1_mayName cX1_mayName 3 (some .boolean)) 2 43 [.ref a_o, .int x1, .int x2] [(a_o, .inr (1, [.int o_year, .int (nI o_bridges), .int (nI o_men), .int (nI o_oxen), .ref a_o_forgets, .ref a_o_weight, .ref a_o_chance, .ref a_o_knowsAtFirst, .ref a_o_oxWeight, .ref a_o_oxPrice]))] (fun u : Int32 => some (.int (u))) (fun _ : Int32 => [(a_o, .inr (1, [.int o_year, .int (nI o_bridges), .int (nI o_men), .int (nI o_oxen), .ref a_o_forgets, .ref a_o_weight, .ref a_o_chance, .ref a_o_knowsAtFirst, .ref a_o_oxWeight, .ref a_o_oxPrice]))]) (S_X1_mayName x1 x2 o_men) := by
  refine CT.intro (k := 0) (Nat.le_of_ble_eq_true rfl) (by decide) ?_
  intro p e s m below meth c Q A ls E hA hP hD hS hl hF
  obtain ⟨⟨hx, hb, hml, hown, hts⟩, hK⟩ := id E
  generalize hR : S_X1_mayName x1 x2 o_men = RES at hF
  unfold S_X1_mayName at hR
  have hl : lv_has ls 3 [(0, .ref a_o), (1, .int x1), (2, .int x2)] := hl
  refine lv_iload_n hx hb dX1_mayName_0 rfl (lv_at hl 2 rfl) ?_
  refine lv_iconst (v := (-1 : Int32)) hx hb dX1_mayName_1 (by decide) ?_
  refine lv_icmp_ne (tgt := 13) hx hb dX1_mayName_2 (by decide) (fun c_1 => ?_) (fun c_1 => ?_)
  · rw [if_neg c_1] at hR
    refine lv_aload_n hx hb dX1_mayName_13 rfl (lv_at hl 0 rfl) ?_
    refine lv_iload_n hx hb dX1_mayName_14 rfl (lv_at hl 1 rfl) ?_
    refine lv_iload_n hx hb dX1_mayName_15 rfl (lv_at hl 2 rfl) ?_
    refine kcV E hl.1 (c_X1_arePair l D tB tI tZ a_o a_o_forgets a_o_weight a_o_chance a_o_knowsAtFirst a_o_oxWeight a_o_oxPrice o_year o_bridges o_men o_oxen x1 x2 (show o_men ≤ 6 by first | assumption | omega | exact NN.none | exact NN.nat (by omega) (by omega) | exact NN.up (by assumption) (by omega))) cv_X1_arePair wm_X1_56 hP hD hS hA [0] rfl rfl rfl (ws2 := [(a_o, .inr (1, [.int o_year, .int (nI o_bridges), .int (nI o_men), .int (nI o_oxen), .ref a_o_forgets, .ref a_o_weight, .ref a_o_chance, .ref a_o_knowsAtFirst, .ref a_o_oxWeight, .ref a_o_oxPrice]))]) rfl rfl (b := a_o) (As := [.int x1, .int x2]) (rest := []) 0 1 rfl rfl rfl rfl (Nat.le_of_ble_eq_true rfl) ⟨Nat.le_of_ble_eq_true rfl, Nat.le_of_ble_eq_true rfl⟩ ⟨Nat.zero_le _, Nat.zero_le _⟩ dX1_mayName_16 (fun H locs hP hD hS => ?_)
    subst hR
    exact (hF _ _ _ _ hP hS).1 _ rfl ⟨.boolean, rfl, zn _ (z_X1_arePair _ _ _)⟩ dX1_mayName_19
  · rw [if_pos c_1] at hR
    refine lv_aload_n hx hb dX1_mayName_5 rfl (lv_at hl 0 rfl) ?_
    refine lv_iload_n hx hb dX1_mayName_6 rfl (lv_at hl 1 rfl) ?_
    refine kcV E hl.1 (c_X1_hasMan l D tB tI tZ a_o a_o_forgets a_o_weight a_o_chance a_o_knowsAtFirst a_o_oxWeight a_o_oxPrice o_year o_bridges o_men o_oxen x1 ) cv_X1_hasMan wm_X1_52 hP hD hS hA [0] rfl rfl rfl (ws2 := [(a_o, .inr (1, [.int o_year, .int (nI o_bridges), .int (nI o_men), .int (nI o_oxen), .ref a_o_forgets, .ref a_o_weight, .ref a_o_chance, .ref a_o_knowsAtFirst, .ref a_o_oxWeight, .ref a_o_oxPrice]))]) rfl rfl (b := a_o) (As := [.int x1]) (rest := []) 0 1 rfl rfl rfl rfl (Nat.le_of_ble_eq_true rfl) ⟨Nat.le_of_ble_eq_true rfl, Nat.le_of_ble_eq_true rfl⟩ ⟨Nat.zero_le _, Nat.zero_le _⟩ dX1_mayName_7 (fun H locs hP hD hS => ?_)
    refine lv_goto (tgt := 19) hx hb dX1_mayName_10 (by decide) ?_
    subst hR
    exact (hF _ _ _ _ hP hS).1 _ rfl ⟨.boolean, rfl, zn _ (z_X1_hasMan _ _)⟩ dX1_mayName_19

theorem mayName_of {x y : Int32} {n : Nat} (h : ¬ S_X1_mayName x y n = 0) (hn : n ≤ 1000) : (x = nI x.toNatClampNeg ∧ x.toNatClampNeg < n) ∧ NN n y := by
  unfold S_X1_mayName at h
  by_cases h0 : y = (-1)
  · rw [if_pos h0] at h; exact ⟨hasMan_of h hn, Or.inl h0⟩
  · rw [if_neg h0] at h
    exact ⟨(arePair_of h hn).1, Or.inr (arePair_of h hn).2.1⟩

def S_X1_everybody (o_men : Nat) : Int32 := ((S_X6_bit (nI o_men)) - (1 : Int32))
set_option maxHeartbeats 4000000 in
set_option maxRecDepth 100000 in
theorem c_X1_everybody (l : Launch) (D : va_G) (tB tI tZ : ClassId) (a_o a_o_forgets a_o_weight a_o_chance a_o_knowsAtFirst a_o_oxWeight a_o_oxPrice : Nat) (o_year : Int32) (o_bridges : Nat) (o_men : Nat) (o_oxen : Nat)   : CT l D (tyL tB tI tZ) yX1_everybody (.code yX1_everybody cX1_everybody 1 (some .int)) 1 20 [.ref a_o] [(a_o, .inr (1, [.int o_year, .int (nI o_bridges), .int (nI o_men), .int (nI o_oxen), .ref a_o_forgets, .ref a_o_weight, .ref a_o_chance, .ref a_o_knowsAtFirst, .ref a_o_oxWeight, .ref a_o_oxPrice]))] (fun u : Int32 => some (.int (u))) (fun _ : Int32 => [(a_o, .inr (1, [.int o_year, .int (nI o_bridges), .int (nI o_men), .int (nI o_oxen), .ref a_o_forgets, .ref a_o_weight, .ref a_o_chance, .ref a_o_knowsAtFirst, .ref a_o_oxWeight, .ref a_o_oxPrice]))]) (S_X1_everybody o_men) := by
  refine CT.intro (k := 0) (Nat.le_of_ble_eq_true rfl) (by decide) ?_
  intro p e s m below meth c Q A ls E hA hP hD hS hl hF
  obtain ⟨⟨hx, hb, hml, hown, hts⟩, hK⟩ := id E
  generalize hR : S_X1_everybody o_men = RES at hF
  unfold S_X1_everybody at hR
  have hl : lv_has ls 1 [(0, .ref a_o)] := hl
  refine lv_aload_n hx hb dX1_everybody_0 rfl (lv_at hl 0 rfl) ?_
  refine fget E hP 0 rfl fd_X1_40 (v := .int (nI o_men)) rfl dX1_everybody_1 ?_
  refine kcSN E hl.1 (c_X6_bit l D tB tI tZ (nI o_men) ) cs_X6_bit 5 rfl hP hD hS hA [] rfl rfl rfl (ws2 := [(a_o, .inr (1, [.int o_year, .int (nI o_bridges), .int (nI o_men), .int (nI o_oxen), .ref a_o_forgets, .ref a_o_weight, .ref a_o_chance, .ref a_o_knowsAtFirst, .ref a_o_oxWeight, .ref a_o_oxPrice]))]) rfl rfl (As := [.int (nI o_men)]) (rest := []) rfl rfl (Nat.le_of_ble_eq_true rfl) ⟨Nat.le_of_ble_eq_true rfl, Nat.le_of_ble_eq_true rfl⟩ ⟨Nat.zero_le _, Nat.zero_le _⟩ dX1_everybody_4 (fun H locs hP hD hS => ?_)
  refine lv_iconst (v := (1 : Int32)) hx hb dX1_everybody_7 (by decide) ?_
  refine lv_isub hx hb dX1_everybody_8 ?_
  subst hR
  exact (hF _ _ _ _ hP hS).1 _ rfl ⟨.int, rfl, rfl⟩ dX1_everybody_9

def S_X1_yearOf (x1 : Int32) (o_year : Int32) : Int32 := (if (1 : Int32) ≤ o_year then (x1 / o_year) else (0 : Int32))
set_option maxHeartbeats 4000000 in
set_option maxRecDepth 100000 in
theorem c_X1_yearOf (l : Launch) (D : va_G) (tB tI tZ : ClassId) (a_o a_o_forgets a_o_weight a_o_chance a_o_knowsAtFirst a_o_oxWeight a_o_oxPrice : Nat) (o_year : Int32) (o_bridges : Nat) (o_men : Nat) (o_oxen : Nat) (x1 : Int32)  : CT l D (tyL tB tI tZ) yX1_yearOf (.code yX1_yearOf cX1_yearOf 2 (some .int)) 0 0 [.ref a_o, .int x1] [(a_o, .inr (1, [.int o_year, .int (nI o_bridges), .int (nI o_men), .int (nI o_oxen), .ref a_o_forgets, .ref a_o_weight, .ref a_o_chance, .ref a_o_knowsAtFirst, .ref a_o_oxWeight, .ref a_o_oxPrice]))] (fun u : Int32 => some (.int (u))) (fun _ : Int32 => [(a_o, .inr (1, [.int o_year, .int (nI o_bridges), .int (nI o_men), .int (nI o_oxen), .ref a_o_forgets, .ref a_o_weight, .ref a_o_chance, .ref a_o_knowsAtFirst, .ref a_o_oxWeight, .ref a_o_oxPrice]))]) (S_X1_yearOf x1 o_year) := by
  refine CT.intro (k := 0) (Nat.le_of_ble_eq_true rfl) (by decide) ?_
  intro p e s m below meth c Q A ls E hA hP hD hS hl hF
  obtain ⟨⟨hx, hb, hml, hown, hts⟩, hK⟩ := id E
  generalize hR : S_X1_yearOf x1 o_year = RES at hF
  unfold S_X1_yearOf at hR
  have hl : lv_has ls 2 [(0, .ref a_o), (1, .int x1)] := hl
  refine lv_aload_n hx hb dX1_yearOf_0 rfl (lv_at hl 0 rfl) ?_
  refine fget E hP 0 rfl fd_X1_33 (v := .int o_year) rfl dX1_yearOf_1 ?_
  refine lv_iconst (v := (1 : Int32)) hx hb dX1_yearOf_4 (by decide) ?_
  refine lv_icmp_ge (tgt := 12) hx hb dX1_yearOf_5 (by decide) (fun c_1 => ?_) (fun c_1 => ?_)
  · rw [if_pos c_1] at hR
    refine lv_iload_n hx hb dX1_yearOf_12 rfl (lv_at hl 1 rfl) ?_
    refine lv_aload_n hx hb dX1_yearOf_13 rfl (lv_at hl 0 rfl) ?_
    refine fget E hP 0 rfl fd_X1_33 (v := .int o_year) rfl dX1_yearOf_14 ?_
    refine lv_idiv hx hb dX1_yearOf_17 (fun z => absurd c_1 (by rw [z]; decide)) ?_
    subst hR
    exact (hF _ _ _ _ hP hS).1 _ rfl ⟨.int, rfl, rfl⟩ dX1_yearOf_18
  · rw [if_neg c_1] at hR
    refine lv_iconst (v := (0 : Int32)) hx hb dX1_yearOf_8 (by decide) ?_
    refine lv_goto (tgt := 18) hx hb dX1_yearOf_9 (by decide) ?_
    subst hR
    exact (hF _ _ _ _ hP hS).1 _ rfl ⟨.int, rfl, rfl⟩ dX1_yearOf_18

def K_X1_heavierThan_4  (v2_4 : Int32) : Int32 := v2_4
def B_X1_heavierThan_4 (x1 : Int32) (o_weight : Nat → Int32) (k_4 : Nat) (v2_4 : Int32) : Int32 := (if (o_weight k_4) ≤ x1 then v2_4 else (v2_4 ||| (S_X6_bit (nI k_4))))
def S_X1_heavierThan (x1 : Int32) (o_men : Nat) (o_weight : Nat → Int32) : Int32 := ((fun a => K_X1_heavierThan_4 a) (iter (fun k a => B_X1_heavierThan_4 x1 o_weight k a) o_men 0 (0 : Int32)))
set_option maxHeartbeats 4000000 in
set_option maxRecDepth 100000 in
theorem c_X1_heavierThan (l : Launch) (D : va_G) (tB tI tZ : ClassId) (a_o a_o_forgets a_o_weight a_o_chance a_o_knowsAtFirst a_o_oxWeight a_o_oxPrice : Nat) (o_year : Int32) (o_bridges : Nat) (o_men : Nat) (o_oxen : Nat) (o_weight : Nat → Int32) (x1 : Int32) (hmen : o_men ≤ 6) : CT l D (tyL tB tI tZ) yX1_heavierThan (.code yX1_heavierThan cX1_heavierThan 4 (some .int)) 1 20 [.ref a_o, .int x1] [(a_o, .inr (1, [.int o_year, .int (nI o_bridges), .int (nI o_men), .int (nI o_oxen), .ref a_o_forgets, .ref a_o_weight, .ref a_o_chance, .ref a_o_knowsAtFirst, .ref a_o_oxWeight, .ref a_o_oxPrice])), (a_o_weight, .inl (tI, 6, .inl o_weight))] (fun u : Int32 => some (.int (u))) (fun _ : Int32 => [(a_o, .inr (1, [.int o_year, .int (nI o_bridges), .int (nI o_men), .int (nI o_oxen), .ref a_o_forgets, .ref a_o_weight, .ref a_o_chance, .ref a_o_knowsAtFirst, .ref a_o_oxWeight, .ref a_o_oxPrice])), (a_o_weight, .inl (tI, 6, .inl o_weight))]) (S_X1_heavierThan x1 o_men o_weight) := by
  refine CT.intro (k := 0) (Nat.le_of_ble_eq_true rfl) (by decide) ?_
  intro p e s m below meth c Q A ls E hA hP hD hS hl hF
  obtain ⟨⟨hx, hb, hml, hown, hts⟩, hK⟩ := id E
  generalize hR : S_X1_heavierThan x1 o_men o_weight = RES at hF
  unfold S_X1_heavierThan at hR
  have hl : lv_has ls 4 [(0, .ref a_o), (1, .int x1)] := hl
  refine lv_iconst (v := (0 : Int32)) hx hb dX1_heavierThan_0 (by decide) ?_
  refine lv_istore_n (lv' := [(2, .int (0 : Int32)), (0, .ref a_o), (1, .int x1)]) hx hb dX1_heavierThan_1 rfl hl (by decide) rfl (fun ls hl => ?_)
  refine lv_iconst (v := (0 : Int32)) hx hb dX1_heavierThan_2 (by decide) ?_
  refine lv_istore_n (lv' := [(3, .int (0 : Int32)), (2, .int (0 : Int32)), (0, .ref a_o), (1, .int x1)]) hx hb dX1_heavierThan_3 rfl hl (by decide) rfl (fun ls hl => ?_)
  have EX_4 : ∀ (v2_4 : Int32)  (H : Heap) (locs : List Loc) (ls : Array Slot), K_X1_heavierThan_4 v2_4 = RES → va_P D vwCl [(a_o, .inr (1, [.int o_year, .int (nI o_bridges), .int (nI o_men), .int (nI o_oxen), .ref a_o_forgets, .ref a_o_weight, .ref a_o_chance, .ref a_o_knowsAtFirst, .ref a_o_oxWeight, .ref a_o_oxPrice])), (a_o_weight, .inl (tI, 6, .inl o_weight))] H → va_D A [(a_o, .inr (1, [.int o_year, .int (nI o_bridges), .int (nI o_men), .int (nI o_oxen), .ref a_o_forgets, .ref a_o_weight, .ref a_o_chance, .ref a_o_knowsAtFirst, .ref a_o_oxWeight, .ref a_o_oxPrice])), (a_o_weight, .inl (tI, 6, .inl o_weight))] → va_S A s.heap H locs → lv_has ls 4 [(2, .int v2_4)] → W p l e { frames := 1, cells := 0, slots := 0, locals := 20 } s m ([.ref a_o, .int x1] : List Value).toArray below meth c H locs 0 0 Q (F0 m 35 ls []) := by
    intro v2_4 H locs ls hR hP hD hS hl
    unfold K_X1_heavierThan_4 at hR
    refine lv_iload_n hx hb dX1_heavierThan_35 rfl (lv_at hl 0 rfl) ?_
    subst hR
    exact (hF _ _ _ _ hP hS).1 _ rfl ⟨.int, rfl, rfl⟩ dX1_heavierThan_36
  have LP_4 : ∀ (n_4 k_4 : Nat) (v2_4 : Int32)  (H : Heap) (locs : List Loc) (ls : Array Slot), k_4 + n_4 = o_men → (fun a => K_X1_heavierThan_4 a) (iter (fun k a => B_X1_heavierThan_4 x1 o_weight k a) n_4 k_4 v2_4) = RES → va_P D vwCl [(a_o, .inr (1, [.int o_year, .int (nI o_bridges), .int (nI o_men), .int (nI o_oxen), .ref a_o_forgets, .ref a_o_weight, .ref a_o_chance, .ref a_o_knowsAtFirst, .ref a_o_oxWeight, .ref a_o_oxPrice])), (a_o_weight, .inl (tI, 6, .inl o_weight))] H → va_D A [(a_o, .inr (1, [.int o_year, .int (nI o_bridges), .int (nI o_men), .int (nI o_oxen), .ref a_o_forgets, .ref a_o_weight, .ref a_o_chance, .ref a_o_knowsAtFirst, .ref a_o_oxWeight, .ref a_o_oxPrice])), (a_o_weight, .inl (tI, 6, .inl o_weight))] → va_S A s.heap H locs → lv_has ls 4 [(3, .int (nI k_4)), (2, .int v2_4), (0, .ref a_o), (1, .int x1)] → W p l e { frames := 1, cells := 0, slots := 0, locals := 20 } s m ([.ref a_o, .int x1] : List Value).toArray below meth c H locs 0 0 Q (F0 m 4 ls []) := by
    intro n_4
    induction n_4 with
    | zero =>
      intro k_4 v2_4 H locs ls hn_4 hR hP hD hS hl
      refine lv_iload_n hx hb dX1_heavierThan_4 rfl (lv_at hl 0 rfl) ?_
      refine lv_aload_n hx hb dX1_heavierThan_5 rfl (lv_at hl 2 rfl) ?_
      refine fget E hP 0 rfl fd_X1_40 (v := .int (nI o_men)) rfl dX1_heavierThan_6 ?_
      refine ni_ge (a := k_4) (b := o_men) (tgt := 35) (by omega) (by omega) hx hb dX1_heavierThan_9 (by decide) (fun g_4 => ?_) (fun g_4 => ?_)
      · exact EX_4 v2_4  _ _ _ hR hP hD hS (lv_sub hl [1] rfl)
      · exfalso; omega
    | succ n_4 ih_4 =>
      intro k_4 v2_4 H locs ls hn_4 hR hP hD hS hl
      have hR : (fun a => K_X1_heavierThan_4 a) (iter (fun k a => B_X1_heavierThan_4 x1 o_weight k a) n_4 (k_4 + 1) (B_X1_heavierThan_4 x1 o_weight k_4 v2_4)) = RES := hR
      generalize hB_4 : B_X1_heavierThan_4 x1 o_weight k_4 v2_4 = RB_4 at hR
      unfold B_X1_heavierThan_4 at hB_4
      refine lv_iload_n hx hb dX1_heavierThan_4 rfl (lv_at hl 0 rfl) ?_
      refine lv_aload_n hx hb dX1_heavierThan_5 rfl (lv_at hl 2 rfl) ?_
      refine fget E hP 0 rfl fd_X1_40 (v := .int (nI o_men)) rfl dX1_heavierThan_6 ?_
      refine ni_ge (a := k_4) (b := o_men) (tgt := 35) (by omega) (by omega) hx hb dX1_heavierThan_9 (by decide) (fun g_4 => ?_) (fun g_4 => ?_)
      · exfalso; omega
      · refine lv_aload_n hx hb dX1_heavierThan_12 rfl (lv_at hl 2 rfl) ?_
        refine fget E hP 0 rfl fd_X1_15 (v := .ref a_o_weight) rfl dX1_heavierThan_13 ?_
        refine lv_iload_n hx hb dX1_heavierThan_16 rfl (lv_at hl 0 rfl) ?_
        refine ild E hP 1 rfl (k := k_4) (by omega) (by decide) dX1_heavierThan_17 ?_
        refine lv_iload_n hx hb dX1_heavierThan_18 rfl (lv_at hl 3 rfl) ?_
        refine lv_icmp_le (tgt := 29) hx hb dX1_heavierThan_19 (by decide) (fun c_2 => ?_) (fun c_2 => ?_)
        · rw [if_pos c_2] at hB_4
          refine lv_iinc (v := (nI (k_4 + 1))) (lv' := [(3, .int (nI (k_4 + 1))), (2, .int v2_4), (0, .ref a_o), (1, .int x1)]) hx hb dX1_heavierThan_29 hl (k := 0) rfl (nI_i1 k_4) (by decide) rfl (fun ls hl => ?_)
          refine lv_goto (tgt := 4) hx hb dX1_heavierThan_32 (by decide) ?_
          subst hB_4
          exact ih_4 (k_4 + 1) v2_4  _ _ _ (by omega) hR hP hD hS (lv_sub hl [0, 1, 2, 3] rfl)
        · rw [if_neg c_2] at hB_4
          refine lv_iload_n hx hb dX1_heavierThan_22 rfl (lv_at hl 1 rfl) ?_
          refine lv_iload_n hx hb dX1_heavierThan_23 rfl (lv_at hl 0 rfl) ?_
          refine kcSN E hl.1 (c_X6_bit l D tB tI tZ (nI k_4) ) cs_X6_bit 5 rfl hP hD hS hA [] rfl rfl rfl (ws2 := [(a_o, .inr (1, [.int o_year, .int (nI o_bridges), .int (nI o_men), .int (nI o_oxen), .ref a_o_forgets, .ref a_o_weight, .ref a_o_chance, .ref a_o_knowsAtFirst, .ref a_o_oxWeight, .ref a_o_oxPrice])), (a_o_weight, .inl (tI, 6, .inl o_weight))]) rfl rfl (As := [.int (nI k_4)]) (rest := [.int v2_4]) rfl rfl (Nat.le_of_ble_eq_true rfl) ⟨Nat.le_of_ble_eq_true rfl, Nat.le_of_ble_eq_true rfl⟩ ⟨Nat.zero_le _, Nat.zero_le _⟩ dX1_heavierThan_24 (fun H locs hP hD hS => ?_)
          refine lv_ior hx hb dX1_heavierThan_27 ?_
          refine lv_istore_n (lv' := [(2, .int (v2_4 ||| (S_X6_bit (nI k_4)))), (3, .int (nI k_4)), (0, .ref a_o), (1, .int x1)]) hx hb dX1_heavierThan_28 rfl hl (by decide) rfl (fun ls hl => ?_)
          refine lv_iinc (v := (nI (k_4 + 1))) (lv' := [(3, .int (nI (k_4 + 1))), (2, .int (v2_4 ||| (S_X6_bit (nI k_4)))), (0, .ref a_o), (1, .int x1)]) hx hb dX1_heavierThan_29 hl (k := 1) rfl (nI_i1 k_4) (by decide) rfl (fun ls hl => ?_)
          refine lv_goto (tgt := 4) hx hb dX1_heavierThan_32 (by decide) ?_
          subst hB_4
          exact ih_4 (k_4 + 1) (v2_4 ||| (S_X6_bit (nI k_4)))  _ _ _ (by omega) hR hP hD hS (lv_sub hl [0, 1, 2, 3] rfl)
  exact LP_4 o_men 0 (0 : Int32)  _ _ _ (by omega) hR hP hD hS (lv_sub hl [0, 1, 2, 3] rfl)

def K_X1_heaviestOx_4  (v2_4 : Int32) : Int32 := v2_4
def B_X1_heaviestOx_4 (x1 : Int32) (o_oxWeight : Nat → Int32) (k_4 : Nat) (v2_4 : Int32) : Int32 := (if (S_X6_has x1 (nI k_4)) = 0 then v2_4 else (if v2_4 < (o_oxWeight k_4) then (o_oxWeight k_4) else v2_4))
def S_X1_heaviestOx (x1 : Int32) (o_oxen : Nat) (o_oxWeight : Nat → Int32) : Int32 := ((fun a => K_X1_heaviestOx_4 a) (iter (fun k a => B_X1_heaviestOx_4 x1 o_oxWeight k a) o_oxen 0 (0 : Int32)))
set_option maxHeartbeats 4000000 in
set_option maxRecDepth 100000 in
theorem c_X1_heaviestOx (l : Launch) (D : va_G) (tB tI tZ : ClassId) (a_o a_o_forgets a_o_weight a_o_chance a_o_knowsAtFirst a_o_oxWeight a_o_oxPrice : Nat) (o_year : Int32) (o_bridges : Nat) (o_men : Nat) (o_oxen : Nat) (o_oxWeight : Nat → Int32) (x1 : Int32) (hox : o_oxen ≤ 5) : CT l D (tyL tB tI tZ) yX1_heaviestOx (.code yX1_heaviestOx cX1_heaviestOx 4 (some .int)) 2 41 [.ref a_o, .int x1] [(a_o, .inr (1, [.int o_year, .int (nI o_bridges), .int (nI o_men), .int (nI o_oxen), .ref a_o_forgets, .ref a_o_weight, .ref a_o_chance, .ref a_o_knowsAtFirst, .ref a_o_oxWeight, .ref a_o_oxPrice])), (a_o_oxWeight, .inl (tI, 5, .inl o_oxWeight))] (fun u : Int32 => some (.int (u))) (fun _ : Int32 => [(a_o, .inr (1, [.int o_year, .int (nI o_bridges), .int (nI o_men), .int (nI o_oxen), .ref a_o_forgets, .ref a_o_weight, .ref a_o_chance, .ref a_o_knowsAtFirst, .ref a_o_oxWeight, .ref a_o_oxPrice])), (a_o_oxWeight, .inl (tI, 5, .inl o_oxWeight))]) (S_X1_heaviestOx x1 o_oxen o_oxWeight) := by
  refine CT.intro (k := 0) (Nat.le_of_ble_eq_true rfl) (by decide) ?_
  intro p e s m below meth c Q A ls E hA hP hD hS hl hF
  obtain ⟨⟨hx, hb, hml, hown, hts⟩, hK⟩ := id E
  generalize hR : S_X1_heaviestOx x1 o_oxen o_oxWeight = RES at hF
  unfold S_X1_heaviestOx at hR
  have hl : lv_has ls 4 [(0, .ref a_o), (1, .int x1)] := hl
  refine lv_iconst (v := (0 : Int32)) hx hb dX1_heaviestOx_0 (by decide) ?_
  refine lv_istore_n (lv' := [(2, .int (0 : Int32)), (0, .ref a_o), (1, .int x1)]) hx hb dX1_heaviestOx_1 rfl hl (by decide) rfl (fun ls hl => ?_)
  refine lv_iconst (v := (0 : Int32)) hx hb dX1_heaviestOx_2 (by decide) ?_
  refine lv_istore_n (lv' := [(3, .int (0 : Int32)), (2, .int (0 : Int32)), (0, .ref a_o), (1, .int x1)]) hx hb dX1_heaviestOx_3 rfl hl (by decide) rfl (fun ls hl => ?_)
  have EX_4 : ∀ (v2_4 : Int32)  (H : Heap) (locs : List Loc) (ls : Array Slot), K_X1_heaviestOx_4 v2_4 = RES → va_P D vwCl [(a_o, .inr (1, [.int o_year, .int (nI o_bridges), .int (nI o_men), .int (nI o_oxen), .ref a_o_forgets, .ref a_o_weight, .ref a_o_chance, .ref a_o_knowsAtFirst, .ref a_o_oxWeight, .ref a_o_oxPrice])), (a_o_oxWeight, .inl (tI, 5, .inl o_oxWeight))] H → va_D A [(a_o, .inr (1, [.int o_year, .int (nI o_bridges), .int (nI o_men), .int (nI o_oxen), .ref a_o_forgets, .ref a_o_weight, .ref a_o_chance, .ref a_o_knowsAtFirst, .ref a_o_oxWeight, .ref a_o_oxPrice])), (a_o_oxWeight, .inl (tI, 5, .inl o_oxWeight))] → va_S A s.heap H locs → lv_has ls 4 [(2, .int v2_4)] → W p l e { frames := 2, cells := 0, slots := 0, locals := 41 } s m ([.ref a_o, .int x1] : List Value).toArray below meth c H locs 0 0 Q (F0 m 37 ls []) := by
    intro v2_4 H locs ls hR hP hD hS hl
    unfold K_X1_heaviestOx_4 at hR
    refine lv_iload_n hx hb dX1_heaviestOx_37 rfl (lv_at hl 0 rfl) ?_
    subst hR
    exact (hF _ _ _ _ hP hS).1 _ rfl ⟨.int, rfl, rfl⟩ dX1_heaviestOx_38
  have LP_4 : ∀ (n_4 k_4 : Nat) (v2_4 : Int32)  (H : Heap) (locs : List Loc) (ls : Array Slot), k_4 + n_4 = o_oxen → (fun a => K_X1_heaviestOx_4 a) (iter (fun k a => B_X1_heaviestOx_4 x1 o_oxWeight k a) n_4 k_4 v2_4) = RES → va_P D vwCl [(a_o, .inr (1, [.int o_year, .int (nI o_bridges), .int (nI o_men), .int (nI o_oxen), .ref a_o_forgets, .ref a_o_weight, .ref a_o_chance, .ref a_o_knowsAtFirst, .ref a_o_oxWeight, .ref a_o_oxPrice])), (a_o_oxWeight, .inl (tI, 5, .inl o_oxWeight))] H → va_D A [(a_o, .inr (1, [.int o_year, .int (nI o_bridges), .int (nI o_men), .int (nI o_oxen), .ref a_o_forgets, .ref a_o_weight, .ref a_o_chance, .ref a_o_knowsAtFirst, .ref a_o_oxWeight, .ref a_o_oxPrice])), (a_o_oxWeight, .inl (tI, 5, .inl o_oxWeight))] → va_S A s.heap H locs → lv_has ls 4 [(3, .int (nI k_4)), (2, .int v2_4), (0, .ref a_o), (1, .int x1)] → W p l e { frames := 2, cells := 0, slots := 0, locals := 41 } s m ([.ref a_o, .int x1] : List Value).toArray below meth c H locs 0 0 Q (F0 m 4 ls []) := by
    intro n_4
    induction n_4 with
    | zero =>
      intro k_4 v2_4 H locs ls hn_4 hR hP hD hS hl
      refine lv_iload_n hx hb dX1_heaviestOx_4 rfl (lv_at hl 0 rfl) ?_
      refine lv_aload_n hx hb dX1_heaviestOx_5 rfl (lv_at hl 2 rfl) ?_
      refine fget E hP 0 rfl fd_X1_43 (v := .int (nI o_oxen)) rfl dX1_heaviestOx_6 ?_
      refine ni_ge (a := k_4) (b := o_oxen) (tgt := 37) (by omega) (by omega) hx hb dX1_heaviestOx_9 (by decide) (fun g_4 => ?_) (fun g_4 => ?_)
      · exact EX_4 v2_4  _ _ _ hR hP hD hS (lv_sub hl [1] rfl)
      · exfalso; omega
    | succ n_4 ih_4 =>
      intro k_4 v2_4 H locs ls hn_4 hR hP hD hS hl
      have hR : (fun a => K_X1_heaviestOx_4 a) (iter (fun k a => B_X1_heaviestOx_4 x1 o_oxWeight k a) n_4 (k_4 + 1) (B_X1_heaviestOx_4 x1 o_oxWeight k_4 v2_4)) = RES := hR
      generalize hB_4 : B_X1_heaviestOx_4 x1 o_oxWeight k_4 v2_4 = RB_4 at hR
      unfold B_X1_heaviestOx_4 at hB_4
      refine lv_iload_n hx hb dX1_heaviestOx_4 rfl (lv_at hl 0 rfl) ?_
      refine lv_aload_n hx hb dX1_heaviestOx_5 rfl (lv_at hl 2 rfl) ?_
      refine fget E hP 0 rfl fd_X1_43 (v := .int (nI o_oxen)) rfl dX1_heaviestOx_6 ?_
      refine ni_ge (a := k_4) (b := o_oxen) (tgt := 37) (by omega) (by omega) hx hb dX1_heaviestOx_9 (by decide) (fun g_4 => ?_) (fun g_4 => ?_)
      · exfalso; omega
      · refine lv_iload_n hx hb dX1_heaviestOx_12 rfl (lv_at hl 3 rfl) ?_
        refine lv_iload_n hx hb dX1_heaviestOx_13 rfl (lv_at hl 0 rfl) ?_
        refine kcSN E hl.1 (c_X6_has l D tB tI tZ x1 (nI k_4) ) cs_X6_has 11 rfl hP hD hS hA [] rfl rfl rfl (ws2 := [(a_o, .inr (1, [.int o_year, .int (nI o_bridges), .int (nI o_men), .int (nI o_oxen), .ref a_o_forgets, .ref a_o_weight, .ref a_o_chance, .ref a_o_knowsAtFirst, .ref a_o_oxWeight, .ref a_o_oxPrice])), (a_o_oxWeight, .inl (tI, 5, .inl o_oxWeight))]) rfl rfl (As := [.int x1, .int (nI k_4)]) (rest := []) rfl rfl (Nat.le_of_ble_eq_true rfl) ⟨Nat.le_of_ble_eq_true rfl, Nat.le_of_ble_eq_true rfl⟩ ⟨Nat.zero_le _, Nat.zero_le _⟩ dX1_heaviestOx_14 (fun H locs hP hD hS => ?_)
        refine lv_if_eq (tgt := 31) hx hb dX1_heaviestOx_17 (by decide) (fun c_2 => ?_) (fun c_2 => ?_)
        · rw [if_pos c_2] at hB_4
          refine lv_iinc (v := (nI (k_4 + 1))) (lv' := [(3, .int (nI (k_4 + 1))), (2, .int v2_4), (0, .ref a_o), (1, .int x1)]) hx hb dX1_heaviestOx_31 hl (k := 0) rfl (nI_i1 k_4) (by decide) rfl (fun ls hl => ?_)
          refine lv_goto (tgt := 4) hx hb dX1_heaviestOx_34 (by decide) ?_
          subst hB_4
          exact ih_4 (k_4 + 1) v2_4  _ _ _ (by omega) hR hP hD hS (lv_sub hl [0, 1, 2, 3] rfl)
        · rw [if_neg c_2] at hB_4
          refine lv_iload_n hx hb dX1_heaviestOx_20 rfl (lv_at hl 1 rfl) ?_
          refine lv_aload_n hx hb dX1_heaviestOx_21 rfl (lv_at hl 2 rfl) ?_
          refine fget E hP 0 rfl fd_X1_24 (v := .ref a_o_oxWeight) rfl dX1_heaviestOx_22 ?_
          refine lv_iload_n hx hb dX1_heaviestOx_25 rfl (lv_at hl 0 rfl) ?_
          refine ild E hP 1 rfl (k := k_4) (by omega) (by decide) dX1_heaviestOx_26 ?_
          refine va_mmax hx hb (hml.trans hl.1.symm) hown (hts _ wm_X1_67) (hts _ wst_J_Math_max) (hts _ wn_Math) (hts _ wc_J_Math_max) (Nat.le_of_ble_eq_true rfl) (by decide) (Nat.zero_le _) (Nat.zero_le _) dX1_heaviestOx_27 ?_
          refine lv_istore_n (lv' := [(2, .int (if v2_4 < (o_oxWeight k_4) then (o_oxWeight k_4) else v2_4)), (3, .int (nI k_4)), (0, .ref a_o), (1, .int x1)]) hx hb dX1_heaviestOx_30 rfl hl (by decide) rfl (fun ls hl => ?_)
          refine lv_iinc (v := (nI (k_4 + 1))) (lv' := [(3, .int (nI (k_4 + 1))), (2, .int (if v2_4 < (o_oxWeight k_4) then (o_oxWeight k_4) else v2_4)), (0, .ref a_o), (1, .int x1)]) hx hb dX1_heaviestOx_31 hl (k := 1) rfl (nI_i1 k_4) (by decide) rfl (fun ls hl => ?_)
          refine lv_goto (tgt := 4) hx hb dX1_heaviestOx_34 (by decide) ?_
          subst hB_4
          exact ih_4 (k_4 + 1) (if v2_4 < (o_oxWeight k_4) then (o_oxWeight k_4) else v2_4)  _ _ _ (by omega) hR hP hD hS (lv_sub hl [0, 1, 2, 3] rfl)
  exact LP_4 o_oxen 0 (0 : Int32)  _ _ _ (by omega) hR hP hD hS (lv_sub hl [0, 1, 2, 3] rfl)

def K_X1_priceOf_4  (v2_4 : Int32) : Int32 := v2_4
def B_X1_priceOf_4 (x1 : Int32) (o_oxPrice : Nat → Int32) (k_4 : Nat) (v2_4 : Int32) : Int32 := (if (S_X6_has x1 (nI k_4)) = 0 then v2_4 else (v2_4 + (o_oxPrice k_4)))
def S_X1_priceOf (x1 : Int32) (o_oxen : Nat) (o_oxPrice : Nat → Int32) : Int32 := ((fun a => K_X1_priceOf_4 a) (iter (fun k a => B_X1_priceOf_4 x1 o_oxPrice k a) o_oxen 0 (0 : Int32)))
set_option maxHeartbeats 4000000 in
set_option maxRecDepth 100000 in
theorem c_X1_priceOf (l : Launch) (D : va_G) (tB tI tZ : ClassId) (a_o a_o_forgets a_o_weight a_o_chance a_o_knowsAtFirst a_o_oxWeight a_o_oxPrice : Nat) (o_year : Int32) (o_bridges : Nat) (o_men : Nat) (o_oxen : Nat) (o_oxPrice : Nat → Int32) (x1 : Int32) (hox : o_oxen ≤ 5) : CT l D (tyL tB tI tZ) yX1_priceOf (.code yX1_priceOf cX1_priceOf 4 (some .int)) 2 41 [.ref a_o, .int x1] [(a_o, .inr (1, [.int o_year, .int (nI o_bridges), .int (nI o_men), .int (nI o_oxen), .ref a_o_forgets, .ref a_o_weight, .ref a_o_chance, .ref a_o_knowsAtFirst, .ref a_o_oxWeight, .ref a_o_oxPrice])), (a_o_oxPrice, .inl (tI, 5, .inl o_oxPrice))] (fun u : Int32 => some (.int (u))) (fun _ : Int32 => [(a_o, .inr (1, [.int o_year, .int (nI o_bridges), .int (nI o_men), .int (nI o_oxen), .ref a_o_forgets, .ref a_o_weight, .ref a_o_chance, .ref a_o_knowsAtFirst, .ref a_o_oxWeight, .ref a_o_oxPrice])), (a_o_oxPrice, .inl (tI, 5, .inl o_oxPrice))]) (S_X1_priceOf x1 o_oxen o_oxPrice) := by
  refine CT.intro (k := 0) (Nat.le_of_ble_eq_true rfl) (by decide) ?_
  intro p e s m below meth c Q A ls E hA hP hD hS hl hF
  obtain ⟨⟨hx, hb, hml, hown, hts⟩, hK⟩ := id E
  generalize hR : S_X1_priceOf x1 o_oxen o_oxPrice = RES at hF
  unfold S_X1_priceOf at hR
  have hl : lv_has ls 4 [(0, .ref a_o), (1, .int x1)] := hl
  refine lv_iconst (v := (0 : Int32)) hx hb dX1_priceOf_0 (by decide) ?_
  refine lv_istore_n (lv' := [(2, .int (0 : Int32)), (0, .ref a_o), (1, .int x1)]) hx hb dX1_priceOf_1 rfl hl (by decide) rfl (fun ls hl => ?_)
  refine lv_iconst (v := (0 : Int32)) hx hb dX1_priceOf_2 (by decide) ?_
  refine lv_istore_n (lv' := [(3, .int (0 : Int32)), (2, .int (0 : Int32)), (0, .ref a_o), (1, .int x1)]) hx hb dX1_priceOf_3 rfl hl (by decide) rfl (fun ls hl => ?_)
  have EX_4 : ∀ (v2_4 : Int32)  (H : Heap) (locs : List Loc) (ls : Array Slot), K_X1_priceOf_4 v2_4 = RES → va_P D vwCl [(a_o, .inr (1, [.int o_year, .int (nI o_bridges), .int (nI o_men), .int (nI o_oxen), .ref a_o_forgets, .ref a_o_weight, .ref a_o_chance, .ref a_o_knowsAtFirst, .ref a_o_oxWeight, .ref a_o_oxPrice])), (a_o_oxPrice, .inl (tI, 5, .inl o_oxPrice))] H → va_D A [(a_o, .inr (1, [.int o_year, .int (nI o_bridges), .int (nI o_men), .int (nI o_oxen), .ref a_o_forgets, .ref a_o_weight, .ref a_o_chance, .ref a_o_knowsAtFirst, .ref a_o_oxWeight, .ref a_o_oxPrice])), (a_o_oxPrice, .inl (tI, 5, .inl o_oxPrice))] → va_S A s.heap H locs → lv_has ls 4 [(2, .int v2_4)] → W p l e { frames := 2, cells := 0, slots := 0, locals := 41 } s m ([.ref a_o, .int x1] : List Value).toArray below meth c H locs 0 0 Q (F0 m 35 ls []) := by
    intro v2_4 H locs ls hR hP hD hS hl
    unfold K_X1_priceOf_4 at hR
    refine lv_iload_n hx hb dX1_priceOf_35 rfl (lv_at hl 0 rfl) ?_
    subst hR
    exact (hF _ _ _ _ hP hS).1 _ rfl ⟨.int, rfl, rfl⟩ dX1_priceOf_36
  have LP_4 : ∀ (n_4 k_4 : Nat) (v2_4 : Int32)  (H : Heap) (locs : List Loc) (ls : Array Slot), k_4 + n_4 = o_oxen → (fun a => K_X1_priceOf_4 a) (iter (fun k a => B_X1_priceOf_4 x1 o_oxPrice k a) n_4 k_4 v2_4) = RES → va_P D vwCl [(a_o, .inr (1, [.int o_year, .int (nI o_bridges), .int (nI o_men), .int (nI o_oxen), .ref a_o_forgets, .ref a_o_weight, .ref a_o_chance, .ref a_o_knowsAtFirst, .ref a_o_oxWeight, .ref a_o_oxPrice])), (a_o_oxPrice, .inl (tI, 5, .inl o_oxPrice))] H → va_D A [(a_o, .inr (1, [.int o_year, .int (nI o_bridges), .int (nI o_men), .int (nI o_oxen), .ref a_o_forgets, .ref a_o_weight, .ref a_o_chance, .ref a_o_knowsAtFirst, .ref a_o_oxWeight, .ref a_o_oxPrice])), (a_o_oxPrice, .inl (tI, 5, .inl o_oxPrice))] → va_S A s.heap H locs → lv_has ls 4 [(3, .int (nI k_4)), (2, .int v2_4), (0, .ref a_o), (1, .int x1)] → W p l e { frames := 2, cells := 0, slots := 0, locals := 41 } s m ([.ref a_o, .int x1] : List Value).toArray below meth c H locs 0 0 Q (F0 m 4 ls []) := by
    intro n_4
    induction n_4 with
    | zero =>
      intro k_4 v2_4 H locs ls hn_4 hR hP hD hS hl
      refine lv_iload_n hx hb dX1_priceOf_4 rfl (lv_at hl 0 rfl) ?_
      refine lv_aload_n hx hb dX1_priceOf_5 rfl (lv_at hl 2 rfl) ?_
      refine fget E hP 0 rfl fd_X1_43 (v := .int (nI o_oxen)) rfl dX1_priceOf_6 ?_
      refine ni_ge (a := k_4) (b := o_oxen) (tgt := 35) (by omega) (by omega) hx hb dX1_priceOf_9 (by decide) (fun g_4 => ?_) (fun g_4 => ?_)
      · exact EX_4 v2_4  _ _ _ hR hP hD hS (lv_sub hl [1] rfl)
      · exfalso; omega
    | succ n_4 ih_4 =>
      intro k_4 v2_4 H locs ls hn_4 hR hP hD hS hl
      have hR : (fun a => K_X1_priceOf_4 a) (iter (fun k a => B_X1_priceOf_4 x1 o_oxPrice k a) n_4 (k_4 + 1) (B_X1_priceOf_4 x1 o_oxPrice k_4 v2_4)) = RES := hR
      generalize hB_4 : B_X1_priceOf_4 x1 o_oxPrice k_4 v2_4 = RB_4 at hR
      unfold B_X1_priceOf_4 at hB_4
      refine lv_iload_n hx hb dX1_priceOf_4 rfl (lv_at hl 0 rfl) ?_
      refine lv_aload_n hx hb dX1_priceOf_5 rfl (lv_at hl 2 rfl) ?_
      refine fget E hP 0 rfl fd_X1_43 (v := .int (nI o_oxen)) rfl dX1_priceOf_6 ?_
      refine ni_ge (a := k_4) (b := o_oxen) (tgt := 35) (by omega) (by omega) hx hb dX1_priceOf_9 (by decide) (fun g_4 => ?_) (fun g_4 => ?_)
      · exfalso; omega
      · refine lv_iload_n hx hb dX1_priceOf_12 rfl (lv_at hl 3 rfl) ?_
        refine lv_iload_n hx hb dX1_priceOf_13 rfl (lv_at hl 0 rfl) ?_
        refine kcSN E hl.1 (c_X6_has l D tB tI tZ x1 (nI k_4) ) cs_X6_has 11 rfl hP hD hS hA [] rfl rfl rfl (ws2 := [(a_o, .inr (1, [.int o_year, .int (nI o_bridges), .int (nI o_men), .int (nI o_oxen), .ref a_o_forgets, .ref a_o_weight, .ref a_o_chance, .ref a_o_knowsAtFirst, .ref a_o_oxWeight, .ref a_o_oxPrice])), (a_o_oxPrice, .inl (tI, 5, .inl o_oxPrice))]) rfl rfl (As := [.int x1, .int (nI k_4)]) (rest := []) rfl rfl (Nat.le_of_ble_eq_true rfl) ⟨Nat.le_of_ble_eq_true rfl, Nat.le_of_ble_eq_true rfl⟩ ⟨Nat.zero_le _, Nat.zero_le _⟩ dX1_priceOf_14 (fun H locs hP hD hS => ?_)
        refine lv_if_eq (tgt := 29) hx hb dX1_priceOf_17 (by decide) (fun c_2 => ?_) (fun c_2 => ?_)
        · rw [if_pos c_2] at hB_4
          refine lv_iinc (v := (nI (k_4 + 1))) (lv' := [(3, .int (nI (k_4 + 1))), (2, .int v2_4), (0, .ref a_o), (1, .int x1)]) hx hb dX1_priceOf_29 hl (k := 0) rfl (nI_i1 k_4) (by decide) rfl (fun ls hl => ?_)
          refine lv_goto (tgt := 4) hx hb dX1_priceOf_32 (by decide) ?_
          subst hB_4
          exact ih_4 (k_4 + 1) v2_4  _ _ _ (by omega) hR hP hD hS (lv_sub hl [0, 1, 2, 3] rfl)
        · rw [if_neg c_2] at hB_4
          refine lv_iload_n hx hb dX1_priceOf_20 rfl (lv_at hl 1 rfl) ?_
          refine lv_aload_n hx hb dX1_priceOf_21 rfl (lv_at hl 2 rfl) ?_
          refine fget E hP 0 rfl fd_X1_27 (v := .ref a_o_oxPrice) rfl dX1_priceOf_22 ?_
          refine lv_iload_n hx hb dX1_priceOf_25 rfl (lv_at hl 0 rfl) ?_
          refine ild E hP 1 rfl (k := k_4) (by omega) (by decide) dX1_priceOf_26 ?_
          refine lv_iadd hx hb dX1_priceOf_27 ?_
          refine lv_istore_n (lv' := [(2, .int (v2_4 + (o_oxPrice k_4))), (3, .int (nI k_4)), (0, .ref a_o), (1, .int x1)]) hx hb dX1_priceOf_28 rfl hl (by decide) rfl (fun ls hl => ?_)
          refine lv_iinc (v := (nI (k_4 + 1))) (lv' := [(3, .int (nI (k_4 + 1))), (2, .int (v2_4 + (o_oxPrice k_4))), (0, .ref a_o), (1, .int x1)]) hx hb dX1_priceOf_29 hl (k := 1) rfl (nI_i1 k_4) (by decide) rfl (fun ls hl => ?_)
          refine lv_goto (tgt := 4) hx hb dX1_priceOf_32 (by decide) ?_
          subst hB_4
          exact ih_4 (k_4 + 1) (v2_4 + (o_oxPrice k_4))  _ _ _ (by omega) hR hP hD hS (lv_sub hl [0, 1, 2, 3] rfl)
  exact LP_4 o_oxen 0 (0 : Int32)  _ _ _ (by omega) hR hP hD hS (lv_sub hl [0, 1, 2, 3] rfl)

def K_X1_likeliest_4  (v2_4 : Int32) : Int32 := v2_4
def B_X1_likeliest_4 (x1 : Int32) (o_chance : Nat → Int32) (k_4 : Nat) (v2_4 : Int32) : Int32 := (if (S_X6_has x1 (nI k_4)) = 0 then v2_4 else (if v2_4 = (-1 : Int32) then (nI k_4) else (if (o_chance k_4) ≤ (o_chance v2_4.toNatClampNeg) then v2_4 else (nI k_4))))
def S_X1_likeliest (x1 : Int32) (o_men : Nat) (o_chance : Nat → Int32) : Int32 := ((fun a => K_X1_likeliest_4 a) (iter (fun k a => B_X1_likeliest_4 x1 o_chance k a) o_men 0 (-1 : Int32)))
set_option maxHeartbeats 4000000 in
set_option maxRecDepth 100000 in
theorem c_X1_likeliest (l : Launch) (D : va_G) (tB tI tZ : ClassId) (a_o a_o_forgets a_o_weight a_o_chance a_o_knowsAtFirst a_o_oxWeight a_o_oxPrice : Nat) (o_year : Int32) (o_bridges : Nat) (o_men : Nat) (o_oxen : Nat) (o_chance : Nat → Int32) (x1 : Int32) (hmen : o_men ≤ 6) : CT l D (tyL tB tI tZ) yX1_likeliest (.code yX1_likeliest cX1_likeliest 4 (some .int)) 2 41 [.ref a_o, .int x1] [(a_o, .inr (1, [.int o_year, .int (nI o_bridges), .int (nI o_men), .int (nI o_oxen), .ref a_o_forgets, .ref a_o_weight, .ref a_o_chance, .ref a_o_knowsAtFirst, .ref a_o_oxWeight, .ref a_o_oxPrice])), (a_o_chance, .inl (tI, 6, .inl o_chance))] (fun u : Int32 => some (.int (u))) (fun _ : Int32 => [(a_o, .inr (1, [.int o_year, .int (nI o_bridges), .int (nI o_men), .int (nI o_oxen), .ref a_o_forgets, .ref a_o_weight, .ref a_o_chance, .ref a_o_knowsAtFirst, .ref a_o_oxWeight, .ref a_o_oxPrice])), (a_o_chance, .inl (tI, 6, .inl o_chance))]) (S_X1_likeliest x1 o_men o_chance) := by
  refine CT.intro (k := 0) (Nat.le_of_ble_eq_true rfl) (by decide) ?_
  intro p e s m below meth c Q A ls E hA hP hD hS hl hF
  obtain ⟨⟨hx, hb, hml, hown, hts⟩, hK⟩ := id E
  generalize hR : S_X1_likeliest x1 o_men o_chance = RES at hF
  unfold S_X1_likeliest at hR
  have hl : lv_has ls 4 [(0, .ref a_o), (1, .int x1)] := hl
  refine lv_iconst (v := (-1 : Int32)) hx hb dX1_likeliest_0 (by decide) ?_
  refine lv_istore_n (lv' := [(2, .int (-1 : Int32)), (0, .ref a_o), (1, .int x1)]) hx hb dX1_likeliest_1 rfl hl (by decide) rfl (fun ls hl => ?_)
  refine lv_iconst (v := (0 : Int32)) hx hb dX1_likeliest_2 (by decide) ?_
  refine lv_istore_n (lv' := [(3, .int (0 : Int32)), (2, .int (-1 : Int32)), (0, .ref a_o), (1, .int x1)]) hx hb dX1_likeliest_3 rfl hl (by decide) rfl (fun ls hl => ?_)
  have EX_4 : ∀ (v2_4 : Int32) (hi : NN o_men v2_4) (H : Heap) (locs : List Loc) (ls : Array Slot), K_X1_likeliest_4 v2_4 = RES → va_P D vwCl [(a_o, .inr (1, [.int o_year, .int (nI o_bridges), .int (nI o_men), .int (nI o_oxen), .ref a_o_forgets, .ref a_o_weight, .ref a_o_chance, .ref a_o_knowsAtFirst, .ref a_o_oxWeight, .ref a_o_oxPrice])), (a_o_chance, .inl (tI, 6, .inl o_chance))] H → va_D A [(a_o, .inr (1, [.int o_year, .int (nI o_bridges), .int (nI o_men), .int (nI o_oxen), .ref a_o_forgets, .ref a_o_weight, .ref a_o_chance, .ref a_o_knowsAtFirst, .ref a_o_oxWeight, .ref a_o_oxPrice])), (a_o_chance, .inl (tI, 6, .inl o_chance))] → va_S A s.heap H locs → lv_has ls 4 [(2, .int v2_4)] → W p l e { frames := 2, cells := 0, slots := 0, locals := 41 } s m ([.ref a_o, .int x1] : List Value).toArray below meth c H locs 0 0 Q (F0 m 48 ls []) := by
    intro v2_4 hi H locs ls hR hP hD hS hl
    unfold K_X1_likeliest_4 at hR
    refine lv_iload_n hx hb dX1_likeliest_48 rfl (lv_at hl 0 rfl) ?_
    subst hR
    exact (hF _ _ _ _ hP hS).1 _ rfl ⟨.int, rfl, rfl⟩ dX1_likeliest_49
  have LP_4 : ∀ (n_4 k_4 : Nat) (v2_4 : Int32) (hi : NN o_men v2_4) (H : Heap) (locs : List Loc) (ls : Array Slot), k_4 + n_4 = o_men → (fun a => K_X1_likeliest_4 a) (iter (fun k a => B_X1_likeliest_4 x1 o_chance k a) n_4 k_4 v2_4) = RES → va_P D vwCl [(a_o, .inr (1, [.int o_year, .int (nI o_bridges), .int (nI o_men), .int (nI o_oxen), .ref a_o_forgets, .ref a_o_weight, .ref a_o_chance, .ref a_o_knowsAtFirst, .ref a_o_oxWeight, .ref a_o_oxPrice])), (a_o_chance, .inl (tI, 6, .inl o_chance))] H → va_D A [(a_o, .inr (1, [.int o_year, .int (nI o_bridges), .int (nI o_men), .int (nI o_oxen), .ref a_o_forgets, .ref a_o_weight, .ref a_o_chance, .ref a_o_knowsAtFirst, .ref a_o_oxWeight, .ref a_o_oxPrice])), (a_o_chance, .inl (tI, 6, .inl o_chance))] → va_S A s.heap H locs → lv_has ls 4 [(3, .int (nI k_4)), (2, .int v2_4), (0, .ref a_o), (1, .int x1)] → W p l e { frames := 2, cells := 0, slots := 0, locals := 41 } s m ([.ref a_o, .int x1] : List Value).toArray below meth c H locs 0 0 Q (F0 m 4 ls []) := by
    intro n_4
    induction n_4 with
    | zero =>
      intro k_4 v2_4 hi H locs ls hn_4 hR hP hD hS hl
      refine lv_iload_n hx hb dX1_likeliest_4 rfl (lv_at hl 0 rfl) ?_
      refine lv_aload_n hx hb dX1_likeliest_5 rfl (lv_at hl 2 rfl) ?_
      refine fget E hP 0 rfl fd_X1_40 (v := .int (nI o_men)) rfl dX1_likeliest_6 ?_
      refine ni_ge (a := k_4) (b := o_men) (tgt := 48) (by omega) (by omega) hx hb dX1_likeliest_9 (by decide) (fun g_4 => ?_) (fun g_4 => ?_)
      · exact EX_4 v2_4 hi _ _ _ hR hP hD hS (lv_sub hl [1] rfl)
      · exfalso; omega
    | succ n_4 ih_4 =>
      intro k_4 v2_4 hi H locs ls hn_4 hR hP hD hS hl
      have hR : (fun a => K_X1_likeliest_4 a) (iter (fun k a => B_X1_likeliest_4 x1 o_chance k a) n_4 (k_4 + 1) (B_X1_likeliest_4 x1 o_chance k_4 v2_4)) = RES := hR
      generalize hB_4 : B_X1_likeliest_4 x1 o_chance k_4 v2_4 = RB_4 at hR
      unfold B_X1_likeliest_4 at hB_4
      refine lv_iload_n hx hb dX1_likeliest_4 rfl (lv_at hl 0 rfl) ?_
      refine lv_aload_n hx hb dX1_likeliest_5 rfl (lv_at hl 2 rfl) ?_
      refine fget E hP 0 rfl fd_X1_40 (v := .int (nI o_men)) rfl dX1_likeliest_6 ?_
      refine ni_ge (a := k_4) (b := o_men) (tgt := 48) (by omega) (by omega) hx hb dX1_likeliest_9 (by decide) (fun g_4 => ?_) (fun g_4 => ?_)
      · exfalso; omega
      · refine lv_iload_n hx hb dX1_likeliest_12 rfl (lv_at hl 3 rfl) ?_
        refine lv_iload_n hx hb dX1_likeliest_13 rfl (lv_at hl 0 rfl) ?_
        refine kcSN E hl.1 (c_X6_has l D tB tI tZ x1 (nI k_4) ) cs_X6_has 11 rfl hP hD hS hA [] rfl rfl rfl (ws2 := [(a_o, .inr (1, [.int o_year, .int (nI o_bridges), .int (nI o_men), .int (nI o_oxen), .ref a_o_forgets, .ref a_o_weight, .ref a_o_chance, .ref a_o_knowsAtFirst, .ref a_o_oxWeight, .ref a_o_oxPrice])), (a_o_chance, .inl (tI, 6, .inl o_chance))]) rfl rfl (As := [.int x1, .int (nI k_4)]) (rest := []) rfl rfl (Nat.le_of_ble_eq_true rfl) ⟨Nat.le_of_ble_eq_true rfl, Nat.le_of_ble_eq_true rfl⟩ ⟨Nat.zero_le _, Nat.zero_le _⟩ dX1_likeliest_14 (fun H locs hP hD hS => ?_)
        refine lv_if_eq (tgt := 42) hx hb dX1_likeliest_17 (by decide) (fun c_2 => ?_) (fun c_2 => ?_)
        · rw [if_pos c_2] at hB_4
          refine lv_iinc (v := (nI (k_4 + 1))) (lv' := [(3, .int (nI (k_4 + 1))), (2, .int v2_4), (0, .ref a_o), (1, .int x1)]) hx hb dX1_likeliest_42 hl (k := 0) rfl (nI_i1 k_4) (by decide) rfl (fun ls hl => ?_)
          refine lv_goto (tgt := 4) hx hb dX1_likeliest_45 (by decide) ?_
          subst hB_4
          exact ih_4 (k_4 + 1) v2_4 (show NN o_men v2_4 by first | assumption | exact NN.nat (by omega) (by omega)) _ _ _ (by omega) hR hP hD hS (lv_sub hl [0, 1, 2, 3] rfl)
        · rw [if_neg c_2] at hB_4
          refine lv_iload_n hx hb dX1_likeliest_20 rfl (lv_at hl 1 rfl) ?_
          refine lv_iconst (v := (-1 : Int32)) hx hb dX1_likeliest_21 (by decide) ?_
          refine lv_icmp_eq (tgt := 40) hx hb dX1_likeliest_22 (by decide) (fun c_3 => ?_) (fun c_3 => ?_)
          · rw [if_pos c_3] at hB_4
            refine lv_iload_n hx hb dX1_likeliest_40 rfl (lv_at hl 0 rfl) ?_
            refine lv_istore_n (lv' := [(2, .int (nI k_4)), (3, .int (nI k_4)), (0, .ref a_o), (1, .int x1)]) hx hb dX1_likeliest_41 rfl hl (by decide) rfl (fun ls hl => ?_)
            refine lv_iinc (v := (nI (k_4 + 1))) (lv' := [(3, .int (nI (k_4 + 1))), (2, .int (nI k_4)), (0, .ref a_o), (1, .int x1)]) hx hb dX1_likeliest_42 hl (k := 1) rfl (nI_i1 k_4) (by decide) rfl (fun ls hl => ?_)
            refine lv_goto (tgt := 4) hx hb dX1_likeliest_45 (by decide) ?_
            subst hB_4
            exact ih_4 (k_4 + 1) (nI k_4) (show NN o_men (nI k_4) by first | assumption | exact NN.nat (by omega) (by omega)) _ _ _ (by omega) hR hP hD hS (lv_sub hl [0, 1, 2, 3] rfl)
          · rw [if_neg c_3] at hB_4
            obtain ⟨f1, f2⟩ := hi.of c_3
            refine lv_aload_n hx hb dX1_likeliest_25 rfl (lv_at hl 2 rfl) ?_
            refine fget E hP 0 rfl fd_X1_18 (v := .ref a_o_chance) rfl dX1_likeliest_26 ?_
            refine lv_iload_n hx hb dX1_likeliest_29 rfl (lv_at hl 0 rfl) ?_
            refine ild E hP 1 rfl (k := k_4) (by omega) (by decide) dX1_likeliest_30 ?_
            refine lv_aload_n hx hb dX1_likeliest_31 rfl (lv_at hl 2 rfl) ?_
            refine fget E hP 0 rfl fd_X1_18 (v := .ref a_o_chance) rfl dX1_likeliest_32 ?_
            refine lv_iload_n hx hb dX1_likeliest_35 rfl (lv_at hl 1 rfl) ?_
            refine lv_is f1 ?_
            refine ild E hP 1 rfl (k := v2_4.toNatClampNeg) (by omega) (by decide) dX1_likeliest_36 ?_
            refine lv_icmp_le (tgt := 42) hx hb dX1_likeliest_37 (by decide) (fun c_4 => ?_) (fun c_4 => ?_)
            · rw [if_pos c_4] at hB_4
              refine lv_iinc (v := (nI (k_4 + 1))) (lv' := [(3, .int (nI (k_4 + 1))), (2, .int v2_4), (0, .ref a_o), (1, .int x1)]) hx hb dX1_likeliest_42 hl (k := 0) rfl (nI_i1 k_4) (by decide) rfl (fun ls hl => ?_)
              refine lv_goto (tgt := 4) hx hb dX1_likeliest_45 (by decide) ?_
              subst hB_4
              exact ih_4 (k_4 + 1) v2_4 (show NN o_men v2_4 by first | assumption | exact NN.nat (by omega) (by omega)) _ _ _ (by omega) hR hP hD hS (lv_sub hl [0, 1, 2, 3] rfl)
            · rw [if_neg c_4] at hB_4
              refine lv_iload_n hx hb dX1_likeliest_40 rfl (lv_at hl 0 rfl) ?_
              refine lv_istore_n (lv' := [(2, .int (nI k_4)), (3, .int (nI k_4)), (0, .ref a_o), (1, .int x1)]) hx hb dX1_likeliest_41 rfl hl (by decide) rfl (fun ls hl => ?_)
              refine lv_iinc (v := (nI (k_4 + 1))) (lv' := [(3, .int (nI (k_4 + 1))), (2, .int (nI k_4)), (0, .ref a_o), (1, .int x1)]) hx hb dX1_likeliest_42 hl (k := 1) rfl (nI_i1 k_4) (by decide) rfl (fun ls hl => ?_)
              refine lv_goto (tgt := 4) hx hb dX1_likeliest_45 (by decide) ?_
              subst hB_4
              exact ih_4 (k_4 + 1) (nI k_4) (show NN o_men (nI k_4) by first | assumption | exact NN.nat (by omega) (by omega)) _ _ _ (by omega) hR hP hD hS (lv_sub hl [0, 1, 2, 3] rfl)
  exact LP_4 o_men 0 (-1 : Int32) (show NN o_men (-1 : Int32) by exact NN.none) _ _ _ (by omega) hR hP hD hS (lv_sub hl [0, 1, 2, 3] rfl)

def K_X1_oddsOf_7  (v2_7 : Int64) : Int32 := (v2_7.toInt32)
def B_X1_oddsOf_7 (x1 : Int32) (o_chance : Nat → Int32) (k_7 : Nat) (v2_7 : Int64) : Int64 := (if (S_X6_has x1 (nI k_7)) = 0 then v2_7 else ((v2_7 * ((o_chance k_7).toInt64)) / (100 : Int64)))
def S_X1_oddsOf (x1 : Int32) (o_men : Nat) (o_chance : Nat → Int32) : Int32 := ((fun a => K_X1_oddsOf_7 a) (iter (fun k a => B_X1_oddsOf_7 x1 o_chance k a) o_men 0 (1000000000 : Int64)))
set_option maxHeartbeats 4000000 in
set_option maxRecDepth 100000 in
theorem c_X1_oddsOf (l : Launch) (D : va_G) (tB tI tZ : ClassId) (a_o a_o_forgets a_o_weight a_o_chance a_o_knowsAtFirst a_o_oxWeight a_o_oxPrice : Nat) (o_year : Int32) (o_bridges : Nat) (o_men : Nat) (o_oxen : Nat) (o_chance : Nat → Int32) (x1 : Int32) (hmen : o_men ≤ 6) : CT l D (tyL tB tI tZ) yX1_oddsOf (.code yX1_oddsOf cX1_oddsOf 5 (some .int)) 2 41 [.ref a_o, .int x1] [(a_o, .inr (1, [.int o_year, .int (nI o_bridges), .int (nI o_men), .int (nI o_oxen), .ref a_o_forgets, .ref a_o_weight, .ref a_o_chance, .ref a_o_knowsAtFirst, .ref a_o_oxWeight, .ref a_o_oxPrice])), (a_o_chance, .inl (tI, 6, .inl o_chance))] (fun u : Int32 => some (.int (u))) (fun _ : Int32 => [(a_o, .inr (1, [.int o_year, .int (nI o_bridges), .int (nI o_men), .int (nI o_oxen), .ref a_o_forgets, .ref a_o_weight, .ref a_o_chance, .ref a_o_knowsAtFirst, .ref a_o_oxWeight, .ref a_o_oxPrice])), (a_o_chance, .inl (tI, 6, .inl o_chance))]) (S_X1_oddsOf x1 o_men o_chance) := by
  refine CT.intro (k := 0) (Nat.le_of_ble_eq_true rfl) (by decide) ?_
  intro p e s m below meth c Q A ls E hA hP hD hS hl hF
  obtain ⟨⟨hx, hb, hml, hown, hts⟩, hK⟩ := id E
  generalize hR : S_X1_oddsOf x1 o_men o_chance = RES at hF
  unfold S_X1_oddsOf at hR
  have hl : lv_has ls 5 [(0, .ref a_o), (1, .int x1)] := hl
  refine lv_ldc2 hx hb hown (hts _ wk_X1_73) dX1_oddsOf_0 ?_
  refine lv_lstore_n (lv' := [(2, .long (1000000000 : Int64)), (0, .ref a_o), (1, .int x1)]) hx hb dX1_oddsOf_3 rfl hl (by decide) rfl (fun ls hl => ?_)
  refine lv_iconst (v := (0 : Int32)) hx hb dX1_oddsOf_4 (by decide) ?_
  refine lv_istore (lv' := [(4, .int (0 : Int32)), (2, .long (1000000000 : Int64)), (0, .ref a_o), (1, .int x1)]) hx hb dX1_oddsOf_5 hl (by decide) rfl (fun ls hl => ?_)
  have EX_7 : ∀ (v2_7 : Int64)  (H : Heap) (locs : List Loc) (ls : Array Slot), K_X1_oddsOf_7 v2_7 = RES → va_P D vwCl [(a_o, .inr (1, [.int o_year, .int (nI o_bridges), .int (nI o_men), .int (nI o_oxen), .ref a_o_forgets, .ref a_o_weight, .ref a_o_chance, .ref a_o_knowsAtFirst, .ref a_o_oxWeight, .ref a_o_oxPrice])), (a_o_chance, .inl (tI, 6, .inl o_chance))] H → va_D A [(a_o, .inr (1, [.int o_year, .int (nI o_bridges), .int (nI o_men), .int (nI o_oxen), .ref a_o_forgets, .ref a_o_weight, .ref a_o_chance, .ref a_o_knowsAtFirst, .ref a_o_oxWeight, .ref a_o_oxPrice])), (a_o_chance, .inl (tI, 6, .inl o_chance))] → va_S A s.heap H locs → lv_has ls 5 [(2, .long v2_7)] → W p l e { frames := 2, cells := 0, slots := 0, locals := 41 } s m ([.ref a_o, .int x1] : List Value).toArray below meth c H locs 0 0 Q (F0 m 46 ls []) := by
    intro v2_7 H locs ls hR hP hD hS hl
    unfold K_X1_oddsOf_7 at hR
    refine lv_lload_n hx hb dX1_oddsOf_46 rfl (lv_at hl 0 rfl) ?_
    refine lv_l2i (v := (v2_7.toInt32)) hx hb dX1_oddsOf_47 rfl ?_
    subst hR
    exact (hF _ _ _ _ hP hS).1 _ rfl ⟨.int, rfl, rfl⟩ dX1_oddsOf_48
  have LP_7 : ∀ (n_7 k_7 : Nat) (v2_7 : Int64)  (H : Heap) (locs : List Loc) (ls : Array Slot), k_7 + n_7 = o_men → (fun a => K_X1_oddsOf_7 a) (iter (fun k a => B_X1_oddsOf_7 x1 o_chance k a) n_7 k_7 v2_7) = RES → va_P D vwCl [(a_o, .inr (1, [.int o_year, .int (nI o_bridges), .int (nI o_men), .int (nI o_oxen), .ref a_o_forgets, .ref a_o_weight, .ref a_o_chance, .ref a_o_knowsAtFirst, .ref a_o_oxWeight, .ref a_o_oxPrice])), (a_o_chance, .inl (tI, 6, .inl o_chance))] H → va_D A [(a_o, .inr (1, [.int o_year, .int (nI o_bridges), .int (nI o_men), .int (nI o_oxen), .ref a_o_forgets, .ref a_o_weight, .ref a_o_chance, .ref a_o_knowsAtFirst, .ref a_o_oxWeight, .ref a_o_oxPrice])), (a_o_chance, .inl (tI, 6, .inl o_chance))] → va_S A s.heap H locs → lv_has ls 5 [(4, .int (nI k_7)), (2, .long v2_7), (0, .ref a_o), (1, .int x1)] → W p l e { frames := 2, cells := 0, slots := 0, locals := 41 } s m ([.ref a_o, .int x1] : List Value).toArray below meth c H locs 0 0 Q (F0 m 7 ls []) := by
    intro n_7
    induction n_7 with
    | zero =>
      intro k_7 v2_7 H locs ls hn_7 hR hP hD hS hl
      refine lv_iload hx hb dX1_oddsOf_7 (lv_at hl 0 rfl) ?_
      refine lv_aload_n hx hb dX1_oddsOf_9 rfl (lv_at hl 2 rfl) ?_
      refine fget E hP 0 rfl fd_X1_40 (v := .int (nI o_men)) rfl dX1_oddsOf_10 ?_
      refine ni_ge (a := k_7) (b := o_men) (tgt := 46) (by omega) (by omega) hx hb dX1_oddsOf_13 (by decide) (fun g_7 => ?_) (fun g_7 => ?_)
      · exact EX_7 v2_7  _ _ _ hR hP hD hS (lv_sub hl [1] rfl)
      · exfalso; omega
    | succ n_7 ih_7 =>
      intro k_7 v2_7 H locs ls hn_7 hR hP hD hS hl
      have hR : (fun a => K_X1_oddsOf_7 a) (iter (fun k a => B_X1_oddsOf_7 x1 o_chance k a) n_7 (k_7 + 1) (B_X1_oddsOf_7 x1 o_chance k_7 v2_7)) = RES := hR
      generalize hB_7 : B_X1_oddsOf_7 x1 o_chance k_7 v2_7 = RB_7 at hR
      unfold B_X1_oddsOf_7 at hB_7
      refine lv_iload hx hb dX1_oddsOf_7 (lv_at hl 0 rfl) ?_
      refine lv_aload_n hx hb dX1_oddsOf_9 rfl (lv_at hl 2 rfl) ?_
      refine fget E hP 0 rfl fd_X1_40 (v := .int (nI o_men)) rfl dX1_oddsOf_10 ?_
      refine ni_ge (a := k_7) (b := o_men) (tgt := 46) (by omega) (by omega) hx hb dX1_oddsOf_13 (by decide) (fun g_7 => ?_) (fun g_7 => ?_)
      · exfalso; omega
      · refine lv_iload_n hx hb dX1_oddsOf_16 rfl (lv_at hl 3 rfl) ?_
        refine lv_iload hx hb dX1_oddsOf_17 (lv_at hl 0 rfl) ?_
        refine kcSN E hl.1 (c_X6_has l D tB tI tZ x1 (nI k_7) ) cs_X6_has 11 rfl hP hD hS hA [] rfl rfl rfl (ws2 := [(a_o, .inr (1, [.int o_year, .int (nI o_bridges), .int (nI o_men), .int (nI o_oxen), .ref a_o_forgets, .ref a_o_weight, .ref a_o_chance, .ref a_o_knowsAtFirst, .ref a_o_oxWeight, .ref a_o_oxPrice])), (a_o_chance, .inl (tI, 6, .inl o_chance))]) rfl rfl (As := [.int x1, .int (nI k_7)]) (rest := []) rfl rfl (Nat.le_of_ble_eq_true rfl) ⟨Nat.le_of_ble_eq_true rfl, Nat.le_of_ble_eq_true rfl⟩ ⟨Nat.zero_le _, Nat.zero_le _⟩ dX1_oddsOf_19 (fun H locs hP hD hS => ?_)
        refine lv_if_eq (tgt := 40) hx hb dX1_oddsOf_22 (by decide) (fun c_2 => ?_) (fun c_2 => ?_)
        · rw [if_pos c_2] at hB_7
          refine lv_iinc (v := (nI (k_7 + 1))) (lv' := [(4, .int (nI (k_7 + 1))), (2, .long v2_7), (0, .ref a_o), (1, .int x1)]) hx hb dX1_oddsOf_40 hl (k := 0) rfl (nI_i1 k_7) (by decide) rfl (fun ls hl => ?_)
          refine lv_goto (tgt := 7) hx hb dX1_oddsOf_43 (by decide) ?_
          subst hB_7
          exact ih_7 (k_7 + 1) v2_7  _ _ _ (by omega) hR hP hD hS (lv_sub hl [0, 1, 2, 3] rfl)
        · rw [if_neg c_2] at hB_7
          refine lv_lload_n hx hb dX1_oddsOf_25 rfl (lv_at hl 1 rfl) ?_
          refine lv_aload_n hx hb dX1_oddsOf_26 rfl (lv_at hl 2 rfl) ?_
          refine fget E hP 0 rfl fd_X1_18 (v := .ref a_o_chance) rfl dX1_oddsOf_27 ?_
          refine lv_iload hx hb dX1_oddsOf_30 (lv_at hl 0 rfl) ?_
          refine ild E hP 1 rfl (k := k_7) (by omega) (by decide) dX1_oddsOf_32 ?_
          refine lv_i2l (v := ((o_chance k_7).toInt64)) hx hb dX1_oddsOf_33 rfl ?_
          refine lv_lmul hx hb dX1_oddsOf_34 ?_
          refine lv_ldc2 hx hb hown (hts _ wk_X1_75) dX1_oddsOf_35 ?_
          refine lv_ldiv hx hb dX1_oddsOf_38 (by decide) ?_
          refine lv_lstore_n (lv' := [(2, .long ((v2_7 * ((o_chance k_7).toInt64)) / (100 : Int64))), (4, .int (nI k_7)), (0, .ref a_o), (1, .int x1)]) hx hb dX1_oddsOf_39 rfl hl (by decide) rfl (fun ls hl => ?_)
          refine lv_iinc (v := (nI (k_7 + 1))) (lv' := [(4, .int (nI (k_7 + 1))), (2, .long ((v2_7 * ((o_chance k_7).toInt64)) / (100 : Int64))), (0, .ref a_o), (1, .int x1)]) hx hb dX1_oddsOf_40 hl (k := 1) rfl (nI_i1 k_7) (by decide) rfl (fun ls hl => ?_)
          refine lv_goto (tgt := 7) hx hb dX1_oddsOf_43 (by decide) ?_
          subst hB_7
          exact ih_7 (k_7 + 1) ((v2_7 * ((o_chance k_7).toInt64)) / (100 : Int64))  _ _ _ (by omega) hR hP hD hS (lv_sub hl [0, 1, 2, 3] rfl)
  exact LP_7 o_men 0 (1000000000 : Int64)  _ _ _ (by omega) hR hP hD hS (lv_sub hl [0, 1, 2, 3] rfl)

def S_X1_addBridge (x1 : Int32) (o_bridges : Nat) (o_forgets : Nat → Int32) : (Nat → Int32) × Nat := (if 5 ≤ o_bridges then (o_forgets, o_bridges) else ((upd o_forgets o_bridges x1), (o_bridges + 1)))
set_option maxHeartbeats 4000000 in
set_option maxRecDepth 100000 in
theorem c_X1_addBridge (l : Launch) (D : va_G) (tB tI tZ : ClassId) (a_o a_o_forgets a_o_weight a_o_chance a_o_knowsAtFirst a_o_oxWeight a_o_oxPrice : Nat) (o_year : Int32) (o_bridges : Nat) (o_men : Nat) (o_oxen : Nat) (o_forgets : Nat → Int32) (x1 : Int32) (hbr : o_bridges ≤ 5) (hmen : o_men ≤ 6) (hox : o_oxen ≤ 5) : CT l D (tyL tB tI tZ) yX1_addBridge (.code yX1_addBridge cX1_addBridge 2 none) 0 0 [.ref a_o, .int x1] [(a_o, .inr (1, [.int o_year, .int (nI o_bridges), .int (nI o_men), .int (nI o_oxen), .ref a_o_forgets, .ref a_o_weight, .ref a_o_chance, .ref a_o_knowsAtFirst, .ref a_o_oxWeight, .ref a_o_oxPrice])), (a_o_forgets, .inl (tI, 5, .inl o_forgets))] (fun _ : (Nat → Int32) × Nat => none) (fun u : (Nat → Int32) × Nat => [(a_o, .inr (1, [.int o_year, .int (nI (u.2)), .int (nI o_men), .int (nI o_oxen), .ref a_o_forgets, .ref a_o_weight, .ref a_o_chance, .ref a_o_knowsAtFirst, .ref a_o_oxWeight, .ref a_o_oxPrice])), (a_o_forgets, .inl (tI, 5, .inl (u.1)))]) (S_X1_addBridge x1 o_bridges o_forgets) := by
  refine CT.intro (k := 0) (Nat.le_of_ble_eq_true rfl) (by decide) ?_
  intro p e s m below meth c Q A ls E hA hP hD hS hl hF
  obtain ⟨⟨hx, hb, hml, hown, hts⟩, hK⟩ := id E
  generalize hR : S_X1_addBridge x1 o_bridges o_forgets = RES at hF
  unfold S_X1_addBridge at hR
  have hl : lv_has ls 2 [(0, .ref a_o), (1, .int x1)] := hl
  refine lv_aload_n hx hb dX1_addBridge_0 rfl (lv_at hl 0 rfl) ?_
  refine fget E hP 0 rfl fd_X1_37 (v := .int (nI o_bridges)) rfl dX1_addBridge_1 ?_
  refine lv_iconst (v := (5 : Int32)) hx hb dX1_addBridge_4 (by decide) ?_
  refine ni_ge (a := o_bridges) (b := 5) (tgt := 28) (by omega) (by omega) hx hb dX1_addBridge_5 (by decide) (fun c_1 => ?_) (fun c_1 => ?_)
  · rw [if_pos c_1] at hR
    subst hR
    exact (hF _ _ _ _ hP hS).2.2.2 rfl rfl dX1_addBridge_28
  · rw [if_neg c_1] at hR
    refine lv_aload_n hx hb dX1_addBridge_8 rfl (lv_at hl 0 rfl) ?_
    refine fget E hP 0 rfl fd_X1_9 (v := .ref a_o_forgets) rfl dX1_addBridge_9 ?_
    refine lv_aload_n hx hb dX1_addBridge_12 rfl (lv_at hl 0 rfl) ?_
    refine fget E hP 0 rfl fd_X1_37 (v := .int (nI o_bridges)) rfl dX1_addBridge_13 ?_
    refine lv_iload_n hx hb dX1_addBridge_16 rfl (lv_at hl 1 rfl) ?_
    refine ist E hP hD hS 1 rfl (k := o_bridges) (by omega) (by decide) dX1_addBridge_17 (fun H locs hP hD hS => ?_)
    have hP : va_P D vwCl [(a_o, .inr (1, [.int o_year, .int (nI o_bridges), .int (nI o_men), .int (nI o_oxen), .ref a_o_forgets, .ref a_o_weight, .ref a_o_chance, .ref a_o_knowsAtFirst, .ref a_o_oxWeight, .ref a_o_oxPrice])), (a_o_forgets, .inl (tI, 5, .inl (upd o_forgets o_bridges x1)))] H := hP
    have hD : va_D A [(a_o, .inr (1, [.int o_year, .int (nI o_bridges), .int (nI o_men), .int (nI o_oxen), .ref a_o_forgets, .ref a_o_weight, .ref a_o_chance, .ref a_o_knowsAtFirst, .ref a_o_oxWeight, .ref a_o_oxPrice])), (a_o_forgets, .inl (tI, 5, .inl (upd o_forgets o_bridges x1)))] := hD
    refine lv_aload_n hx hb dX1_addBridge_18 rfl (lv_at hl 0 rfl) ?_
    refine lv_dup hx hb dX1_addBridge_19 rfl ?_
    refine fget E hP 0 rfl fd_X1_37 (v := .int (nI o_bridges)) rfl dX1_addBridge_20 ?_
    refine lv_iconst (v := (1 : Int32)) hx hb dX1_addBridge_23 (by decide) ?_
    refine lv_iadd hx hb dX1_addBridge_24 ?_
    refine lv_is (nI_add o_bridges 1) ?_
    refine fput E hP hD hS 0 rfl fd_X1_37 fp_X1 (ty := .int) (v := .int (nI (o_bridges + 1))) rfl rfl rfl rfl (Nat.le_of_ble_eq_true rfl) dX1_addBridge_25 (fun H locs hP hD hS => ?_)
    have hP : va_P D vwCl [(a_o, .inr (1, [.int o_year, .int (nI (o_bridges + 1)), .int (nI o_men), .int (nI o_oxen), .ref a_o_forgets, .ref a_o_weight, .ref a_o_chance, .ref a_o_knowsAtFirst, .ref a_o_oxWeight, .ref a_o_oxPrice])), (a_o_forgets, .inl (tI, 5, .inl (upd o_forgets o_bridges x1)))] H := hP
    have hD : va_D A [(a_o, .inr (1, [.int o_year, .int (nI (o_bridges + 1)), .int (nI o_men), .int (nI o_oxen), .ref a_o_forgets, .ref a_o_weight, .ref a_o_chance, .ref a_o_knowsAtFirst, .ref a_o_oxWeight, .ref a_o_oxPrice])), (a_o_forgets, .inl (tI, 5, .inl (upd o_forgets o_bridges x1)))] := hD
    subst hR
    exact (hF _ _ _ _ hP hS).2.2.2 rfl rfl dX1_addBridge_28

def S_X1_addMan (x1 : Int32) (x2 : Int32) (o_men : Nat) (o_weight : Nat → Int32) (o_chance : Nat → Int32) (o_knowsAtFirst : Nat → Int32) : (Nat → Int32) × (Nat → Int32) × (Nat → Int32) × Nat := (if 6 ≤ o_men then (o_weight, o_chance, o_knowsAtFirst, o_men) else ((upd o_weight o_men x1), (upd o_chance o_men x2), (upd o_knowsAtFirst o_men (0 : Int32)), (o_men + 1)))
set_option maxHeartbeats 4000000 in
set_option maxRecDepth 100000 in
theorem c_X1_addMan (l : Launch) (D : va_G) (tB tI tZ : ClassId) (a_o a_o_forgets a_o_weight a_o_chance a_o_knowsAtFirst a_o_oxWeight a_o_oxPrice : Nat) (o_year : Int32) (o_bridges : Nat) (o_men : Nat) (o_oxen : Nat) (o_weight : Nat → Int32) (o_chance : Nat → Int32) (o_knowsAtFirst : Nat → Int32) (x1 : Int32) (x2 : Int32) (hbr : o_bridges ≤ 5) (hmen : o_men ≤ 6) (hox : o_oxen ≤ 5) : CT l D (tyL tB tI tZ) yX1_addMan (.code yX1_addMan cX1_addMan 3 none) 0 0 [.ref a_o, .int x1, .int x2] [(a_o, .inr (1, [.int o_year, .int (nI o_bridges), .int (nI o_men), .int (nI o_oxen), .ref a_o_forgets, .ref a_o_weight, .ref a_o_chance, .ref a_o_knowsAtFirst, .ref a_o_oxWeight, .ref a_o_oxPrice])), (a_o_weight, .inl (tI, 6, .inl o_weight)), (a_o_chance, .inl (tI, 6, .inl o_chance)), (a_o_knowsAtFirst, .inl (tI, 6, .inl o_knowsAtFirst))] (fun _ : (Nat → Int32) × (Nat → Int32) × (Nat → Int32) × Nat => none) (fun u : (Nat → Int32) × (Nat → Int32) × (Nat → Int32) × Nat => [(a_o, .inr (1, [.int o_year, .int (nI o_bridges), .int (nI (u.2.2.2)), .int (nI o_oxen), .ref a_o_forgets, .ref a_o_weight, .ref a_o_chance, .ref a_o_knowsAtFirst, .ref a_o_oxWeight, .ref a_o_oxPrice])), (a_o_weight, .inl (tI, 6, .inl (u.1))), (a_o_chance, .inl (tI, 6, .inl (u.2.1))), (a_o_knowsAtFirst, .inl (tI, 6, .inl (u.2.2.1)))]) (S_X1_addMan x1 x2 o_men o_weight o_chance o_knowsAtFirst) := by
  refine CT.intro (k := 0) (Nat.le_of_ble_eq_true rfl) (by decide) ?_
  intro p e s m below meth c Q A ls E hA hP hD hS hl hF
  obtain ⟨⟨hx, hb, hml, hown, hts⟩, hK⟩ := id E
  generalize hR : S_X1_addMan x1 x2 o_men o_weight o_chance o_knowsAtFirst = RES at hF
  unfold S_X1_addMan at hR
  have hl : lv_has ls 3 [(0, .ref a_o), (1, .int x1), (2, .int x2)] := hl
  refine lv_aload_n hx hb dX1_addMan_0 rfl (lv_at hl 0 rfl) ?_
  refine fget E hP 0 rfl fd_X1_40 (v := .int (nI o_men)) rfl dX1_addMan_1 ?_
  refine lv_bipush (v := (6 : Int32)) hx hb dX1_addMan_4 (by decide) ?_
  refine ni_ge (a := o_men) (b := 6) (tgt := 49) (by omega) (by omega) hx hb dX1_addMan_6 (by decide) (fun c_1 => ?_) (fun c_1 => ?_)
  · rw [if_pos c_1] at hR
    subst hR
    exact (hF _ _ _ _ hP hS).2.2.2 rfl rfl dX1_addMan_49
  · rw [if_neg c_1] at hR
    refine lv_aload_n hx hb dX1_addMan_9 rfl (lv_at hl 0 rfl) ?_
    refine fget E hP 0 rfl fd_X1_15 (v := .ref a_o_weight) rfl dX1_addMan_10 ?_
    refine lv_aload_n hx hb dX1_addMan_13 rfl (lv_at hl 0 rfl) ?_
    refine fget E hP 0 rfl fd_X1_40 (v := .int (nI o_men)) rfl dX1_addMan_14 ?_
    refine lv_iload_n hx hb dX1_addMan_17 rfl (lv_at hl 1 rfl) ?_
    refine ist E hP hD hS 1 rfl (k := o_men) (by omega) (by decide) dX1_addMan_18 (fun H locs hP hD hS => ?_)
    have hP : va_P D vwCl [(a_o, .inr (1, [.int o_year, .int (nI o_bridges), .int (nI o_men), .int (nI o_oxen), .ref a_o_forgets, .ref a_o_weight, .ref a_o_chance, .ref a_o_knowsAtFirst, .ref a_o_oxWeight, .ref a_o_oxPrice])), (a_o_weight, .inl (tI, 6, .inl (upd o_weight o_men x1))), (a_o_chance, .inl (tI, 6, .inl o_chance)), (a_o_knowsAtFirst, .inl (tI, 6, .inl o_knowsAtFirst))] H := hP
    have hD : va_D A [(a_o, .inr (1, [.int o_year, .int (nI o_bridges), .int (nI o_men), .int (nI o_oxen), .ref a_o_forgets, .ref a_o_weight, .ref a_o_chance, .ref a_o_knowsAtFirst, .ref a_o_oxWeight, .ref a_o_oxPrice])), (a_o_weight, .inl (tI, 6, .inl (upd o_weight o_men x1))), (a_o_chance, .inl (tI, 6, .inl o_chance)), (a_o_knowsAtFirst, .inl (tI, 6, .inl o_knowsAtFirst))] := hD
    refine lv_aload_n hx hb dX1_addMan_19 rfl (lv_at hl 0 rfl) ?_
    refine fget E hP 0 rfl fd_X1_18 (v := .ref a_o_chance) rfl dX1_addMan_20 ?_
    refine lv_aload_n hx hb dX1_addMan_23 rfl (lv_at hl 0 rfl) ?_
    refine fget E hP 0 rfl fd_X1_40 (v := .int (nI o_men)) rfl dX1_addMan_24 ?_
    refine lv_iload_n hx hb dX1_addMan_27 rfl (lv_at hl 2 rfl) ?_
    refine ist E hP hD hS 2 rfl (k := o_men) (by omega) (by decide) dX1_addMan_28 (fun H locs hP hD hS => ?_)
    have hP : va_P D vwCl [(a_o, .inr (1, [.int o_year, .int (nI o_bridges), .int (nI o_men), .int (nI o_oxen), .ref a_o_forgets, .ref a_o_weight, .ref a_o_chance, .ref a_o_knowsAtFirst, .ref a_o_oxWeight, .ref a_o_oxPrice])), (a_o_weight, .inl (tI, 6, .inl (upd o_weight o_men x1))), (a_o_chance, .inl (tI, 6, .inl (upd o_chance o_men x2))), (a_o_knowsAtFirst, .inl (tI, 6, .inl o_knowsAtFirst))] H := hP
    have hD : va_D A [(a_o, .inr (1, [.int o_year, .int (nI o_bridges), .int (nI o_men), .int (nI o_oxen), .ref a_o_forgets, .ref a_o_weight, .ref a_o_chance, .ref a_o_knowsAtFirst, .ref a_o_oxWeight, .ref a_o_oxPrice])), (a_o_weight, .inl (tI, 6, .inl (upd o_weight o_men x1))), (a_o_chance, .inl (tI, 6, .inl (upd o_chance o_men x2))), (a_o_knowsAtFirst, .inl (tI, 6, .inl o_knowsAtFirst))] := hD
    refine lv_aload_n hx hb dX1_addMan_29 rfl (lv_at hl 0 rfl) ?_
    refine fget E hP 0 rfl fd_X1_21 (v := .ref a_o_knowsAtFirst) rfl dX1_addMan_30 ?_
    refine lv_aload_n hx hb dX1_addMan_33 rfl (lv_at hl 0 rfl) ?_
    refine fget E hP 0 rfl fd_X1_40 (v := .int (nI o_men)) rfl dX1_addMan_34 ?_
    refine lv_iconst (v := (0 : Int32)) hx hb dX1_addMan_37 (by decide) ?_
    refine ist E hP hD hS 3 rfl (k := o_men) (by omega) (by decide) dX1_addMan_38 (fun H locs hP hD hS => ?_)
    have hP : va_P D vwCl [(a_o, .inr (1, [.int o_year, .int (nI o_bridges), .int (nI o_men), .int (nI o_oxen), .ref a_o_forgets, .ref a_o_weight, .ref a_o_chance, .ref a_o_knowsAtFirst, .ref a_o_oxWeight, .ref a_o_oxPrice])), (a_o_weight, .inl (tI, 6, .inl (upd o_weight o_men x1))), (a_o_chance, .inl (tI, 6, .inl (upd o_chance o_men x2))), (a_o_knowsAtFirst, .inl (tI, 6, .inl (upd o_knowsAtFirst o_men (0 : Int32))))] H := hP
    have hD : va_D A [(a_o, .inr (1, [.int o_year, .int (nI o_bridges), .int (nI o_men), .int (nI o_oxen), .ref a_o_forgets, .ref a_o_weight, .ref a_o_chance, .ref a_o_knowsAtFirst, .ref a_o_oxWeight, .ref a_o_oxPrice])), (a_o_weight, .inl (tI, 6, .inl (upd o_weight o_men x1))), (a_o_chance, .inl (tI, 6, .inl (upd o_chance o_men x2))), (a_o_knowsAtFirst, .inl (tI, 6, .inl (upd o_knowsAtFirst o_men (0 : Int32))))] := hD
    refine lv_aload_n hx hb dX1_addMan_39 rfl (lv_at hl 0 rfl) ?_
    refine lv_dup hx hb dX1_addMan_40 rfl ?_
    refine fget E hP 0 rfl fd_X1_40 (v := .int (nI o_men)) rfl dX1_addMan_41 ?_
    refine lv_iconst (v := (1 : Int32)) hx hb dX1_addMan_44 (by decide) ?_
    refine lv_iadd hx hb dX1_addMan_45 ?_
    refine lv_is (nI_add o_men 1) ?_
    refine fput E hP hD hS 0 rfl fd_X1_40 fp_X1 (ty := .int) (v := .int (nI (o_men + 1))) rfl rfl rfl rfl (Nat.le_of_ble_eq_true rfl) dX1_addMan_46 (fun H locs hP hD hS => ?_)
    have hP : va_P D vwCl [(a_o, .inr (1, [.int o_year, .int (nI o_bridges), .int (nI (o_men + 1)), .int (nI o_oxen), .ref a_o_forgets, .ref a_o_weight, .ref a_o_chance, .ref a_o_knowsAtFirst, .ref a_o_oxWeight, .ref a_o_oxPrice])), (a_o_weight, .inl (tI, 6, .inl (upd o_weight o_men x1))), (a_o_chance, .inl (tI, 6, .inl (upd o_chance o_men x2))), (a_o_knowsAtFirst, .inl (tI, 6, .inl (upd o_knowsAtFirst o_men (0 : Int32))))] H := hP
    have hD : va_D A [(a_o, .inr (1, [.int o_year, .int (nI o_bridges), .int (nI (o_men + 1)), .int (nI o_oxen), .ref a_o_forgets, .ref a_o_weight, .ref a_o_chance, .ref a_o_knowsAtFirst, .ref a_o_oxWeight, .ref a_o_oxPrice])), (a_o_weight, .inl (tI, 6, .inl (upd o_weight o_men x1))), (a_o_chance, .inl (tI, 6, .inl (upd o_chance o_men x2))), (a_o_knowsAtFirst, .inl (tI, 6, .inl (upd o_knowsAtFirst o_men (0 : Int32))))] := hD
    subst hR
    exact (hF _ _ _ _ hP hS).2.2.2 rfl rfl dX1_addMan_49

def S_X1_addOx (x1 : Int32) (x2 : Int32) (o_oxen : Nat) (o_oxWeight : Nat → Int32) (o_oxPrice : Nat → Int32) : (Nat → Int32) × (Nat → Int32) × Nat := (if 5 ≤ o_oxen then (o_oxWeight, o_oxPrice, o_oxen) else ((upd o_oxWeight o_oxen x1), (upd o_oxPrice o_oxen x2), (o_oxen + 1)))
set_option maxHeartbeats 4000000 in
set_option maxRecDepth 100000 in
theorem c_X1_addOx (l : Launch) (D : va_G) (tB tI tZ : ClassId) (a_o a_o_forgets a_o_weight a_o_chance a_o_knowsAtFirst a_o_oxWeight a_o_oxPrice : Nat) (o_year : Int32) (o_bridges : Nat) (o_men : Nat) (o_oxen : Nat) (o_oxWeight : Nat → Int32) (o_oxPrice : Nat → Int32) (x1 : Int32) (x2 : Int32) (hbr : o_bridges ≤ 5) (hmen : o_men ≤ 6) (hox : o_oxen ≤ 5) : CT l D (tyL tB tI tZ) yX1_addOx (.code yX1_addOx cX1_addOx 3 none) 0 0 [.ref a_o, .int x1, .int x2] [(a_o, .inr (1, [.int o_year, .int (nI o_bridges), .int (nI o_men), .int (nI o_oxen), .ref a_o_forgets, .ref a_o_weight, .ref a_o_chance, .ref a_o_knowsAtFirst, .ref a_o_oxWeight, .ref a_o_oxPrice])), (a_o_oxWeight, .inl (tI, 5, .inl o_oxWeight)), (a_o_oxPrice, .inl (tI, 5, .inl o_oxPrice))] (fun _ : (Nat → Int32) × (Nat → Int32) × Nat => none) (fun u : (Nat → Int32) × (Nat → Int32) × Nat => [(a_o, .inr (1, [.int o_year, .int (nI o_bridges), .int (nI o_men), .int (nI (u.2.2)), .ref a_o_forgets, .ref a_o_weight, .ref a_o_chance, .ref a_o_knowsAtFirst, .ref a_o_oxWeight, .ref a_o_oxPrice])), (a_o_oxWeight, .inl (tI, 5, .inl (u.1))), (a_o_oxPrice, .inl (tI, 5, .inl (u.2.1)))]) (S_X1_addOx x1 x2 o_oxen o_oxWeight o_oxPrice) := by
  refine CT.intro (k := 0) (Nat.le_of_ble_eq_true rfl) (by decide) ?_
  intro p e s m below meth c Q A ls E hA hP hD hS hl hF
  obtain ⟨⟨hx, hb, hml, hown, hts⟩, hK⟩ := id E
  generalize hR : S_X1_addOx x1 x2 o_oxen o_oxWeight o_oxPrice = RES at hF
  unfold S_X1_addOx at hR
  have hl : lv_has ls 3 [(0, .ref a_o), (1, .int x1), (2, .int x2)] := hl
  refine lv_aload_n hx hb dX1_addOx_0 rfl (lv_at hl 0 rfl) ?_
  refine fget E hP 0 rfl fd_X1_43 (v := .int (nI o_oxen)) rfl dX1_addOx_1 ?_
  refine lv_iconst (v := (5 : Int32)) hx hb dX1_addOx_4 (by decide) ?_
  refine ni_ge (a := o_oxen) (b := 5) (tgt := 38) (by omega) (by omega) hx hb dX1_addOx_5 (by decide) (fun c_1 => ?_) (fun c_1 => ?_)
  · rw [if_pos c_1] at hR
    subst hR
    exact (hF _ _ _ _ hP hS).2.2.2 rfl rfl dX1_addOx_38
  · rw [if_neg c_1] at hR
    refine lv_aload_n hx hb dX1_addOx_8 rfl (lv_at hl 0 rfl) ?_
    refine fget E hP 0 rfl fd_X1_24 (v := .ref a_o_oxWeight) rfl dX1_addOx_9 ?_
    refine lv_aload_n hx hb dX1_addOx_12 rfl (lv_at hl 0 rfl) ?_
    refine fget E hP 0 rfl fd_X1_43 (v := .int (nI o_oxen)) rfl dX1_addOx_13 ?_
    refine lv_iload_n hx hb dX1_addOx_16 rfl (lv_at hl 1 rfl) ?_
    refine ist E hP hD hS 1 rfl (k := o_oxen) (by omega) (by decide) dX1_addOx_17 (fun H locs hP hD hS => ?_)
    have hP : va_P D vwCl [(a_o, .inr (1, [.int o_year, .int (nI o_bridges), .int (nI o_men), .int (nI o_oxen), .ref a_o_forgets, .ref a_o_weight, .ref a_o_chance, .ref a_o_knowsAtFirst, .ref a_o_oxWeight, .ref a_o_oxPrice])), (a_o_oxWeight, .inl (tI, 5, .inl (upd o_oxWeight o_oxen x1))), (a_o_oxPrice, .inl (tI, 5, .inl o_oxPrice))] H := hP
    have hD : va_D A [(a_o, .inr (1, [.int o_year, .int (nI o_bridges), .int (nI o_men), .int (nI o_oxen), .ref a_o_forgets, .ref a_o_weight, .ref a_o_chance, .ref a_o_knowsAtFirst, .ref a_o_oxWeight, .ref a_o_oxPrice])), (a_o_oxWeight, .inl (tI, 5, .inl (upd o_oxWeight o_oxen x1))), (a_o_oxPrice, .inl (tI, 5, .inl o_oxPrice))] := hD
    refine lv_aload_n hx hb dX1_addOx_18 rfl (lv_at hl 0 rfl) ?_
    refine fget E hP 0 rfl fd_X1_27 (v := .ref a_o_oxPrice) rfl dX1_addOx_19 ?_
    refine lv_aload_n hx hb dX1_addOx_22 rfl (lv_at hl 0 rfl) ?_
    refine fget E hP 0 rfl fd_X1_43 (v := .int (nI o_oxen)) rfl dX1_addOx_23 ?_
    refine lv_iload_n hx hb dX1_addOx_26 rfl (lv_at hl 2 rfl) ?_
    refine ist E hP hD hS 2 rfl (k := o_oxen) (by omega) (by decide) dX1_addOx_27 (fun H locs hP hD hS => ?_)
    have hP : va_P D vwCl [(a_o, .inr (1, [.int o_year, .int (nI o_bridges), .int (nI o_men), .int (nI o_oxen), .ref a_o_forgets, .ref a_o_weight, .ref a_o_chance, .ref a_o_knowsAtFirst, .ref a_o_oxWeight, .ref a_o_oxPrice])), (a_o_oxWeight, .inl (tI, 5, .inl (upd o_oxWeight o_oxen x1))), (a_o_oxPrice, .inl (tI, 5, .inl (upd o_oxPrice o_oxen x2)))] H := hP
    have hD : va_D A [(a_o, .inr (1, [.int o_year, .int (nI o_bridges), .int (nI o_men), .int (nI o_oxen), .ref a_o_forgets, .ref a_o_weight, .ref a_o_chance, .ref a_o_knowsAtFirst, .ref a_o_oxWeight, .ref a_o_oxPrice])), (a_o_oxWeight, .inl (tI, 5, .inl (upd o_oxWeight o_oxen x1))), (a_o_oxPrice, .inl (tI, 5, .inl (upd o_oxPrice o_oxen x2)))] := hD
    refine lv_aload_n hx hb dX1_addOx_28 rfl (lv_at hl 0 rfl) ?_
    refine lv_dup hx hb dX1_addOx_29 rfl ?_
    refine fget E hP 0 rfl fd_X1_43 (v := .int (nI o_oxen)) rfl dX1_addOx_30 ?_
    refine lv_iconst (v := (1 : Int32)) hx hb dX1_addOx_33 (by decide) ?_
    refine lv_iadd hx hb dX1_addOx_34 ?_
    refine lv_is (nI_add o_oxen 1) ?_
    refine fput E hP hD hS 0 rfl fd_X1_43 fp_X1 (ty := .int) (v := .int (nI (o_oxen + 1))) rfl rfl rfl rfl (Nat.le_of_ble_eq_true rfl) dX1_addOx_35 (fun H locs hP hD hS => ?_)
    have hP : va_P D vwCl [(a_o, .inr (1, [.int o_year, .int (nI o_bridges), .int (nI o_men), .int (nI (o_oxen + 1)), .ref a_o_forgets, .ref a_o_weight, .ref a_o_chance, .ref a_o_knowsAtFirst, .ref a_o_oxWeight, .ref a_o_oxPrice])), (a_o_oxWeight, .inl (tI, 5, .inl (upd o_oxWeight o_oxen x1))), (a_o_oxPrice, .inl (tI, 5, .inl (upd o_oxPrice o_oxen x2)))] H := hP
    have hD : va_D A [(a_o, .inr (1, [.int o_year, .int (nI o_bridges), .int (nI o_men), .int (nI (o_oxen + 1)), .ref a_o_forgets, .ref a_o_weight, .ref a_o_chance, .ref a_o_knowsAtFirst, .ref a_o_oxWeight, .ref a_o_oxPrice])), (a_o_oxWeight, .inl (tI, 5, .inl (upd o_oxWeight o_oxen x1))), (a_o_oxPrice, .inl (tI, 5, .inl (upd o_oxPrice o_oxen x2)))] := hD
    subst hR
    exact (hF _ _ _ _ hP hS).2.2.2 rfl rfl dX1_addOx_38

def S_X1_copyFrom (x1_year : Int32) (x1_bridges : Nat) (x1_men : Nat) (x1_oxen : Nat) (x1_forgets : Nat → Int32) (o_forgets : Nat → Int32) (x1_weight : Nat → Int32) (o_weight : Nat → Int32) (x1_chance : Nat → Int32) (o_chance : Nat → Int32) (x1_knowsAtFirst : Nat → Int32) (o_knowsAtFirst : Nat → Int32) (x1_oxWeight : Nat → Int32) (o_oxWeight : Nat → Int32) (x1_oxPrice : Nat → Int32) (o_oxPrice : Nat → Int32) : Int32 × Nat × Nat × Nat × (Nat → Int32) × (Nat → Int32) × (Nat → Int32) × (Nat → Int32) × (Nat → Int32) × (Nat → Int32) := (x1_year, x1_bridges, x1_men, x1_oxen, (va_cpy x1_forgets o_forgets 0 0 5), (va_cpy x1_weight o_weight 0 0 6), (va_cpy x1_chance o_chance 0 0 6), (va_cpy x1_knowsAtFirst o_knowsAtFirst 0 0 6), (va_cpy x1_oxWeight o_oxWeight 0 0 5), (va_cpy x1_oxPrice o_oxPrice 0 0 5))
set_option maxHeartbeats 4000000 in
set_option maxRecDepth 100000 in
theorem c_X1_copyFrom (l : Launch) (D : va_G) (tB tI tZ : ClassId) (a_x1 a_x1_forgets a_x1_weight a_x1_chance a_x1_knowsAtFirst a_x1_oxWeight a_x1_oxPrice a_o a_o_forgets a_o_weight a_o_chance a_o_knowsAtFirst a_o_oxWeight a_o_oxPrice : Nat) (x1_year : Int32) (x1_bridges : Nat) (x1_men : Nat) (x1_oxen : Nat) (o_year : Int32) (o_bridges : Nat) (o_men : Nat) (o_oxen : Nat) (x1_forgets : Nat → Int32) (o_forgets : Nat → Int32) (x1_weight : Nat → Int32) (o_weight : Nat → Int32) (x1_chance : Nat → Int32) (o_chance : Nat → Int32) (x1_knowsAtFirst : Nat → Int32) (o_knowsAtFirst : Nat → Int32) (x1_oxWeight : Nat → Int32) (o_oxWeight : Nat → Int32) (x1_oxPrice : Nat → Int32) (o_oxPrice : Nat → Int32)   : CT l D (tyL tB tI tZ) yX1_copyFrom (.code yX1_copyFrom cX1_copyFrom 2 none) 1 40 [.ref a_o, .ref a_x1] [(a_x1, .inr (1, [.int x1_year, .int (nI x1_bridges), .int (nI x1_men), .int (nI x1_oxen), .ref a_x1_forgets, .ref a_x1_weight, .ref a_x1_chance, .ref a_x1_knowsAtFirst, .ref a_x1_oxWeight, .ref a_x1_oxPrice])), (a_o, .inr (1, [.int o_year, .int (nI o_bridges), .int (nI o_men), .int (nI o_oxen), .ref a_o_forgets, .ref a_o_weight, .ref a_o_chance, .ref a_o_knowsAtFirst, .ref a_o_oxWeight, .ref a_o_oxPrice])), (a_x1_forgets, .inl (tI, 5, .inl x1_forgets)), (a_o_forgets, .inl (tI, 5, .inl o_forgets)), (a_x1_weight, .inl (tI, 6, .inl x1_weight)), (a_o_weight, .inl (tI, 6, .inl o_weight)), (a_x1_chance, .inl (tI, 6, .inl x1_chance)), (a_o_chance, .inl (tI, 6, .inl o_chance)), (a_x1_knowsAtFirst, .inl (tI, 6, .inl x1_knowsAtFirst)), (a_o_knowsAtFirst, .inl (tI, 6, .inl o_knowsAtFirst)), (a_x1_oxWeight, .inl (tI, 5, .inl x1_oxWeight)), (a_o_oxWeight, .inl (tI, 5, .inl o_oxWeight)), (a_x1_oxPrice, .inl (tI, 5, .inl x1_oxPrice)), (a_o_oxPrice, .inl (tI, 5, .inl o_oxPrice))] (fun _ : Int32 × Nat × Nat × Nat × (Nat → Int32) × (Nat → Int32) × (Nat → Int32) × (Nat → Int32) × (Nat → Int32) × (Nat → Int32) => none) (fun u : Int32 × Nat × Nat × Nat × (Nat → Int32) × (Nat → Int32) × (Nat → Int32) × (Nat → Int32) × (Nat → Int32) × (Nat → Int32) => [(a_x1, .inr (1, [.int x1_year, .int (nI x1_bridges), .int (nI x1_men), .int (nI x1_oxen), .ref a_x1_forgets, .ref a_x1_weight, .ref a_x1_chance, .ref a_x1_knowsAtFirst, .ref a_x1_oxWeight, .ref a_x1_oxPrice])), (a_o, .inr (1, [.int (u.1), .int (nI (u.2.1)), .int (nI (u.2.2.1)), .int (nI (u.2.2.2.1)), .ref a_o_forgets, .ref a_o_weight, .ref a_o_chance, .ref a_o_knowsAtFirst, .ref a_o_oxWeight, .ref a_o_oxPrice])), (a_x1_forgets, .inl (tI, 5, .inl x1_forgets)), (a_o_forgets, .inl (tI, 5, .inl (u.2.2.2.2.1))), (a_x1_weight, .inl (tI, 6, .inl x1_weight)), (a_o_weight, .inl (tI, 6, .inl (u.2.2.2.2.2.1))), (a_x1_chance, .inl (tI, 6, .inl x1_chance)), (a_o_chance, .inl (tI, 6, .inl (u.2.2.2.2.2.2.1))), (a_x1_knowsAtFirst, .inl (tI, 6, .inl x1_knowsAtFirst)), (a_o_knowsAtFirst, .inl (tI, 6, .inl (u.2.2.2.2.2.2.2.1))), (a_x1_oxWeight, .inl (tI, 5, .inl x1_oxWeight)), (a_o_oxWeight, .inl (tI, 5, .inl (u.2.2.2.2.2.2.2.2.1))), (a_x1_oxPrice, .inl (tI, 5, .inl x1_oxPrice)), (a_o_oxPrice, .inl (tI, 5, .inl (u.2.2.2.2.2.2.2.2.2)))]) (S_X1_copyFrom x1_year x1_bridges x1_men x1_oxen x1_forgets o_forgets x1_weight o_weight x1_chance o_chance x1_knowsAtFirst o_knowsAtFirst x1_oxWeight o_oxWeight x1_oxPrice o_oxPrice) := by
  refine CT.intro (k := 0) (Nat.le_of_ble_eq_true rfl) (by decide) ?_
  intro p e s m below meth c Q A ls E hA hP hD hS hl hF
  obtain ⟨⟨hx, hb, hml, hown, hts⟩, hK⟩ := id E
  generalize hR : S_X1_copyFrom x1_year x1_bridges x1_men x1_oxen x1_forgets o_forgets x1_weight o_weight x1_chance o_chance x1_knowsAtFirst o_knowsAtFirst x1_oxWeight o_oxWeight x1_oxPrice o_oxPrice = RES at hF
  unfold S_X1_copyFrom at hR
  have hl : lv_has ls 2 [(0, .ref a_o), (1, .ref a_x1)] := hl
  refine lv_aload_n hx hb dX1_copyFrom_0 rfl (lv_at hl 0 rfl) ?_
  refine lv_aload_n hx hb dX1_copyFrom_1 rfl (lv_at hl 1 rfl) ?_
  refine fget E hP 0 rfl fd_X1_33 (v := .int x1_year) rfl dX1_copyFrom_2 ?_
  refine fput E hP hD hS 1 rfl fd_X1_33 fp_X1 (ty := .int) (v := .int x1_year) rfl rfl rfl rfl (Nat.le_of_ble_eq_true rfl) dX1_copyFrom_5 (fun H locs hP hD hS => ?_)
  have hP : va_P D vwCl [(a_x1, .inr (1, [.int x1_year, .int (nI x1_bridges), .int (nI x1_men), .int (nI x1_oxen), .ref a_x1_forgets, .ref a_x1_weight, .ref a_x1_chance, .ref a_x1_knowsAtFirst, .ref a_x1_oxWeight, .ref a_x1_oxPrice])), (a_o, .inr (1, [.int x1_year, .int (nI o_bridges), .int (nI o_men), .int (nI o_oxen), .ref a_o_forgets, .ref a_o_weight, .ref a_o_chance, .ref a_o_knowsAtFirst, .ref a_o_oxWeight, .ref a_o_oxPrice])), (a_x1_forgets, .inl (tI, 5, .inl x1_forgets)), (a_o_forgets, .inl (tI, 5, .inl o_forgets)), (a_x1_weight, .inl (tI, 6, .inl x1_weight)), (a_o_weight, .inl (tI, 6, .inl o_weight)), (a_x1_chance, .inl (tI, 6, .inl x1_chance)), (a_o_chance, .inl (tI, 6, .inl o_chance)), (a_x1_knowsAtFirst, .inl (tI, 6, .inl x1_knowsAtFirst)), (a_o_knowsAtFirst, .inl (tI, 6, .inl o_knowsAtFirst)), (a_x1_oxWeight, .inl (tI, 5, .inl x1_oxWeight)), (a_o_oxWeight, .inl (tI, 5, .inl o_oxWeight)), (a_x1_oxPrice, .inl (tI, 5, .inl x1_oxPrice)), (a_o_oxPrice, .inl (tI, 5, .inl o_oxPrice))] H := hP
  have hD : va_D A [(a_x1, .inr (1, [.int x1_year, .int (nI x1_bridges), .int (nI x1_men), .int (nI x1_oxen), .ref a_x1_forgets, .ref a_x1_weight, .ref a_x1_chance, .ref a_x1_knowsAtFirst, .ref a_x1_oxWeight, .ref a_x1_oxPrice])), (a_o, .inr (1, [.int x1_year, .int (nI o_bridges), .int (nI o_men), .int (nI o_oxen), .ref a_o_forgets, .ref a_o_weight, .ref a_o_chance, .ref a_o_knowsAtFirst, .ref a_o_oxWeight, .ref a_o_oxPrice])), (a_x1_forgets, .inl (tI, 5, .inl x1_forgets)), (a_o_forgets, .inl (tI, 5, .inl o_forgets)), (a_x1_weight, .inl (tI, 6, .inl x1_weight)), (a_o_weight, .inl (tI, 6, .inl o_weight)), (a_x1_chance, .inl (tI, 6, .inl x1_chance)), (a_o_chance, .inl (tI, 6, .inl o_chance)), (a_x1_knowsAtFirst, .inl (tI, 6, .inl x1_knowsAtFirst)), (a_o_knowsAtFirst, .inl (tI, 6, .inl o_knowsAtFirst)), (a_x1_oxWeight, .inl (tI, 5, .inl x1_oxWeight)), (a_o_oxWeight, .inl (tI, 5, .inl o_oxWeight)), (a_x1_oxPrice, .inl (tI, 5, .inl x1_oxPrice)), (a_o_oxPrice, .inl (tI, 5, .inl o_oxPrice))] := hD
  refine lv_aload_n hx hb dX1_copyFrom_8 rfl (lv_at hl 0 rfl) ?_
  refine lv_aload_n hx hb dX1_copyFrom_9 rfl (lv_at hl 1 rfl) ?_
  refine fget E hP 0 rfl fd_X1_37 (v := .int (nI x1_bridges)) rfl dX1_copyFrom_10 ?_
  refine fput E hP hD hS 1 rfl fd_X1_37 fp_X1 (ty := .int) (v := .int (nI x1_bridges)) rfl rfl rfl rfl (Nat.le_of_ble_eq_true rfl) dX1_copyFrom_13 (fun H locs hP hD hS => ?_)
  have hP : va_P D vwCl [(a_x1, .inr (1, [.int x1_year, .int (nI x1_bridges), .int (nI x1_men), .int (nI x1_oxen), .ref a_x1_forgets, .ref a_x1_weight, .ref a_x1_chance, .ref a_x1_knowsAtFirst, .ref a_x1_oxWeight, .ref a_x1_oxPrice])), (a_o, .inr (1, [.int x1_year, .int (nI x1_bridges), .int (nI o_men), .int (nI o_oxen), .ref a_o_forgets, .ref a_o_weight, .ref a_o_chance, .ref a_o_knowsAtFirst, .ref a_o_oxWeight, .ref a_o_oxPrice])), (a_x1_forgets, .inl (tI, 5, .inl x1_forgets)), (a_o_forgets, .inl (tI, 5, .inl o_forgets)), (a_x1_weight, .inl (tI, 6, .inl x1_weight)), (a_o_weight, .inl (tI, 6, .inl o_weight)), (a_x1_chance, .inl (tI, 6, .inl x1_chance)), (a_o_chance, .inl (tI, 6, .inl o_chance)), (a_x1_knowsAtFirst, .inl (tI, 6, .inl x1_knowsAtFirst)), (a_o_knowsAtFirst, .inl (tI, 6, .inl o_knowsAtFirst)), (a_x1_oxWeight, .inl (tI, 5, .inl x1_oxWeight)), (a_o_oxWeight, .inl (tI, 5, .inl o_oxWeight)), (a_x1_oxPrice, .inl (tI, 5, .inl x1_oxPrice)), (a_o_oxPrice, .inl (tI, 5, .inl o_oxPrice))] H := hP
  have hD : va_D A [(a_x1, .inr (1, [.int x1_year, .int (nI x1_bridges), .int (nI x1_men), .int (nI x1_oxen), .ref a_x1_forgets, .ref a_x1_weight, .ref a_x1_chance, .ref a_x1_knowsAtFirst, .ref a_x1_oxWeight, .ref a_x1_oxPrice])), (a_o, .inr (1, [.int x1_year, .int (nI x1_bridges), .int (nI o_men), .int (nI o_oxen), .ref a_o_forgets, .ref a_o_weight, .ref a_o_chance, .ref a_o_knowsAtFirst, .ref a_o_oxWeight, .ref a_o_oxPrice])), (a_x1_forgets, .inl (tI, 5, .inl x1_forgets)), (a_o_forgets, .inl (tI, 5, .inl o_forgets)), (a_x1_weight, .inl (tI, 6, .inl x1_weight)), (a_o_weight, .inl (tI, 6, .inl o_weight)), (a_x1_chance, .inl (tI, 6, .inl x1_chance)), (a_o_chance, .inl (tI, 6, .inl o_chance)), (a_x1_knowsAtFirst, .inl (tI, 6, .inl x1_knowsAtFirst)), (a_o_knowsAtFirst, .inl (tI, 6, .inl o_knowsAtFirst)), (a_x1_oxWeight, .inl (tI, 5, .inl x1_oxWeight)), (a_o_oxWeight, .inl (tI, 5, .inl o_oxWeight)), (a_x1_oxPrice, .inl (tI, 5, .inl x1_oxPrice)), (a_o_oxPrice, .inl (tI, 5, .inl o_oxPrice))] := hD
  refine lv_aload_n hx hb dX1_copyFrom_16 rfl (lv_at hl 0 rfl) ?_
  refine lv_aload_n hx hb dX1_copyFrom_17 rfl (lv_at hl 1 rfl) ?_
  refine fget E hP 0 rfl fd_X1_40 (v := .int (nI x1_men)) rfl dX1_copyFrom_18 ?_
  refine fput E hP hD hS 1 rfl fd_X1_40 fp_X1 (ty := .int) (v := .int (nI x1_men)) rfl rfl rfl rfl (Nat.le_of_ble_eq_true rfl) dX1_copyFrom_21 (fun H locs hP hD hS => ?_)
  have hP : va_P D vwCl [(a_x1, .inr (1, [.int x1_year, .int (nI x1_bridges), .int (nI x1_men), .int (nI x1_oxen), .ref a_x1_forgets, .ref a_x1_weight, .ref a_x1_chance, .ref a_x1_knowsAtFirst, .ref a_x1_oxWeight, .ref a_x1_oxPrice])), (a_o, .inr (1, [.int x1_year, .int (nI x1_bridges), .int (nI x1_men), .int (nI o_oxen), .ref a_o_forgets, .ref a_o_weight, .ref a_o_chance, .ref a_o_knowsAtFirst, .ref a_o_oxWeight, .ref a_o_oxPrice])), (a_x1_forgets, .inl (tI, 5, .inl x1_forgets)), (a_o_forgets, .inl (tI, 5, .inl o_forgets)), (a_x1_weight, .inl (tI, 6, .inl x1_weight)), (a_o_weight, .inl (tI, 6, .inl o_weight)), (a_x1_chance, .inl (tI, 6, .inl x1_chance)), (a_o_chance, .inl (tI, 6, .inl o_chance)), (a_x1_knowsAtFirst, .inl (tI, 6, .inl x1_knowsAtFirst)), (a_o_knowsAtFirst, .inl (tI, 6, .inl o_knowsAtFirst)), (a_x1_oxWeight, .inl (tI, 5, .inl x1_oxWeight)), (a_o_oxWeight, .inl (tI, 5, .inl o_oxWeight)), (a_x1_oxPrice, .inl (tI, 5, .inl x1_oxPrice)), (a_o_oxPrice, .inl (tI, 5, .inl o_oxPrice))] H := hP
  have hD : va_D A [(a_x1, .inr (1, [.int x1_year, .int (nI x1_bridges), .int (nI x1_men), .int (nI x1_oxen), .ref a_x1_forgets, .ref a_x1_weight, .ref a_x1_chance, .ref a_x1_knowsAtFirst, .ref a_x1_oxWeight, .ref a_x1_oxPrice])), (a_o, .inr (1, [.int x1_year, .int (nI x1_bridges), .int (nI x1_men), .int (nI o_oxen), .ref a_o_forgets, .ref a_o_weight, .ref a_o_chance, .ref a_o_knowsAtFirst, .ref a_o_oxWeight, .ref a_o_oxPrice])), (a_x1_forgets, .inl (tI, 5, .inl x1_forgets)), (a_o_forgets, .inl (tI, 5, .inl o_forgets)), (a_x1_weight, .inl (tI, 6, .inl x1_weight)), (a_o_weight, .inl (tI, 6, .inl o_weight)), (a_x1_chance, .inl (tI, 6, .inl x1_chance)), (a_o_chance, .inl (tI, 6, .inl o_chance)), (a_x1_knowsAtFirst, .inl (tI, 6, .inl x1_knowsAtFirst)), (a_o_knowsAtFirst, .inl (tI, 6, .inl o_knowsAtFirst)), (a_x1_oxWeight, .inl (tI, 5, .inl x1_oxWeight)), (a_o_oxWeight, .inl (tI, 5, .inl o_oxWeight)), (a_x1_oxPrice, .inl (tI, 5, .inl x1_oxPrice)), (a_o_oxPrice, .inl (tI, 5, .inl o_oxPrice))] := hD
  refine lv_aload_n hx hb dX1_copyFrom_24 rfl (lv_at hl 0 rfl) ?_
  refine lv_aload_n hx hb dX1_copyFrom_25 rfl (lv_at hl 1 rfl) ?_
  refine fget E hP 0 rfl fd_X1_43 (v := .int (nI x1_oxen)) rfl dX1_copyFrom_26 ?_
  refine fput E hP hD hS 1 rfl fd_X1_43 fp_X1 (ty := .int) (v := .int (nI x1_oxen)) rfl rfl rfl rfl (Nat.le_of_ble_eq_true rfl) dX1_copyFrom_29 (fun H locs hP hD hS => ?_)
  have hP : va_P D vwCl [(a_x1, .inr (1, [.int x1_year, .int (nI x1_bridges), .int (nI x1_men), .int (nI x1_oxen), .ref a_x1_forgets, .ref a_x1_weight, .ref a_x1_chance, .ref a_x1_knowsAtFirst, .ref a_x1_oxWeight, .ref a_x1_oxPrice])), (a_o, .inr (1, [.int x1_year, .int (nI x1_bridges), .int (nI x1_men), .int (nI x1_oxen), .ref a_o_forgets, .ref a_o_weight, .ref a_o_chance, .ref a_o_knowsAtFirst, .ref a_o_oxWeight, .ref a_o_oxPrice])), (a_x1_forgets, .inl (tI, 5, .inl x1_forgets)), (a_o_forgets, .inl (tI, 5, .inl o_forgets)), (a_x1_weight, .inl (tI, 6, .inl x1_weight)), (a_o_weight, .inl (tI, 6, .inl o_weight)), (a_x1_chance, .inl (tI, 6, .inl x1_chance)), (a_o_chance, .inl (tI, 6, .inl o_chance)), (a_x1_knowsAtFirst, .inl (tI, 6, .inl x1_knowsAtFirst)), (a_o_knowsAtFirst, .inl (tI, 6, .inl o_knowsAtFirst)), (a_x1_oxWeight, .inl (tI, 5, .inl x1_oxWeight)), (a_o_oxWeight, .inl (tI, 5, .inl o_oxWeight)), (a_x1_oxPrice, .inl (tI, 5, .inl x1_oxPrice)), (a_o_oxPrice, .inl (tI, 5, .inl o_oxPrice))] H := hP
  have hD : va_D A [(a_x1, .inr (1, [.int x1_year, .int (nI x1_bridges), .int (nI x1_men), .int (nI x1_oxen), .ref a_x1_forgets, .ref a_x1_weight, .ref a_x1_chance, .ref a_x1_knowsAtFirst, .ref a_x1_oxWeight, .ref a_x1_oxPrice])), (a_o, .inr (1, [.int x1_year, .int (nI x1_bridges), .int (nI x1_men), .int (nI x1_oxen), .ref a_o_forgets, .ref a_o_weight, .ref a_o_chance, .ref a_o_knowsAtFirst, .ref a_o_oxWeight, .ref a_o_oxPrice])), (a_x1_forgets, .inl (tI, 5, .inl x1_forgets)), (a_o_forgets, .inl (tI, 5, .inl o_forgets)), (a_x1_weight, .inl (tI, 6, .inl x1_weight)), (a_o_weight, .inl (tI, 6, .inl o_weight)), (a_x1_chance, .inl (tI, 6, .inl x1_chance)), (a_o_chance, .inl (tI, 6, .inl o_chance)), (a_x1_knowsAtFirst, .inl (tI, 6, .inl x1_knowsAtFirst)), (a_o_knowsAtFirst, .inl (tI, 6, .inl o_knowsAtFirst)), (a_x1_oxWeight, .inl (tI, 5, .inl x1_oxWeight)), (a_o_oxWeight, .inl (tI, 5, .inl o_oxWeight)), (a_x1_oxPrice, .inl (tI, 5, .inl x1_oxPrice)), (a_o_oxPrice, .inl (tI, 5, .inl o_oxPrice))] := hD
  refine lv_aload_n hx hb dX1_copyFrom_32 rfl (lv_at hl 1 rfl) ?_
  refine fget E hP 0 rfl fd_X1_9 (v := .ref a_x1_forgets) rfl dX1_copyFrom_33 ?_
  refine lv_iconst (v := (0 : Int32)) hx hb dX1_copyFrom_36 (by decide) ?_
  refine lv_aload_n hx hb dX1_copyFrom_37 rfl (lv_at hl 0 rfl) ?_
  refine fget E hP 1 rfl fd_X1_9 (v := .ref a_o_forgets) rfl dX1_copyFrom_38 ?_
  refine lv_iconst (v := (0 : Int32)) hx hb dX1_copyFrom_41 (by decide) ?_
  refine lv_iconst (v := (5 : Int32)) hx hb dX1_copyFrom_42 (by decide) ?_
  refine va_copyi hx hb (hml.trans hl.1.symm) hown (hts _ wm_X1_46) (hts _ wnat_J_System_arraycopy) (hts _ wst_J_System_arraycopy) (hts _ wn_System) hK.1 hP hD hS 2 3 1 1 rfl rfl rfl rfl rfl (by decide) (by decide) (by decide) (by decide) (by decide) (fun _ _ => rfl) (Nat.le_of_ble_eq_true rfl) (by decide) dX1_copyFrom_43 (fun H locs hP hD hS => ?_)
  have hP : va_P D vwCl [(a_x1, .inr (1, [.int x1_year, .int (nI x1_bridges), .int (nI x1_men), .int (nI x1_oxen), .ref a_x1_forgets, .ref a_x1_weight, .ref a_x1_chance, .ref a_x1_knowsAtFirst, .ref a_x1_oxWeight, .ref a_x1_oxPrice])), (a_o, .inr (1, [.int x1_year, .int (nI x1_bridges), .int (nI x1_men), .int (nI x1_oxen), .ref a_o_forgets, .ref a_o_weight, .ref a_o_chance, .ref a_o_knowsAtFirst, .ref a_o_oxWeight, .ref a_o_oxPrice])), (a_x1_forgets, .inl (tI, 5, .inl x1_forgets)), (a_o_forgets, .inl (tI, 5, .inl (va_cpy x1_forgets o_forgets 0 0 5))), (a_x1_weight, .inl (tI, 6, .inl x1_weight)), (a_o_weight, .inl (tI, 6, .inl o_weight)), (a_x1_chance, .inl (tI, 6, .inl x1_chance)), (a_o_chance, .inl (tI, 6, .inl o_chance)), (a_x1_knowsAtFirst, .inl (tI, 6, .inl x1_knowsAtFirst)), (a_o_knowsAtFirst, .inl (tI, 6, .inl o_knowsAtFirst)), (a_x1_oxWeight, .inl (tI, 5, .inl x1_oxWeight)), (a_o_oxWeight, .inl (tI, 5, .inl o_oxWeight)), (a_x1_oxPrice, .inl (tI, 5, .inl x1_oxPrice)), (a_o_oxPrice, .inl (tI, 5, .inl o_oxPrice))] H := hP
  have hD : va_D A [(a_x1, .inr (1, [.int x1_year, .int (nI x1_bridges), .int (nI x1_men), .int (nI x1_oxen), .ref a_x1_forgets, .ref a_x1_weight, .ref a_x1_chance, .ref a_x1_knowsAtFirst, .ref a_x1_oxWeight, .ref a_x1_oxPrice])), (a_o, .inr (1, [.int x1_year, .int (nI x1_bridges), .int (nI x1_men), .int (nI x1_oxen), .ref a_o_forgets, .ref a_o_weight, .ref a_o_chance, .ref a_o_knowsAtFirst, .ref a_o_oxWeight, .ref a_o_oxPrice])), (a_x1_forgets, .inl (tI, 5, .inl x1_forgets)), (a_o_forgets, .inl (tI, 5, .inl (va_cpy x1_forgets o_forgets 0 0 5))), (a_x1_weight, .inl (tI, 6, .inl x1_weight)), (a_o_weight, .inl (tI, 6, .inl o_weight)), (a_x1_chance, .inl (tI, 6, .inl x1_chance)), (a_o_chance, .inl (tI, 6, .inl o_chance)), (a_x1_knowsAtFirst, .inl (tI, 6, .inl x1_knowsAtFirst)), (a_o_knowsAtFirst, .inl (tI, 6, .inl o_knowsAtFirst)), (a_x1_oxWeight, .inl (tI, 5, .inl x1_oxWeight)), (a_o_oxWeight, .inl (tI, 5, .inl o_oxWeight)), (a_x1_oxPrice, .inl (tI, 5, .inl x1_oxPrice)), (a_o_oxPrice, .inl (tI, 5, .inl o_oxPrice))] := hD
  refine lv_aload_n hx hb dX1_copyFrom_46 rfl (lv_at hl 1 rfl) ?_
  refine fget E hP 0 rfl fd_X1_15 (v := .ref a_x1_weight) rfl dX1_copyFrom_47 ?_
  refine lv_iconst (v := (0 : Int32)) hx hb dX1_copyFrom_50 (by decide) ?_
  refine lv_aload_n hx hb dX1_copyFrom_51 rfl (lv_at hl 0 rfl) ?_
  refine fget E hP 1 rfl fd_X1_15 (v := .ref a_o_weight) rfl dX1_copyFrom_52 ?_
  refine lv_iconst (v := (0 : Int32)) hx hb dX1_copyFrom_55 (by decide) ?_
  refine lv_bipush (v := (6 : Int32)) hx hb dX1_copyFrom_56 (by decide) ?_
  refine va_copyi hx hb (hml.trans hl.1.symm) hown (hts _ wm_X1_46) (hts _ wnat_J_System_arraycopy) (hts _ wst_J_System_arraycopy) (hts _ wn_System) hK.1 hP hD hS 4 5 1 1 rfl rfl rfl rfl rfl (by decide) (by decide) (by decide) (by decide) (by decide) (fun _ _ => rfl) (Nat.le_of_ble_eq_true rfl) (by decide) dX1_copyFrom_58 (fun H locs hP hD hS => ?_)
  have hP : va_P D vwCl [(a_x1, .inr (1, [.int x1_year, .int (nI x1_bridges), .int (nI x1_men), .int (nI x1_oxen), .ref a_x1_forgets, .ref a_x1_weight, .ref a_x1_chance, .ref a_x1_knowsAtFirst, .ref a_x1_oxWeight, .ref a_x1_oxPrice])), (a_o, .inr (1, [.int x1_year, .int (nI x1_bridges), .int (nI x1_men), .int (nI x1_oxen), .ref a_o_forgets, .ref a_o_weight, .ref a_o_chance, .ref a_o_knowsAtFirst, .ref a_o_oxWeight, .ref a_o_oxPrice])), (a_x1_forgets, .inl (tI, 5, .inl x1_forgets)), (a_o_forgets, .inl (tI, 5, .inl (va_cpy x1_forgets o_forgets 0 0 5))), (a_x1_weight, .inl (tI, 6, .inl x1_weight)), (a_o_weight, .inl (tI, 6, .inl (va_cpy x1_weight o_weight 0 0 6))), (a_x1_chance, .inl (tI, 6, .inl x1_chance)), (a_o_chance, .inl (tI, 6, .inl o_chance)), (a_x1_knowsAtFirst, .inl (tI, 6, .inl x1_knowsAtFirst)), (a_o_knowsAtFirst, .inl (tI, 6, .inl o_knowsAtFirst)), (a_x1_oxWeight, .inl (tI, 5, .inl x1_oxWeight)), (a_o_oxWeight, .inl (tI, 5, .inl o_oxWeight)), (a_x1_oxPrice, .inl (tI, 5, .inl x1_oxPrice)), (a_o_oxPrice, .inl (tI, 5, .inl o_oxPrice))] H := hP
  have hD : va_D A [(a_x1, .inr (1, [.int x1_year, .int (nI x1_bridges), .int (nI x1_men), .int (nI x1_oxen), .ref a_x1_forgets, .ref a_x1_weight, .ref a_x1_chance, .ref a_x1_knowsAtFirst, .ref a_x1_oxWeight, .ref a_x1_oxPrice])), (a_o, .inr (1, [.int x1_year, .int (nI x1_bridges), .int (nI x1_men), .int (nI x1_oxen), .ref a_o_forgets, .ref a_o_weight, .ref a_o_chance, .ref a_o_knowsAtFirst, .ref a_o_oxWeight, .ref a_o_oxPrice])), (a_x1_forgets, .inl (tI, 5, .inl x1_forgets)), (a_o_forgets, .inl (tI, 5, .inl (va_cpy x1_forgets o_forgets 0 0 5))), (a_x1_weight, .inl (tI, 6, .inl x1_weight)), (a_o_weight, .inl (tI, 6, .inl (va_cpy x1_weight o_weight 0 0 6))), (a_x1_chance, .inl (tI, 6, .inl x1_chance)), (a_o_chance, .inl (tI, 6, .inl o_chance)), (a_x1_knowsAtFirst, .inl (tI, 6, .inl x1_knowsAtFirst)), (a_o_knowsAtFirst, .inl (tI, 6, .inl o_knowsAtFirst)), (a_x1_oxWeight, .inl (tI, 5, .inl x1_oxWeight)), (a_o_oxWeight, .inl (tI, 5, .inl o_oxWeight)), (a_x1_oxPrice, .inl (tI, 5, .inl x1_oxPrice)), (a_o_oxPrice, .inl (tI, 5, .inl o_oxPrice))] := hD
  refine lv_aload_n hx hb dX1_copyFrom_61 rfl (lv_at hl 1 rfl) ?_
  refine fget E hP 0 rfl fd_X1_18 (v := .ref a_x1_chance) rfl dX1_copyFrom_62 ?_
  refine lv_iconst (v := (0 : Int32)) hx hb dX1_copyFrom_65 (by decide) ?_
  refine lv_aload_n hx hb dX1_copyFrom_66 rfl (lv_at hl 0 rfl) ?_
  refine fget E hP 1 rfl fd_X1_18 (v := .ref a_o_chance) rfl dX1_copyFrom_67 ?_
  refine lv_iconst (v := (0 : Int32)) hx hb dX1_copyFrom_70 (by decide) ?_
  refine lv_bipush (v := (6 : Int32)) hx hb dX1_copyFrom_71 (by decide) ?_
  refine va_copyi hx hb (hml.trans hl.1.symm) hown (hts _ wm_X1_46) (hts _ wnat_J_System_arraycopy) (hts _ wst_J_System_arraycopy) (hts _ wn_System) hK.1 hP hD hS 6 7 1 1 rfl rfl rfl rfl rfl (by decide) (by decide) (by decide) (by decide) (by decide) (fun _ _ => rfl) (Nat.le_of_ble_eq_true rfl) (by decide) dX1_copyFrom_73 (fun H locs hP hD hS => ?_)
  have hP : va_P D vwCl [(a_x1, .inr (1, [.int x1_year, .int (nI x1_bridges), .int (nI x1_men), .int (nI x1_oxen), .ref a_x1_forgets, .ref a_x1_weight, .ref a_x1_chance, .ref a_x1_knowsAtFirst, .ref a_x1_oxWeight, .ref a_x1_oxPrice])), (a_o, .inr (1, [.int x1_year, .int (nI x1_bridges), .int (nI x1_men), .int (nI x1_oxen), .ref a_o_forgets, .ref a_o_weight, .ref a_o_chance, .ref a_o_knowsAtFirst, .ref a_o_oxWeight, .ref a_o_oxPrice])), (a_x1_forgets, .inl (tI, 5, .inl x1_forgets)), (a_o_forgets, .inl (tI, 5, .inl (va_cpy x1_forgets o_forgets 0 0 5))), (a_x1_weight, .inl (tI, 6, .inl x1_weight)), (a_o_weight, .inl (tI, 6, .inl (va_cpy x1_weight o_weight 0 0 6))), (a_x1_chance, .inl (tI, 6, .inl x1_chance)), (a_o_chance, .inl (tI, 6, .inl (va_cpy x1_chance o_chance 0 0 6))), (a_x1_knowsAtFirst, .inl (tI, 6, .inl x1_knowsAtFirst)), (a_o_knowsAtFirst, .inl (tI, 6, .inl o_knowsAtFirst)), (a_x1_oxWeight, .inl (tI, 5, .inl x1_oxWeight)), (a_o_oxWeight, .inl (tI, 5, .inl o_oxWeight)), (a_x1_oxPrice, .inl (tI, 5, .inl x1_oxPrice)), (a_o_oxPrice, .inl (tI, 5, .inl o_oxPrice))] H := hP
  have hD : va_D A [(a_x1, .inr (1, [.int x1_year, .int (nI x1_bridges), .int (nI x1_men), .int (nI x1_oxen), .ref a_x1_forgets, .ref a_x1_weight, .ref a_x1_chance, .ref a_x1_knowsAtFirst, .ref a_x1_oxWeight, .ref a_x1_oxPrice])), (a_o, .inr (1, [.int x1_year, .int (nI x1_bridges), .int (nI x1_men), .int (nI x1_oxen), .ref a_o_forgets, .ref a_o_weight, .ref a_o_chance, .ref a_o_knowsAtFirst, .ref a_o_oxWeight, .ref a_o_oxPrice])), (a_x1_forgets, .inl (tI, 5, .inl x1_forgets)), (a_o_forgets, .inl (tI, 5, .inl (va_cpy x1_forgets o_forgets 0 0 5))), (a_x1_weight, .inl (tI, 6, .inl x1_weight)), (a_o_weight, .inl (tI, 6, .inl (va_cpy x1_weight o_weight 0 0 6))), (a_x1_chance, .inl (tI, 6, .inl x1_chance)), (a_o_chance, .inl (tI, 6, .inl (va_cpy x1_chance o_chance 0 0 6))), (a_x1_knowsAtFirst, .inl (tI, 6, .inl x1_knowsAtFirst)), (a_o_knowsAtFirst, .inl (tI, 6, .inl o_knowsAtFirst)), (a_x1_oxWeight, .inl (tI, 5, .inl x1_oxWeight)), (a_o_oxWeight, .inl (tI, 5, .inl o_oxWeight)), (a_x1_oxPrice, .inl (tI, 5, .inl x1_oxPrice)), (a_o_oxPrice, .inl (tI, 5, .inl o_oxPrice))] := hD
  refine lv_aload_n hx hb dX1_copyFrom_76 rfl (lv_at hl 1 rfl) ?_
  refine fget E hP 0 rfl fd_X1_21 (v := .ref a_x1_knowsAtFirst) rfl dX1_copyFrom_77 ?_
  refine lv_iconst (v := (0 : Int32)) hx hb dX1_copyFrom_80 (by decide) ?_
  refine lv_aload_n hx hb dX1_copyFrom_81 rfl (lv_at hl 0 rfl) ?_
  refine fget E hP 1 rfl fd_X1_21 (v := .ref a_o_knowsAtFirst) rfl dX1_copyFrom_82 ?_
  refine lv_iconst (v := (0 : Int32)) hx hb dX1_copyFrom_85 (by decide) ?_
  refine lv_bipush (v := (6 : Int32)) hx hb dX1_copyFrom_86 (by decide) ?_
  refine va_copyi hx hb (hml.trans hl.1.symm) hown (hts _ wm_X1_46) (hts _ wnat_J_System_arraycopy) (hts _ wst_J_System_arraycopy) (hts _ wn_System) hK.1 hP hD hS 8 9 1 1 rfl rfl rfl rfl rfl (by decide) (by decide) (by decide) (by decide) (by decide) (fun _ _ => rfl) (Nat.le_of_ble_eq_true rfl) (by decide) dX1_copyFrom_88 (fun H locs hP hD hS => ?_)
  have hP : va_P D vwCl [(a_x1, .inr (1, [.int x1_year, .int (nI x1_bridges), .int (nI x1_men), .int (nI x1_oxen), .ref a_x1_forgets, .ref a_x1_weight, .ref a_x1_chance, .ref a_x1_knowsAtFirst, .ref a_x1_oxWeight, .ref a_x1_oxPrice])), (a_o, .inr (1, [.int x1_year, .int (nI x1_bridges), .int (nI x1_men), .int (nI x1_oxen), .ref a_o_forgets, .ref a_o_weight, .ref a_o_chance, .ref a_o_knowsAtFirst, .ref a_o_oxWeight, .ref a_o_oxPrice])), (a_x1_forgets, .inl (tI, 5, .inl x1_forgets)), (a_o_forgets, .inl (tI, 5, .inl (va_cpy x1_forgets o_forgets 0 0 5))), (a_x1_weight, .inl (tI, 6, .inl x1_weight)), (a_o_weight, .inl (tI, 6, .inl (va_cpy x1_weight o_weight 0 0 6))), (a_x1_chance, .inl (tI, 6, .inl x1_chance)), (a_o_chance, .inl (tI, 6, .inl (va_cpy x1_chance o_chance 0 0 6))), (a_x1_knowsAtFirst, .inl (tI, 6, .inl x1_knowsAtFirst)), (a_o_knowsAtFirst, .inl (tI, 6, .inl (va_cpy x1_knowsAtFirst o_knowsAtFirst 0 0 6))), (a_x1_oxWeight, .inl (tI, 5, .inl x1_oxWeight)), (a_o_oxWeight, .inl (tI, 5, .inl o_oxWeight)), (a_x1_oxPrice, .inl (tI, 5, .inl x1_oxPrice)), (a_o_oxPrice, .inl (tI, 5, .inl o_oxPrice))] H := hP
  have hD : va_D A [(a_x1, .inr (1, [.int x1_year, .int (nI x1_bridges), .int (nI x1_men), .int (nI x1_oxen), .ref a_x1_forgets, .ref a_x1_weight, .ref a_x1_chance, .ref a_x1_knowsAtFirst, .ref a_x1_oxWeight, .ref a_x1_oxPrice])), (a_o, .inr (1, [.int x1_year, .int (nI x1_bridges), .int (nI x1_men), .int (nI x1_oxen), .ref a_o_forgets, .ref a_o_weight, .ref a_o_chance, .ref a_o_knowsAtFirst, .ref a_o_oxWeight, .ref a_o_oxPrice])), (a_x1_forgets, .inl (tI, 5, .inl x1_forgets)), (a_o_forgets, .inl (tI, 5, .inl (va_cpy x1_forgets o_forgets 0 0 5))), (a_x1_weight, .inl (tI, 6, .inl x1_weight)), (a_o_weight, .inl (tI, 6, .inl (va_cpy x1_weight o_weight 0 0 6))), (a_x1_chance, .inl (tI, 6, .inl x1_chance)), (a_o_chance, .inl (tI, 6, .inl (va_cpy x1_chance o_chance 0 0 6))), (a_x1_knowsAtFirst, .inl (tI, 6, .inl x1_knowsAtFirst)), (a_o_knowsAtFirst, .inl (tI, 6, .inl (va_cpy x1_knowsAtFirst o_knowsAtFirst 0 0 6))), (a_x1_oxWeight, .inl (tI, 5, .inl x1_oxWeight)), (a_o_oxWeight, .inl (tI, 5, .inl o_oxWeight)), (a_x1_oxPrice, .inl (tI, 5, .inl x1_oxPrice)), (a_o_oxPrice, .inl (tI, 5, .inl o_oxPrice))] := hD
  refine lv_aload_n hx hb dX1_copyFrom_91 rfl (lv_at hl 1 rfl) ?_
  refine fget E hP 0 rfl fd_X1_24 (v := .ref a_x1_oxWeight) rfl dX1_copyFrom_92 ?_
  refine lv_iconst (v := (0 : Int32)) hx hb dX1_copyFrom_95 (by decide) ?_
  refine lv_aload_n hx hb dX1_copyFrom_96 rfl (lv_at hl 0 rfl) ?_
  refine fget E hP 1 rfl fd_X1_24 (v := .ref a_o_oxWeight) rfl dX1_copyFrom_97 ?_
  refine lv_iconst (v := (0 : Int32)) hx hb dX1_copyFrom_100 (by decide) ?_
  refine lv_iconst (v := (5 : Int32)) hx hb dX1_copyFrom_101 (by decide) ?_
  refine va_copyi hx hb (hml.trans hl.1.symm) hown (hts _ wm_X1_46) (hts _ wnat_J_System_arraycopy) (hts _ wst_J_System_arraycopy) (hts _ wn_System) hK.1 hP hD hS 10 11 1 1 rfl rfl rfl rfl rfl (by decide) (by decide) (by decide) (by decide) (by decide) (fun _ _ => rfl) (Nat.le_of_ble_eq_true rfl) (by decide) dX1_copyFrom_102 (fun H locs hP hD hS => ?_)
  have hP : va_P D vwCl [(a_x1, .inr (1, [.int x1_year, .int (nI x1_bridges), .int (nI x1_men), .int (nI x1_oxen), .ref a_x1_forgets, .ref a_x1_weight, .ref a_x1_chance, .ref a_x1_knowsAtFirst, .ref a_x1_oxWeight, .ref a_x1_oxPrice])), (a_o, .inr (1, [.int x1_year, .int (nI x1_bridges), .int (nI x1_men), .int (nI x1_oxen), .ref a_o_forgets, .ref a_o_weight, .ref a_o_chance, .ref a_o_knowsAtFirst, .ref a_o_oxWeight, .ref a_o_oxPrice])), (a_x1_forgets, .inl (tI, 5, .inl x1_forgets)), (a_o_forgets, .inl (tI, 5, .inl (va_cpy x1_forgets o_forgets 0 0 5))), (a_x1_weight, .inl (tI, 6, .inl x1_weight)), (a_o_weight, .inl (tI, 6, .inl (va_cpy x1_weight o_weight 0 0 6))), (a_x1_chance, .inl (tI, 6, .inl x1_chance)), (a_o_chance, .inl (tI, 6, .inl (va_cpy x1_chance o_chance 0 0 6))), (a_x1_knowsAtFirst, .inl (tI, 6, .inl x1_knowsAtFirst)), (a_o_knowsAtFirst, .inl (tI, 6, .inl (va_cpy x1_knowsAtFirst o_knowsAtFirst 0 0 6))), (a_x1_oxWeight, .inl (tI, 5, .inl x1_oxWeight)), (a_o_oxWeight, .inl (tI, 5, .inl (va_cpy x1_oxWeight o_oxWeight 0 0 5))), (a_x1_oxPrice, .inl (tI, 5, .inl x1_oxPrice)), (a_o_oxPrice, .inl (tI, 5, .inl o_oxPrice))] H := hP
  have hD : va_D A [(a_x1, .inr (1, [.int x1_year, .int (nI x1_bridges), .int (nI x1_men), .int (nI x1_oxen), .ref a_x1_forgets, .ref a_x1_weight, .ref a_x1_chance, .ref a_x1_knowsAtFirst, .ref a_x1_oxWeight, .ref a_x1_oxPrice])), (a_o, .inr (1, [.int x1_year, .int (nI x1_bridges), .int (nI x1_men), .int (nI x1_oxen), .ref a_o_forgets, .ref a_o_weight, .ref a_o_chance, .ref a_o_knowsAtFirst, .ref a_o_oxWeight, .ref a_o_oxPrice])), (a_x1_forgets, .inl (tI, 5, .inl x1_forgets)), (a_o_forgets, .inl (tI, 5, .inl (va_cpy x1_forgets o_forgets 0 0 5))), (a_x1_weight, .inl (tI, 6, .inl x1_weight)), (a_o_weight, .inl (tI, 6, .inl (va_cpy x1_weight o_weight 0 0 6))), (a_x1_chance, .inl (tI, 6, .inl x1_chance)), (a_o_chance, .inl (tI, 6, .inl (va_cpy x1_chance o_chance 0 0 6))), (a_x1_knowsAtFirst, .inl (tI, 6, .inl x1_knowsAtFirst)), (a_o_knowsAtFirst, .inl (tI, 6, .inl (va_cpy x1_knowsAtFirst o_knowsAtFirst 0 0 6))), (a_x1_oxWeight, .inl (tI, 5, .inl x1_oxWeight)), (a_o_oxWeight, .inl (tI, 5, .inl (va_cpy x1_oxWeight o_oxWeight 0 0 5))), (a_x1_oxPrice, .inl (tI, 5, .inl x1_oxPrice)), (a_o_oxPrice, .inl (tI, 5, .inl o_oxPrice))] := hD
  refine lv_aload_n hx hb dX1_copyFrom_105 rfl (lv_at hl 1 rfl) ?_
  refine fget E hP 0 rfl fd_X1_27 (v := .ref a_x1_oxPrice) rfl dX1_copyFrom_106 ?_
  refine lv_iconst (v := (0 : Int32)) hx hb dX1_copyFrom_109 (by decide) ?_
  refine lv_aload_n hx hb dX1_copyFrom_110 rfl (lv_at hl 0 rfl) ?_
  refine fget E hP 1 rfl fd_X1_27 (v := .ref a_o_oxPrice) rfl dX1_copyFrom_111 ?_
  refine lv_iconst (v := (0 : Int32)) hx hb dX1_copyFrom_114 (by decide) ?_
  refine lv_iconst (v := (5 : Int32)) hx hb dX1_copyFrom_115 (by decide) ?_
  refine va_copyi hx hb (hml.trans hl.1.symm) hown (hts _ wm_X1_46) (hts _ wnat_J_System_arraycopy) (hts _ wst_J_System_arraycopy) (hts _ wn_System) hK.1 hP hD hS 12 13 1 1 rfl rfl rfl rfl rfl (by decide) (by decide) (by decide) (by decide) (by decide) (fun _ _ => rfl) (Nat.le_of_ble_eq_true rfl) (by decide) dX1_copyFrom_116 (fun H locs hP hD hS => ?_)
  have hP : va_P D vwCl [(a_x1, .inr (1, [.int x1_year, .int (nI x1_bridges), .int (nI x1_men), .int (nI x1_oxen), .ref a_x1_forgets, .ref a_x1_weight, .ref a_x1_chance, .ref a_x1_knowsAtFirst, .ref a_x1_oxWeight, .ref a_x1_oxPrice])), (a_o, .inr (1, [.int x1_year, .int (nI x1_bridges), .int (nI x1_men), .int (nI x1_oxen), .ref a_o_forgets, .ref a_o_weight, .ref a_o_chance, .ref a_o_knowsAtFirst, .ref a_o_oxWeight, .ref a_o_oxPrice])), (a_x1_forgets, .inl (tI, 5, .inl x1_forgets)), (a_o_forgets, .inl (tI, 5, .inl (va_cpy x1_forgets o_forgets 0 0 5))), (a_x1_weight, .inl (tI, 6, .inl x1_weight)), (a_o_weight, .inl (tI, 6, .inl (va_cpy x1_weight o_weight 0 0 6))), (a_x1_chance, .inl (tI, 6, .inl x1_chance)), (a_o_chance, .inl (tI, 6, .inl (va_cpy x1_chance o_chance 0 0 6))), (a_x1_knowsAtFirst, .inl (tI, 6, .inl x1_knowsAtFirst)), (a_o_knowsAtFirst, .inl (tI, 6, .inl (va_cpy x1_knowsAtFirst o_knowsAtFirst 0 0 6))), (a_x1_oxWeight, .inl (tI, 5, .inl x1_oxWeight)), (a_o_oxWeight, .inl (tI, 5, .inl (va_cpy x1_oxWeight o_oxWeight 0 0 5))), (a_x1_oxPrice, .inl (tI, 5, .inl x1_oxPrice)), (a_o_oxPrice, .inl (tI, 5, .inl (va_cpy x1_oxPrice o_oxPrice 0 0 5)))] H := hP
  have hD : va_D A [(a_x1, .inr (1, [.int x1_year, .int (nI x1_bridges), .int (nI x1_men), .int (nI x1_oxen), .ref a_x1_forgets, .ref a_x1_weight, .ref a_x1_chance, .ref a_x1_knowsAtFirst, .ref a_x1_oxWeight, .ref a_x1_oxPrice])), (a_o, .inr (1, [.int x1_year, .int (nI x1_bridges), .int (nI x1_men), .int (nI x1_oxen), .ref a_o_forgets, .ref a_o_weight, .ref a_o_chance, .ref a_o_knowsAtFirst, .ref a_o_oxWeight, .ref a_o_oxPrice])), (a_x1_forgets, .inl (tI, 5, .inl x1_forgets)), (a_o_forgets, .inl (tI, 5, .inl (va_cpy x1_forgets o_forgets 0 0 5))), (a_x1_weight, .inl (tI, 6, .inl x1_weight)), (a_o_weight, .inl (tI, 6, .inl (va_cpy x1_weight o_weight 0 0 6))), (a_x1_chance, .inl (tI, 6, .inl x1_chance)), (a_o_chance, .inl (tI, 6, .inl (va_cpy x1_chance o_chance 0 0 6))), (a_x1_knowsAtFirst, .inl (tI, 6, .inl x1_knowsAtFirst)), (a_o_knowsAtFirst, .inl (tI, 6, .inl (va_cpy x1_knowsAtFirst o_knowsAtFirst 0 0 6))), (a_x1_oxWeight, .inl (tI, 5, .inl x1_oxWeight)), (a_o_oxWeight, .inl (tI, 5, .inl (va_cpy x1_oxWeight o_oxWeight 0 0 5))), (a_x1_oxPrice, .inl (tI, 5, .inl x1_oxPrice)), (a_o_oxPrice, .inl (tI, 5, .inl (va_cpy x1_oxPrice o_oxPrice 0 0 5)))] := hD
  subst hR
  exact (hF _ _ _ _ hP hS).2.2.2 rfl rfl dX1_copyFrom_119
