/-! class and reference: all orders that fit, who is heavier in all -/
def AA (ah : Nat → Int32) (j r : Nat) : Bool := decide (((ah j) &&& ((nI r) ^^^ (-1 : Int32))) = 0)
theorem AA_ok {ah : Nat → Int32} {j r : Nat} (hr : r < 64) : AA ah j r = true ↔ ∀ x, bq (ah j) x = true → x < 6 ∧ r.testBit x = true := by
  unfold AA
  rw [decide_eq_true_iff, bq_z]
  constructor
  · intro z x hx
    have h32 : x < 32 := by
      rcases Nat.lt_or_ge x 32 with q | q
      · exact q
      · rw [bq_hi _ q] at hx; cases hx
    have := z x h32
    rw [bq_and, bq_not _ h32, hx, bq_nI, decide_eq_true h32, Bool.true_and, Bool.true_and, Bool.not_eq_false'] at this
    refine ⟨?_, this⟩
    rcases Nat.lt_or_ge x 6 with q | q
    · exact q
    · have h2 : r < 2 ^ x := Nat.lt_of_lt_of_le hr (Nat.pow_le_pow_right (n := 2) (by decide) q)
      rw [Nat.testBit_lt_two_pow h2] at this
      cases this
  · intro z k hk
    rw [bq_and, bq_not _ hk, bq_nI, decide_eq_true hk, Bool.true_and]
    by_cases c : bq (ah j) k = true
    · rw [c, (z k c).2]; rfl
    · rw [Bool.eq_false_iff.mpr c, Bool.false_and]
theorem pc_pos : ∀ s, s < 64 → ¬ s = 0 → ¬ pc s = 0 := by decide +kernel
theorem wo_same : ∀ s, s < 64 → ∀ k, k < 6 → (wo s k = s ↔ s.testBit k = false) := by decide +kernel
theorem count_ok {m : Nat} (hm : m ≤ 6) {w ah w2 : Nat → Int32} {r : Int32} (h : S_X4_countOrders m w ah = (r, w2)) : r = nI (cO (AA ah) m (2 ^ m - 1)) := by
  have hp : 2 ^ m ≤ 64 := p2_le6 hm
  have hp1 : 1 ≤ 2 ^ m := p2_pos m
  obtain ⟨_, f2, _⟩ := full_ok m (by omega)
  have key := iter_ind (b := fun k a => B_X4_countOrders_19 ah k a) (N := 2 ^ m) (fun k f => 1 ≤ k ∧ ∀ s, s < k → f s = nI (cO (AA ah) (pc s) s)) (fun k f hk hp2 => by
    obtain ⟨k1, p⟩ := hp2
    refine ⟨by omega, ?_⟩
    show ∀ s, s < k + 1 → iter (fun j a => B_X4_countOrders_34 k ah j a) 6 0 (upd f k (0 : Int32)) s = _
    have hpk := pc_pos k (by omega) (by omega)
    obtain ⟨n, hn⟩ : ∃ n, pc k = n + 1 := ⟨pc k - 1, by omega⟩
    have inner := iter_ind (b := fun j a => B_X4_countOrders_34 k ah j a) (N := 6) (fun j g => (∀ s, ¬ s = k → g s = f s) ∧ g k = nI (((List.range j).map (fun j => if (k.testBit j && AA ah j (wo k j)) = true then cO (AA ah) n (wo k j) else 0)).sum)) (fun j g hj hq => by
      obtain ⟨q1, q2⟩ := hq
      show (∀ s, ¬ s = k → B_X4_countOrders_34 k ah j g s = f s) ∧ B_X4_countOrders_34 k ah j g k = _
      rw [List.range_succ, List.map_append, List.sum_append]
      show (∀ s, ¬ s = k → B_X4_countOrders_34 k ah j g s = f s) ∧ B_X4_countOrders_34 k ah j g k = nI (_ + ((if (k.testBit j && AA ah j (wo k j)) = true then cO (AA ah) n (wo k j) else 0) + 0))
      unfold B_X4_countOrders_34
      by_cases c : k.testBit j = true
      · have hw : ¬ wo k j = k := fun z => by rw [(wo_same k (by omega) j hj).mp z] at c; cases c
        have hlt := wo_lt k (by omega) j hj c
        have hpw := pc_wo k (by omega) j hj c
        rw [if_neg hw, c, Bool.true_and]
        by_cases d : ((ah j) &&& ((nI (wo k j)) ^^^ (-1 : Int32))) = 0
        · have hA : AA ah j (wo k j) = true := decide_eq_true d
          rw [if_pos d, if_pos hA]
          refine ⟨fun s hs => by rw [pk_un hs]; exact q1 s hs, ?_⟩
          rw [pk_us, q2, q1 (wo k j) hw, p (wo k j) hlt, nI_add, Nat.add_zero, show pc (wo k j) = n by omega]
        · have hA : ¬ AA ah j (wo k j) = true := fun z => d (of_decide_eq_true z)
          rw [if_neg d, if_neg hA, Nat.add_zero]
          exact ⟨q1, q2⟩
      · have hw : wo k j = k := (wo_same k (by omega) j hj).mpr (Bool.eq_false_iff.mpr c)
        rw [if_pos hw, Bool.eq_false_iff.mpr c, Bool.false_and, if_neg (by decide), Nat.add_zero]
        exact ⟨q1, q2⟩) 6 0 (upd f k (0 : Int32)) (by omega) ⟨fun s hs => pk_un hs, pk_us⟩
    intro s hs
    by_cases e : s = k
    · subst e
      rw [inner.2, hn]
      rfl
    · rw [inner.1 s e]
      exact p s (by omega)) (2 ^ m - 1) 1 (upd w 0 (1 : Int32)) (by omega) ⟨Nat.le_refl 1, fun s hs => by
      have e : s = 0 := by omega
      subst e
      exact pk_us⟩
  unfold S_X4_countOrders at h
  generalize iter (fun k a => B_X4_countOrders_19 ah k a) (2 ^ m - 1) 1 (upd w 0 (1 : Int32)) = f at h key
  have h : (f (2 ^ m - 1), f) = (r, w2) := h
  cases h
  rw [key.2 (2 ^ m - 1) (by omega), f2]
theorem nI_or (a b : Nat) : nI a ||| nI b = nI (a ||| b) := bq_ext (fun k _ => by
  rw [bq_or, bq_nI, bq_nI, bq_nI, Nat.testBit_or]
  cases decide (k < 32) <;> rfl)
def plD (m c : Nat) : Nat → Int32 := fun t => nI (dg m c t)
theorem had_lt {m c : Nat} : ∀ t, t ≤ m → had m c t < 2 ^ m := by
  intro t
  induction t with
  | zero => intro _; exact Nat.two_pow_pos m
  | succ t ih =>
    intro ht
    exact Nat.or_lt_two_pow (ih (by omega)) (Nat.pow_lt_pow_right (by decide) (Nat.mod_lt _ (by omega)))
theorem setPlaces_ok {m c : Nat} {pl pl2 : Nat → Int32} {r : Int32} (hm : m ≤ 6) (h : S_X7_setPlaces c m pl = (r, pl2)) : (∀ t, t < m → pl2 t = plD m c t) ∧ (r = 0 ↔ permB m c = false) := by
  have hp : 2 ^ m ≤ 64 := p2_le6 hm
  have key := iter_ind (b := fun k (a : Int32 × Nat × (Nat → Int32)) => B_X7_setPlaces_7 m k a.1 a.2.1 a.2.2) (N := m) (fun k a => a.1 = nI (had m c k) ∧ a.2.1 = c / m ^ k ∧ ∀ t, t < k → a.2.2 t = plD m c t) (fun k a hk hq => by
    obtain ⟨a1, a2, a3⟩ := a
    obtain ⟨q1, q2, q3⟩ := hq
    have q1 : a1 = nI (had m c k) := q1
    have q2 : a2 = c / m ^ k := q2
    have q3 : ∀ t, t < k → a3 t = plD m c t := q3
    subst q1
    subst q2
    have hd : dg m c k < m := Nat.mod_lt _ (by omega)
    show ((nI (had m c k)) ||| ((1 : Int32) <<< (((upd a3 k (nI (c / m ^ k % m))) k) &&& 31))) = nI (had m c (k + 1)) ∧ c / m ^ k / m = c / m ^ (k + 1) ∧ ∀ t, t < k + 1 → upd a3 k (nI (c / m ^ k % m)) t = plD m c t
    refine ⟨?_, ?_, fun t ht => ?_⟩
    · rw [pk_us, show c / m ^ k % m = dg m c k from rfl, shl_nat (by omega), nI_or]
      rfl
    · rw [Nat.div_div_eq_div_mul, Nat.pow_succ]
    · by_cases e : t = k
      · subst e; exact pk_us
      · rw [pk_un e]; exact q3 t (by omega)) m 0 ((0 : Int32), c, pl) (by omega) ⟨rfl, by
      show c = c / m ^ 0
      rw [Nat.pow_zero, Nat.div_one], fun t ht => absurd ht (Nat.not_lt_zero t)⟩
  unfold S_X7_setPlaces at h
  generalize iter (fun k (a : Int32 × Nat × (Nat → Int32)) => B_X7_setPlaces_7 m k a.1 a.2.1 a.2.2) m 0 ((0 : Int32), c, pl) = z at h key
  obtain ⟨z1, z2, z3⟩ := z
  obtain ⟨k1, k2, k3⟩ := key
  have k1 : z1 = nI (had m c m) := k1
  have h : K_X7_setPlaces_7 m z1 z2 z3 = (r, pl2) := h
  unfold K_X7_setPlaces_7 at h
  have hf : ((1 : Int32) <<< ((nI m) &&& 31)) - (1 : Int32) = nI (2 ^ m - 1) := by
    rw [shl_nat (by omega)]
    exact pk_sub (a := 2 ^ m) (b := 1) (p2_pos m)
  have hl := had_lt (m := m) (c := c) m (Nat.le_refl m)
  rw [hf, k1] at h
  unfold permB
  by_cases e : had m c m = 2 ^ m - 1
  · rw [if_pos (by rw [e])] at h
    cases h
    exact ⟨k3, ⟨fun y => absurd y (by decide), fun y => by rw [beq_iff_eq.mpr e] at y; cases y⟩⟩
  · rw [if_neg (fun y => e ((nI_eq (by omega) (by omega)).mp y))] at h
    cases h
    exact ⟨k3, ⟨fun _ => beq_eq_false_iff_ne.mpr e, fun _ => rfl⟩⟩
section ORD
variable {men n : Nat} {ah sw sn sl : Nat → Int32}
def seenB (men n : Nat) (sw sn sl : Nat → Int32) (c : Nat) : Bool := decide (¬ S_X7_isAsSeen n sn (plD men c) sw sl = 0)
theorem seen_congr {c : Nat} {pl : Nat → Int32} (h : JS men n ah sw sn sl) (hp : ∀ t, t < men → pl t = plD men c t) : S_X7_isAsSeen n sn pl sw sl = S_X7_isAsSeen n sn (plD men c) sw sl := by
  show iter (fun k a => B_X7_isAsSeen_4 sn pl sw sl k a) n 0 1 = iter (fun k a => B_X7_isAsSeen_4 sn (plD men c) sw sl k a) n 0 1
  refine iter_eq (fun k a hk => ?_)
  obtain ⟨⟨_, q1⟩, ⟨_, q2⟩, _⟩ := h.2.1 k hk
  show B_X7_isAsSeen_4 sn pl sw sl k a = B_X7_isAsSeen_4 sn (plD men c) sw sl k a
  unfold B_X7_isAsSeen_4
  rw [hp _ q1, hp _ q2]
theorem bh_in {pl bh : Nat → Int32} {t : Nat} (hm : men ≤ 6) : ∀ k, k ≤ men → (∀ j, ¬ j = t → iter (fun u a => B_X7_findOrders_81 pl t u a) k 0 bh j = bh j) ∧ ∀ u, u < 32 → (bq (iter (fun u a => B_X7_findOrders_81 pl t u a) k 0 bh t) u = true ↔ (bq (bh t) u = true ∧ (u < k → ¬ pl u ≤ pl t))) := by
  intro k
  induction k with
  | zero => intro _; exact ⟨fun j _ => rfl, fun u _ => ⟨fun z => ⟨z, fun y => absurd y (Nat.not_lt_zero u)⟩, fun z => z.1⟩⟩
  | succ k ih =>
    intro hk
    obtain ⟨i1, i2⟩ := ih (by omega)
    rw [iter_last]
    generalize iter (fun u a => B_X7_findOrders_81 pl t u a) k 0 bh = f at i1 i2 ⊢
    unfold B_X7_findOrders_81
    by_cases c : pl k ≤ pl t
    · rw [if_pos c]
      refine ⟨fun j hj => by rw [pk_un hj]; exact i1 j hj, fun u hu => ?_⟩
      rw [pk_us, bq_wo (by omega) hu, Bool.and_eq_true, i2 u hu, Bool.not_eq_true', decide_eq_false_iff_not]
      constructor
      · rintro ⟨⟨a, b⟩, e⟩
        exact ⟨a, fun hl => b (by omega)⟩
      · rintro ⟨a, b⟩
        exact ⟨⟨a, fun hl => b (by omega)⟩, fun e => by subst e; exact b (by omega) c⟩
    · rw [if_neg c]
      have e1 : ((f t) &&& (-1 : Int32)) = f t := Int32.and_neg_one
      rw [e1, upd_self]
      refine ⟨i1, fun u hu => (i2 u hu).trans ⟨fun ⟨a, b⟩ => ⟨a, fun hl => ?_⟩, fun ⟨a, b⟩ => ⟨a, fun hl => b (by omega)⟩⟩⟩
      by_cases e : u = k
      · subst e; exact c
      · exact b (by omega)
theorem bh_out {pl bh : Nat → Int32} (hm : men ≤ 6) : ∀ k, k ≤ men → ∀ t, t < men → ∀ u, u < 32 → (bq (iter (fun t a => B_X7_findOrders_69 men pl t a) k 0 bh t) u = true ↔ (bq (bh t) u = true ∧ (t < k → u < men → ¬ pl u ≤ pl t))) := by
  intro k
  induction k with
  | zero => intro _ t ht u _; exact ⟨fun z => ⟨z, fun y => absurd y (Nat.not_lt_zero t)⟩, fun z => z.1⟩
  | succ k ih =>
    intro hk t ht u hu
    have ih := ih (by omega) t ht u hu
    rw [iter_last]
    generalize iter (fun t a => B_X7_findOrders_69 men pl t a) k 0 bh = f at ih ⊢
    show bq (iter (fun u a => B_X7_findOrders_81 pl k u a) men 0 f t) u = true ↔ _
    obtain ⟨b1, b2⟩ := bh_in (pl := pl) (bh := f) (t := k) hm men (Nat.le_refl men)
    by_cases e : t = k
    · subst e
      rw [b2 u hu, ih]
      exact ⟨fun ⟨⟨a, _⟩, c⟩ => ⟨a, fun _ hl => c hl⟩, fun ⟨a, c⟩ => ⟨⟨a, fun hl => absurd hl (Nat.lt_irrefl t)⟩, fun hl => c (by omega) hl⟩⟩
    · rw [b1 t e, ih]
      exact ⟨fun ⟨a, c⟩ => ⟨a, fun hl => c (by omega)⟩, fun ⟨a, c⟩ => ⟨a, fun hl => c (by omega)⟩⟩
theorem fo_loop (hm : men ≤ 6) (h : JS men n ah sw sn sl) : ∀ q k v pl bh r, iter (fun k (a : Nat × (Nat → Int32) × (Nat → Int32)) => B_X7_findOrders_43 men n sn sw sl k a.1 a.2.1 a.2.2) q k (v, pl, bh) = r → r.1 = v + (pcodes men q k).countP (seenB men n sw sn sl) ∧ ∀ t, t < men → ∀ u, u < 32 → (bq (r.2.2 t) u = true ↔ (bq (bh t) u = true ∧ ∀ c, c ∈ pcodes men q k → seenB men n sw sn sl c = true → u < men → dg men c t < dg men c u)) := by
  intro q
  induction q with
  | zero =>
    intro k v pl bh r hr
    subst hr
    exact ⟨rfl, fun t _ u _ => ⟨fun z => ⟨z, fun c hc => by cases hc⟩, fun z => z.1⟩⟩
  | succ q ih =>
    intro k v pl bh r hr
    have hr : iter (fun k (a : Nat × (Nat → Int32) × (Nat → Int32)) => B_X7_findOrders_43 men n sn sw sl k a.1 a.2.1 a.2.2) q (k + 1) (B_X7_findOrders_43 men n sn sw sl k v pl bh) = r := hr
    unfold B_X7_findOrders_43 at hr
    generalize hs : S_X7_setPlaces k men pl = s at hr
    obtain ⟨s0, s1⟩ := s
    obtain ⟨g1, g2⟩ := setPlaces_ok hm hs
    have hr : iter (fun k (a : Nat × (Nat → Int32) × (Nat → Int32)) => B_X7_findOrders_43 men n sn sw sl k a.1 a.2.1 a.2.2) q (k + 1) (K_X7_findOrders_50 men n sn sw sl v bh s0 s1) = r := hr
    unfold K_X7_findOrders_50 at hr
    rw [seen_congr h g1] at hr
    have hpk : pcodes men (q + 1) k = (match permB men k with | true => k :: pcodes men q (k + 1) | false => pcodes men q (k + 1)) := rfl
    by_cases c : permB men k = false
    · rw [if_pos (g2.mpr c)] at hr
      rw [hpk, c]
      exact ih (k + 1) v s1 bh r hr
    · have c1 : permB men k = true := tf.mpr c
      rw [if_neg (fun z => c (g2.mp z))] at hr
      rw [hpk, c1]
      by_cases d : S_X7_isAsSeen n sn (plD men k) sw sl = 0
      · rw [if_pos d] at hr
        obtain ⟨i1, i2⟩ := ih (k + 1) v s1 bh r hr
        have hsn : ¬ seenB men n sw sn sl k = true := fun z => (of_decide_eq_true z) d
        refine ⟨?_, fun t ht u hu => ?_⟩
        · rw [i1]
          show v + _ = v + (k :: pcodes men q (k + 1)).countP (seenB men n sw sn sl)
          rw [List.countP_cons_of_neg hsn]
        · rw [i2 t ht u hu]
          refine and_congr_right (fun _ => ⟨fun a c hc hb => ?_, fun a c hc hb => a c (List.mem_cons_of_mem k hc) hb⟩)
          rcases List.mem_cons.mp hc with e | e
          · rw [e] at hb; exact absurd hb hsn
          · exact a c e hb
      · rw [if_neg d] at hr
        have hr : iter (fun k (a : Nat × (Nat → Int32) × (Nat → Int32)) => B_X7_findOrders_43 men n sn sw sl k a.1 a.2.1 a.2.2) q (k + 1) (v + 1, s1, iter (fun t a => B_X7_findOrders_69 men s1 t a) men 0 bh) = r := hr
        obtain ⟨i1, i2⟩ := ih (k + 1) (v + 1) s1 _ r hr
        have hsn : seenB men n sw sn sl k = true := decide_eq_true d
        refine ⟨?_, fun t ht u hu => ?_⟩
        · rw [i1]
          show v + 1 + _ = v + (k :: pcodes men q (k + 1)).countP (seenB men n sw sn sl)
          rw [List.countP_cons_of_pos hsn]
          omega
        · rw [i2 t ht u hu, bh_out hm men (Nat.le_refl men) t ht u hu]
          have hcmp : u < men → (¬ s1 u ≤ s1 t ↔ dg men k t < dg men k u) := fun hum => by
            rw [g1 u hum, g1 t ht]
            show ¬ nI (dg men k u) ≤ nI (dg men k t) ↔ _
            have b1 : dg men k u < men := Nat.mod_lt _ (by omega)
            have b2 : dg men k t < men := Nat.mod_lt _ (by omega)
            rw [nI_leI (by omega) (by omega)]
            omega
          constructor
          · rintro ⟨⟨a, b⟩, z⟩
            refine ⟨a, fun c hc hb hum => ?_⟩
            rcases List.mem_cons.mp hc with e | e
            · rw [e]; exact (hcmp hum).mp (b ht hum)
            · exact z c e hb hum
          · rintro ⟨a, z⟩
            exact ⟨⟨a, fun _ hum => (hcmp hum).mpr (z k List.mem_cons_self hsn hum)⟩, fun c hc hb hum => z c (List.mem_cons_of_mem k hc) hb hum⟩
theorem findOrders_ok {bh pl bh2 pl2 : Nat → Int32} {r : Int32} (hm : men ≤ 6) (h : JS men n ah sw sn sl) (hc : S_X7_findOrders men bh n pl sn sw sl = (r, bh2, pl2)) : r = nI ((pcodes men (men ^ men) 0).countP (seenB men n sw sn sl)) ∧ ∀ t, t < men → ∀ u, u < 32 → (bq (bh2 t) u = true ↔ (u < men ∧ ∀ c, c ∈ pcodes men (men ^ men) 0 → seenB men n sw sn sl c = true → dg men c t < dg men c u)) := by
  have k1 := iter_ind (b := fun k (a : Nat × (Nat → Int32)) => B_X7_findOrders_4 men k a.1 a.2) (N := men) (fun k a => a.1 = men ^ k ∧ ∀ t, t < k → a.2 t = nI (2 ^ men - 1)) (fun k a hk hp => by
    obtain ⟨a1, a2⟩ := a
    obtain ⟨p1, p2⟩ := hp
    have p1 : a1 = men ^ k := p1
    subst p1
    have hf : ((1 : Int32) <<< ((nI men) &&& 31)) - (1 : Int32) = nI (2 ^ men - 1) := by
      rw [shl_nat (by omega)]
      exact pk_sub (a := 2 ^ men) (b := 1) (p2_pos men)
    show men ^ k * men = men ^ (k + 1) ∧ ∀ t, t < k + 1 → upd a2 k (((1 : Int32) <<< ((nI men) &&& 31)) - (1 : Int32)) t = nI (2 ^ men - 1)
    refine ⟨(Nat.pow_succ _ _).symm, fun t ht => ?_⟩
    by_cases e : t = k
    · subst e; rw [pk_us]; exact hf
    · rw [pk_un e]; exact p2 t (by omega)) men 0 (1, bh) (by omega) ⟨(Nat.pow_zero men).symm, fun t ht => absurd ht (Nat.not_lt_zero t)⟩
  unfold S_X7_findOrders at hc
  generalize iter (fun k (a : Nat × (Nat → Int32)) => B_X7_findOrders_4 men k a.1 a.2) men 0 (1, bh) = z at hc k1
  obtain ⟨z1, z2⟩ := z
  obtain ⟨k1, k2⟩ := k1
  replace k1 : z1 = men ^ men := k1
  replace k2 : ∀ t, t < men → z2 t = nI (2 ^ men - 1) := k2
  subst k1
  replace hc : K_X7_findOrders_4 men n pl sn sw sl (men ^ men) z2 = (r, bh2, pl2) := hc
  unfold K_X7_findOrders_4 at hc
  have hl := fo_loop hm h (men ^ men) 0 0 pl z2 _ rfl
  generalize iter (fun k (a : Nat × (Nat → Int32) × (Nat → Int32)) => B_X7_findOrders_43 men n sn sw sl k a.1 a.2.1 a.2.2) (men ^ men) 0 (0, pl, z2) = y at hc hl
  obtain ⟨y1, y2, y3⟩ := y
  obtain ⟨l1, l2⟩ := hl
  replace l1 : y1 = 0 + (pcodes men (men ^ men) 0).countP (seenB men n sw sn sl) := l1
  replace hc : (nI y1, y3, y2) = (r, bh2, pl2) := hc
  cases hc
  refine ⟨by rw [l1, Nat.zero_add], fun t ht u hu => ?_⟩
  obtain ⟨g1, g2, g3⟩ := full_ok men (by omega)
  have e : bq (z2 t) u = true ↔ u < men := by
    rw [k2 t ht, bq_nI, decide_eq_true hu, Bool.true_and]
    by_cases q : u < 6
    · rw [g3 u q, decide_eq_true_iff]
    · have h2 : 2 ^ men - 1 < 2 ^ u := Nat.lt_of_lt_of_le g1 (Nat.pow_le_pow_right (n := 2) (by decide) (show 6 ≤ u by omega))
      rw [Nat.testBit_lt_two_pow h2]
      exact ⟨fun z => absurd z (by decide), fun z => absurd z (by omega)⟩
  rw [show bq (bh2 t) u = true ↔ _ from l2 t ht u hu, e]
  exact ⟨fun ⟨a, b⟩ => ⟨a, fun c hc hb => b c hc hb a⟩, fun ⟨a, b⟩ => ⟨a, fun c hc hb _ => b c hc hb⟩⟩
theorem rel_lt {x y : Nat} (hm : men ≤ 6) (h : JS men n ah sw sn sl) (hy : y < 6) (hx : bq (ah y) x = true) : x < men ∧ y < men := by
  have h32 : x < 32 := by
    rcases Nat.lt_or_ge x 32 with q | q
    · exact q
    · rw [bq_hi _ q] at hx; cases hx
  obtain ⟨k, hk, z⟩ := (h.2.2 y x hy h32).mp hx
  obtain ⟨⟨r1, q1⟩, ⟨r2, q2⟩, _⟩ := h.2.1 k hk
  rcases z with ⟨_, z1, z2⟩ | ⟨_, z1, z2⟩
  · rw [z1, nI_clamp (by omega)] at q1
    rw [z2, nI_clamp (by omega)] at q2
    exact ⟨q1, q2⟩
  · rw [z1, nI_clamp (by omega)] at q2
    rw [z2, nI_clamp (by omega)] at q1
    exact ⟨q2, q1⟩
theorem seen_iff {l : List Nat} (hm : men ≤ 6) (h : JS men n ah sw sn sl) (hl : l ∈ ordL men (2 ^ men - 1)) : seenB men n sw sn sl (codeOf men l men) = true ↔ validA (AA ah) (2 ^ men - 1) l = true := by
  obtain ⟨g1, g2, g3⟩ := full_ok men (by omega)
  obtain ⟨o1, o2, o3⟩ := ord_places men (2 ^ men - 1) l g1 hl g2
  rw [ord_valid (rel := fun x y => bq (ah y) x = true) (fun j r hj hr => AA_ok hr) men (2 ^ men - 1) l g1 hl g2]
  have hpl : ∀ t, t < men → plD men (codeOf men l men) t = nI (plc l t) := fun t ht => by
    show nI (dg men (codeOf men l men) t) = _
    rw [dg_code hm hl ht]
  have hle : ∀ a b, a < men → b < men → (plD men (codeOf men l men) a ≤ plD men (codeOf men l men) b ↔ plc l a ≤ plc l b) := fun a b ha hb => by
    have b1 := o2 a (by omega) (by rw [g3 a (by omega), decide_eq_true ha])
    have b2 := o2 b (by omega) (by rw [g3 b (by omega), decide_eq_true hb])
    rw [hpl a ha, hpl b hb]
    exact nI_leI (by omega) (by omega)
  have hI := iter_all (n := n) (f := fun k a => B_X7_isAsSeen_4 sn (plD men (codeOf men l men)) sw sl k a) (fun k => (plc l (sn k).toNatClampNeg ≤ plc l (sw k).toNatClampNeg → sl k = 0) ∧ (¬ plc l (sn k).toNatClampNeg ≤ plc l (sw k).toNatClampNeg → sl k = 1)) (fun k hk => by
    show B_X7_isAsSeen_4 sn (plD men (codeOf men l men)) sw sl k 0 = 0
    unfold B_X7_isAsSeen_4
    rw [if_pos rfl, if_pos rfl]
    split <;> rfl) (fun k hk hp => by
    obtain ⟨⟨_, q1⟩, ⟨_, q2⟩, _⟩ := h.2.1 k hk
    show B_X7_isAsSeen_4 sn (plD men (codeOf men l men)) sw sl k 1 = 1
    unfold B_X7_isAsSeen_4
    by_cases c : plc l (sn k).toNatClampNeg ≤ plc l (sw k).toNatClampNeg
    · rw [if_pos ((hle _ _ q2 q1).mpr c), if_neg (by decide), if_pos (hp.1 c).symm]
    · rw [if_neg (fun z => c ((hle _ _ q2 q1).mp z)), if_neg (by decide), if_pos (hp.2 c).symm]) (fun k hk hp => by
    obtain ⟨⟨_, q1⟩, ⟨_, q2⟩, _⟩ := h.2.1 k hk
    show B_X7_isAsSeen_4 sn (plD men (codeOf men l men)) sw sl k 1 = 0
    unfold B_X7_isAsSeen_4
    by_cases c : plc l (sn k).toNatClampNeg ≤ plc l (sw k).toNatClampNeg
    · rw [if_pos ((hle _ _ q2 q1).mpr c), if_neg (by decide), if_neg (fun z => hp ⟨fun _ => z.symm, fun y => absurd c y⟩)]
    · rw [if_neg (fun z => c ((hle _ _ q2 q1).mp z)), if_neg (by decide), if_neg (fun z => hp ⟨fun y => absurd y c, fun _ => z.symm⟩)]) (a := 1) (Or.inr rfl)
  have hSB : seenB men n sw sn sl (codeOf men l men) = true ↔ ∀ k, k < n → (plc l (sn k).toNatClampNeg ≤ plc l (sw k).toNatClampNeg → sl k = 0) ∧ (¬ plc l (sn k).toNatClampNeg ≤ plc l (sw k).toNatClampNeg → sl k = 1) := by
    unfold seenB
    rw [decide_eq_true_iff]
    show ¬ iter (fun k a => B_X7_isAsSeen_4 sn (plD men (codeOf men l men)) sw sl k a) n 0 1 = 0 ↔ _
    rcases hI with ⟨a, _, b⟩ | ⟨a, b⟩
    · rw [a]; exact ⟨fun _ => b, fun _ => by decide⟩
    · rw [a]; exact ⟨fun z => absurd rfl z, fun z => absurd ⟨rfl, z⟩ b⟩
  rw [hSB]
  constructor
  · intro a y hy hby x hr
    obtain ⟨hx, hy2⟩ := rel_lt hm h hy hr
    refine ⟨by omega, by rw [g3 x (by omega), decide_eq_true hx], ?_⟩
    obtain ⟨k, hk, z⟩ := (h.2.2 y x hy (by omega)).mp hr
    obtain ⟨_, _, hne, _⟩ := h.2.1 k hk
    obtain ⟨a1, a2⟩ := a k hk
    rcases z with ⟨z0, z1, z2⟩ | ⟨z0, z1, z2⟩
    · rw [z1, z2, nI_clamp (by omega), nI_clamp (by omega)] at a1
      refine Nat.lt_of_not_le (fun w => ?_)
      rw [z0] at a1
      exact absurd (a1 w) (by decide)
    · rw [z1, z2, nI_clamp (by omega), nI_clamp (by omega)] at a2
      have hle2 : plc l x ≤ plc l y := Classical.byContradiction (fun w => by
        rw [z0] at a2
        exact absurd (a2 w) (by decide))
      rcases Nat.lt_or_ge (plc l x) (plc l y) with w | w
      · exact w
      · have e : x = y := o3 x y (by omega) hy (by rw [g3 x (by omega), decide_eq_true hx]) hby (by omega)
        rw [z1, z2, e] at hne
        exact absurd rfl hne
  · intro a k hk
    obtain ⟨⟨r1, q1⟩, ⟨r2, q2⟩, hne, h01⟩ := h.2.1 k hk
    rcases h01 with z | z
    · refine ⟨fun _ => z, fun w => ?_⟩
      have hr : bq (ah (sw k).toNatClampNeg) (sn k).toNatClampNeg = true := (h.2.2 _ _ (by omega) (by omega)).mpr ⟨k, hk, Or.inr ⟨z, r2, r1⟩⟩
      have := (a _ (by omega) (by rw [g3 _ (by omega), decide_eq_true q1]) _ hr).2.2
      omega
    · refine ⟨fun w => ?_, fun _ => z⟩
      have hr : bq (ah (sn k).toNatClampNeg) (sw k).toNatClampNeg = true := (h.2.2 _ _ (by omega) (by omega)).mpr ⟨k, hk, Or.inl ⟨z, r1, r2⟩⟩
      have := (a _ (by omega) (by rw [g3 _ (by omega), decide_eq_true q2]) _ hr).2.2
      omega
theorem count_eq (hm : men ≤ 6) (h : JS men n ah sw sn sl) : (pcodes men (men ^ men) 0).countP (seenB men n sw sn sl) = cO (AA ah) men (2 ^ men - 1) := by
  rw [(codes_ok hm).countP_eq, List.countP_map, ← cO_eq]
  exact List.countP_congr (fun l hl => seen_iff hm h hl)
theorem orders_top {bh pl w c1 d1 d2 : Nat → Int32} {c0 d0 : Int32} (hm : men ≤ 6) (h : JS men n ah sw sn sl) (hc : S_X6_orders men w ah = (c0, c1)) (hd : S_X7_orders men n bh pl sn sw sl = (d0, d1, d2)) : d0 = c0 := by
  unfold S_X6_orders at hc
  unfold S_X7_orders at hd
  generalize hu : S_X4_countOrders men w ah = u at hc
  generalize hv : S_X7_findOrders men bh n pl sn sw sl = v at hd
  obtain ⟨u0, u1⟩ := u
  obtain ⟨v0, v1, v2⟩ := v
  have e1 := count_ok hm hu
  have e2 := (findOrders_ok hm h hv).1
  rw [count_eq hm h] at e2
  replace hc : (u0, u1) = (c0, c1) := hc
  replace hd : (v0, v1, v2) = (d0, d1, d2) := hd
  cases hc; cases hd
  rw [e1, e2]
theorem ord_len : ∀ m, m < 7 → (ordL m (2 ^ m - 1)).length ≤ 720 := by decide +kernel
theorem cO_le {A : Nat → Nat → Bool} (hm : men ≤ 6) : cO A men (2 ^ men - 1) ≤ 720 := by
  rw [← cO_eq]
  exact Nat.le_trans List.countP_le_length (ord_len men (by omega))
theorem valid_more {l : List Nat} {t u : Nat} (hm : men ≤ 6) (ht : t < men) (hu : u < men) (hl : l ∈ ordL men (2 ^ men - 1)) : validA (AA (upd ah t ((ah t) ||| (S_X6_bit (nI u))))) (2 ^ men - 1) l = true ↔ (validA (AA ah) (2 ^ men - 1) l = true ∧ plc l u < plc l t) := by
  obtain ⟨g1, g2, g3⟩ := full_ok men (by omega)
  rw [ord_valid (rel := fun x y => bq (ah y) x = true) (fun j r hj hr => AA_ok hr) men (2 ^ men - 1) l g1 hl g2, ord_valid (rel := fun x y => bq (upd ah t ((ah t) ||| (S_X6_bit (nI u))) y) x = true) (fun j r hj hr => AA_ok hr) men (2 ^ men - 1) l g1 hl g2]
  have hr : ∀ y x, (bq (upd ah t ((ah t) ||| (S_X6_bit (nI u))) y) x = true ↔ (bq (ah y) x = true ∨ (y = t ∧ x = u))) := fun y x => by
    by_cases e : y = t
    · subst e
      rw [pk_us, bq_or, bq_bit6 x (by omega), Bool.or_eq_true, decide_eq_true_iff]
      exact ⟨fun z => z.imp id (fun w => ⟨rfl, w⟩), fun z => z.imp id (fun w => w.2)⟩
    · rw [pk_un e]
      exact ⟨Or.inl, fun z => z.resolve_right (fun w => e w.1)⟩
  constructor
  · intro a
    refine ⟨fun y hy hby x hx => a y hy hby x ((hr y x).mpr (Or.inl hx)), ?_⟩
    exact (a t (by omega) (by rw [g3 t (by omega), decide_eq_true ht]) u ((hr t u).mpr (Or.inr ⟨rfl, rfl⟩))).2.2
  · rintro ⟨a, b⟩ y hy hby x hx
    rcases (hr y x).mp hx with z | ⟨z1, z2⟩
    · exact a y hy hby x z
    · rw [z1, z2]
      exact ⟨by omega, by rw [g3 u (by omega), decide_eq_true hu], b⟩
theorem nI_cO0 {A : Nat → Nat → Bool} (hm : men ≤ 6) : nI (cO A men (2 ^ men - 1)) = 0 ↔ ∀ l, l ∈ ordL men (2 ^ men - 1) → ¬ validA A (2 ^ men - 1) l = true := by
  have hb := cO_le (A := A) hm
  have e : nI (cO A men (2 ^ men - 1)) = 0 ↔ cO A men (2 ^ men - 1) = 0 := nI_eq (b := 0) (by omega) (by decide)
  rw [e, ← cO_eq, List.countP_eq_zero]
theorem always_ok {t : Nat} {w w2 ah2 : Nat → Int32} {r : Int32} (hm : men ≤ 6) (ht : t < men) (h : S_X4_alwaysBehind t men w ah = (r, w2, ah2)) : ah2 = ah ∧ ((∀ l, l ∈ ordL men (2 ^ men - 1) → ¬ validA (AA ah) (2 ^ men - 1) l = true) → r = 0) ∧ (¬ (∀ l, l ∈ ordL men (2 ^ men - 1) → ¬ validA (AA ah) (2 ^ men - 1) l = true) → ∀ j, bq r j = true ↔ (j < men ∧ ¬ j = t ∧ ∀ l, l ∈ ordL men (2 ^ men - 1) → validA (AA ah) (2 ^ men - 1) l = true → ¬ plc l j < plc l t)) := by
  unfold S_X4_alwaysBehind at h
  rw [if_neg (by omega)] at h
  generalize hu : S_X4_countOrders men w ah = u at h
  obtain ⟨u0, u1⟩ := u
  have e1 := count_ok hm hu
  have hz := nI_cO0 (A := AA ah) hm
  rw [← e1] at hz
  replace h : K_X4_alwaysBehind_12 t men ah u0 u1 = (r, w2, ah2) := h
  unfold K_X4_alwaysBehind_12 at h
  by_cases c : u0 = 0
  · rw [if_pos c] at h
    cases h
    exact ⟨rfl, fun _ => rfl, fun z => absurd (hz.mp c) z⟩
  · rw [if_neg c] at h
    have key := iter_ind (b := fun k (a : Int32 × (Nat → Int32) × (Nat → Int32)) => B_X4_alwaysBehind_33 t men ah k a.1 a.2.1 a.2.2) (N := men) (fun k a => (∀ j, bq a.1 j = true ↔ (j < k ∧ ¬ j = t ∧ ∀ l, l ∈ ordL men (2 ^ men - 1) → validA (AA ah) (2 ^ men - 1) l = true → ¬ plc l j < plc l t)) ∧ ∀ j, ¬ j = t → a.2.1 j = ah j) (fun k a hk hp => by
      obtain ⟨a1, a2, a3⟩ := a
      obtain ⟨p1, p2⟩ := hp
      have p1 : ∀ j, bq a1 j = true ↔ (j < k ∧ ¬ j = t ∧ ∀ l, l ∈ ordL men (2 ^ men - 1) → validA (AA ah) (2 ^ men - 1) l = true → ¬ plc l j < plc l t) := p1
      have p2 : ∀ j, ¬ j = t → a2 j = ah j := p2
      have hf : ∀ x, upd a2 t x = upd ah t x := fun x => by
        funext j
        by_cases e : j = t
        · subst e; rw [pk_us, pk_us]
        · rw [pk_un e, pk_un e]; exact p2 j e
      show (∀ j, bq (B_X4_alwaysBehind_33 t men ah k a1 a2 a3).1 j = true ↔ _) ∧ ∀ j, ¬ j = t → (B_X4_alwaysBehind_33 t men ah k a1 a2 a3).2.1 j = ah j
      unfold B_X4_alwaysBehind_33
      have hkeep : (k = t ∨ ¬ (∀ l, l ∈ ordL men (2 ^ men - 1) → validA (AA ah) (2 ^ men - 1) l = true → ¬ plc l k < plc l t)) → ∀ j, bq a1 j = true ↔ (j < k + 1 ∧ ¬ j = t ∧ ∀ l, l ∈ ordL men (2 ^ men - 1) → validA (AA ah) (2 ^ men - 1) l = true → ¬ plc l j < plc l t) := fun hn j => by
        rw [p1 j]
        refine ⟨fun z => ⟨by omega, z.2⟩, fun z => ⟨?_, z.2⟩⟩
        rcases Nat.lt_or_ge j k with q | q
        · exact q
        · have e : j = k := by omega
          rw [e] at z
          rcases hn with y | y
          · exact absurd y z.2.1
          · exact absurd z.2.2 y
      by_cases d : k = t
      · rw [if_pos d]
        exact ⟨hkeep (Or.inl d), fun j hj => (pk_un hj).trans (p2 j hj)⟩
      · rw [if_neg d, hf]
        generalize hx : S_X4_countOrders men a3 (upd ah t ((ah t) ||| (S_X6_bit (nI k)))) = x
        obtain ⟨x0, x1⟩ := x
        have e2 := count_ok hm hx
        have hz2 := nI_cO0 (A := AA (upd ah t ((ah t) ||| (S_X6_bit (nI k))))) hm
        rw [← e2] at hz2
        have hz3 : x0 = 0 ↔ ∀ l, l ∈ ordL men (2 ^ men - 1) → validA (AA ah) (2 ^ men - 1) l = true → ¬ plc l k < plc l t := hz2.trans ⟨fun z l hl hv hlt => z l hl ((valid_more hm ht hk hl).mpr ⟨hv, hlt⟩), fun z l hl hv => by
          obtain ⟨q1, q2⟩ := (valid_more hm ht hk hl).mp hv
          exact z l hl q1 q2⟩
        show (∀ j, bq (K_X4_alwaysBehind_61 t ah k a1 a2 x0 x1).1 j = true ↔ _) ∧ ∀ j, ¬ j = t → (K_X4_alwaysBehind_61 t ah k a1 a2 x0 x1).2.1 j = ah j
        unfold K_X4_alwaysBehind_61
        by_cases f : x0 = 0
        · rw [if_pos f]
          refine ⟨fun j => ?_, fun j hj => (pk_un hj).trans (p2 j hj)⟩
          show bq (a1 ||| (S_X6_bit (nI k))) j = true ↔ _
          rw [bq_or, bq_bit6 j (by omega), Bool.or_eq_true, decide_eq_true_iff, p1 j]
          constructor
          · rintro (z | z)
            · exact ⟨by omega, z.2⟩
            · rw [z]; exact ⟨by omega, d, hz3.mp f⟩
          · intro z
            by_cases e : j = k
            · exact Or.inr e
            · exact Or.inl ⟨by omega, z.2⟩
        · rw [if_neg f]
          exact ⟨hkeep (Or.inr (fun z => f (hz3.mpr z))), fun j hj => (pk_un hj).trans (p2 j hj)⟩) men 0 ((0 : Int32), ah, u1) (by omega) ⟨fun j => by
        show bq 0 j = true ↔ _
        rw [bq_0]
        exact ⟨fun z => absurd z (by decide), fun z => absurd z.1 (Nat.not_lt_zero j)⟩, fun j _ => rfl⟩
    generalize iter (fun k (a : Int32 × (Nat → Int32) × (Nat → Int32)) => B_X4_alwaysBehind_33 t men ah k a.1 a.2.1 a.2.2) men 0 ((0 : Int32), ah, u1) = z at h key
    obtain ⟨z1, z2, z3⟩ := z
    obtain ⟨k1, k2⟩ := key
    replace k2 : ∀ j, ¬ j = t → z2 j = ah j := k2
    replace h : (z1, z3, upd z2 t (ah t)) = (r, w2, ah2) := h
    cases h
    refine ⟨?_, fun z => absurd (hz.mpr z) c, fun _ => k1⟩
    funext j
    by_cases e : j = t
    · subst e; exact pk_us
    · rw [pk_un e]; exact k2 j e
theorem heavier_top {x1 : Int32} {bh pl w c1 c2 d1 d2 : Nat → Int32} {c0 d0 : Int32} (hm : men ≤ 6) (h : JS men n ah sw sn sl) (hc : S_X6_heavier x1 men w ah = (c0, c1, c2)) (hd : S_X7_heavier x1 men n bh pl sn sw sl = (d0, d1, d2)) : d0 = c0 ∧ c2 = ah := by
  unfold S_X6_heavier at hc
  unfold S_X7_heavier at hd
  rw [man_eq (by omega)] at hd
  by_cases c : S_X1_hasMan x1 men = 0
  · rw [if_pos c] at hc hd
    cases hc; cases hd
    exact ⟨rfl, rfl⟩
  rw [if_neg c] at hc hd
  obtain ⟨f1, f2⟩ := hasMan_of c (by omega)
  generalize hu : S_X4_alwaysBehind x1.toNatClampNeg men w ah = u at hc
  generalize hv : S_X7_findOrders men bh n pl sn sw sl = v at hd
  obtain ⟨u0, u1, u2⟩ := u
  obtain ⟨v0, v1, v2⟩ := v
  obtain ⟨a1, a2, a3⟩ := always_ok hm f2 hu
  obtain ⟨b1, b2⟩ := findOrders_ok hm h hv
  rw [count_eq hm h] at b1
  have hz := nI_cO0 (A := AA ah) hm
  rw [← b1] at hz
  replace hc : (u0, u1, u2) = (c0, c1, c2) := hc
  replace hd : K_X7_heavier_12 x1 v0 v1 v2 = (d0, d1, d2) := hd
  unfold K_X7_heavier_12 at hd
  by_cases q : v0 = 0
  · rw [if_pos q] at hd
    have e := a2 (hz.mp q)
    cases hc; cases hd
    exact ⟨e.symm, a1⟩
  · rw [if_neg q] at hd
    have hne : ¬ (∀ l, l ∈ ordL men (2 ^ men - 1) → ¬ validA (AA ah) (2 ^ men - 1) l = true) := fun z => q (hz.mpr z)
    have a4 := a3 hne
    have b3 := b2 x1.toNatClampNeg f2
    cases hc; cases hd
    refine ⟨bq_ext (fun j hj => ?_), a1⟩
    obtain ⟨g1, g2, g3⟩ := full_ok men (by omega)
    have hiff : bq (d1 x1.toNatClampNeg) j = true ↔ bq c0 j = true := by
      rw [b3 j hj, a4 j]
      constructor
      · rintro ⟨z1, z2⟩
        have z3 : ∀ l, l ∈ ordL men (2 ^ men - 1) → validA (AA ah) (2 ^ men - 1) l = true → plc l x1.toNatClampNeg < plc l j := fun l hl hv2 => by
          have hmem : codeOf men l men ∈ pcodes men (men ^ men) 0 := (codes_ok hm).mem_iff.mpr (List.mem_map.mpr ⟨l, hl, rfl⟩)
          have := z2 _ hmem ((seen_iff hm h hl).mpr hv2)
          rw [dg_code hm hl f2, dg_code hm hl z1] at this
          exact this
        refine ⟨z1, fun e => ?_, fun l hl hv2 => ?_⟩
        · refine hne (fun l hl hv2 => ?_)
          have := z3 l hl hv2
          rw [e] at this
          exact Nat.lt_irrefl _ this
        · have := z3 l hl hv2
          omega
      · rintro ⟨z1, z2, z3⟩
        refine ⟨z1, fun cd hcd hs => ?_⟩
        obtain ⟨l, hl, rfl⟩ := List.mem_map.mp ((codes_ok hm).mem_iff.mp hcd)
        rw [dg_code hm hl f2, dg_code hm hl z1]
        have hv2 := (seen_iff hm h hl).mp hs
        have hn := z3 l hl hv2
        obtain ⟨o1, o2, o3⟩ := ord_places men (2 ^ men - 1) l g1 hl g2
        have hni : ¬ plc l x1.toNatClampNeg = plc l j := fun e => z2 (o3 _ _ (by omega) (by omega) (by rw [g3 _ (by omega), decide_eq_true f2]) (by rw [g3 _ (by omega), decide_eq_true z1]) e).symm
        omega
    cases p : bq (d1 x1.toNatClampNeg) j <;> cases y : bq c0 j
    · rfl
    · rw [p, y] at hiff; exact absurd (hiff.mpr rfl) (by decide)
    · rw [p, y] at hiff; exact absurd (hiff.mp rfl) (by decide)
    · rfl
end ORD
