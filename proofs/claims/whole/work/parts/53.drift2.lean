/-! class and reference: days by draws -/
theorem land31 {m : Nat} (h : m < 2 ^ 63) : lN m &&& (2147483647 : Int64) = lN m - lN m / (2147483648 : Int64) * (2147483648 : Int64) := by
  rw [show lN m - lN m / (2147483648 : Int64) * (2147483648 : Int64) = lN (m % 2147483648) from pk_lRem (a := m) (b := 2147483648) h (by decide) (by decide)]
  apply Int64.toBitVec_inj.mp
  apply BitVec.eq_of_toNat_eq
  rw [Int64.toBitVec_and, BitVec.toNat_and]
  have e1 : (lN m).toBitVec.toNat = m := Nat.mod_eq_of_lt (by omega)
  have e2 : (lN (m % 2147483648)).toBitVec.toNat = m % 2147483648 := Nat.mod_eq_of_lt (by omega)
  have e3 : (2147483647 : Int64).toBitVec.toNat = 2 ^ 31 - 1 := by decide
  rw [e1, e2, e3, Nat.and_two_pow_sub_one_eq_mod]
theorem draw_eq {n : Nat} {s : Int32} (hs : ¬ s < 0) (hn : 1 ≤ n) (hn2 : n ≤ 100) : S_X0_draw (nI n) s = S_X7_draw n s := by
  have h1 : (1 : Int32) ≤ nI n := (nI_leI (a := 1) (by decide) (by omega)).mpr hn
  obtain ⟨j, hj, rfl⟩ := nI_of hs
  have e1 : (nI j).toInt64 = lN j := nI_l hj
  have e2 : lN j * (1103515245 : Int64) + (12345 : Int64) = lN (j * 1103515245 + 12345) := by
    rw [show (1103515245 : Int64) = lN 1103515245 from rfl, show (12345 : Int64) = lN 12345 from rfl, lN_mul, lN_add]
  unfold S_X0_draw S_X7_draw
  rw [if_pos h1, e1, e2, land31 (by omega)]
theorem hasB_nI {b n : Nat} (h : b < n) (hn : n ≤ 1000) : ¬ S_X1_hasBridge (nI b) n = 0 := by
  unfold S_X1_hasBridge
  rw [if_neg (nI_pos (by omega)), if_neg (fun z => by have := (nI_leI (by omega) (by omega)).mp z; omega)]
  decide
section DRIFT
variable {N br men ox : Nat} {yr : Int32} {fg wt ch ow op fg' wt' ch' ow' op' : Nat → Int32} {lv dy lv' dy' : Int32} {kn ov nb li al kn' ov' nb' li' al' : Nat → Int32}
theorem dc_eq {t : Nat} {s : Int32} (hL : JL br men ox yr fg wt ch ow op fg' wt' ch' ow' op') (h : JD N br men lv dy kn ov nb li al lv' dy' kn' ov' nb' li' al') (ht : t < men) (hbr : 1 ≤ br) (hs : ¬ s < 0) {c0 c4 d0 d1 : Int32} {c1 c2 c3 d2 d3 d4 : Nat → Int32} (hc : S_X0_drawCrossing t br lv dy s yr men ov kn li fg wt nb al = (c0, c1, c2, c3, c4)) {r s1 : Int32} (hq : S_X7_draw br s = (r, s1)) (hd : K_X7_dayNow_41 t men yr dy' kn' wt' li' fg' lv' ov' al' nb' r s1 = (d0, d1, d2, d3, d4)) : d0 = c0 ∧ ¬ c0 < 0 ∧ JD N br men c4 dy kn c1 c2 li c3 d1 dy' kn' d2 d4 li' d3 := by
  obtain ⟨l1, l2, l3, l4, l5, l6, l7⟩ := id hL
  obtain ⟨e1, e2, h1, h2, h3, h4, h5⟩ := id h
  unfold S_X0_drawCrossing at hc
  rw [draw_eq hs hbr (by omega), hq] at hc
  obtain ⟨f1, f2, f3⟩ := draw_ok hq hs (by omega) (by omega)
  have hc : K_X0_drawCrossing_8 t br lv dy yr men ov kn li fg wt nb al r s1 = _ := hc
  unfold K_X0_drawCrossing_8 at hc
  unfold K_X7_dayNow_41 at hd
  rw [draw_eq f3 (by omega) (by omega)] at hc
  generalize hq2 : S_X7_draw men s1 = q2 at hc hd
  obtain ⟨r2, s2⟩ := q2
  obtain ⟨g1, g2, g3⟩ := draw_ok hq2 f3 (by omega) (by omega)
  have hc : K_X0_drawCrossing_20 t br lv dy r yr men ov kn li fg wt nb al r2 s2 = _ := hc
  have hd : K_X7_dayNow_50 t men yr dy' r kn' wt' li' fg' lv' ov' al' nb' r2 s2 = _ := hd
  generalize r.toNatClampNeg = b at f1 f2
  generalize r2.toNatClampNeg = v at g1 g2
  have hv9 := g2
  subst f1
  subst g1
  unfold K_X0_drawCrossing_20 at hc
  unfold K_X7_dayNow_50 at hd
  rw [nI_clamp (by omega)] at hc
  rw [nI_clamp (by omega), nI_clamp (by omega), (h3 t ht).1, (h4 b f2).1] at hd
  rw [if_neg (hasB_nI f2 (by omega))] at hc
  have hk := hz6 (s := kn t) (show v < 31 by omega)
  have hk7 := hz7 (s := kn t) (show v < 31 by omega)
  have ho := hz6 (s := ov b) (show t < 31 by omega)
  have ho7 := hz7 (s := ov b) (show t < 31 by omega)
  by_cases q : bq (ov b) t = false
  · rw [if_pos (ho.mpr q)] at hc
    rw [if_pos (ho7.mpr q)] at hd
    by_cases k : bq (kn t) v = false
    · rw [if_pos (hk.mpr k)] at hc
      rw [if_pos (hk7.mpr k)] at hd
      generalize hg : S_X0_go b t (-1 : Int32) lv dy li yr men fg kn wt ov nb al = g at hc
      generalize hg2 : S_X7_crossNow b t (-1 : Int32) yr men lv' dy' wt' ov' li' fg' al' nb' = g2 at hd
      obtain ⟨x0, x1, x2, x3, x4⟩ := g
      obtain ⟨y0, y1, y2, y3, y4⟩ := g2
      have hj := go_eq hL h f2 ht (Or.inl rfl) hg hg2
      have hc : (s2, x1, x2, x3, x4) = (c0, c1, c2, c3, c4) := hc
      have hd : (s2, y4, y1, y3, y2) = (d0, d1, d2, d3, d4) := hd
      cases hc
      cases hd
      exact ⟨rfl, g3, hj.2⟩
    · rw [if_neg (fun z => k (hk.mp z))] at hc
      rw [if_neg (fun z => k (hk7.mp z)), if_pos (ho7.mpr q)] at hd
      generalize hg : S_X0_go b t (nI v) lv dy li yr men fg kn wt ov nb al = g at hc
      generalize hg2 : S_X7_crossNow b t (nI v) yr men lv' dy' wt' ov' li' fg' al' nb' = g2 at hd
      obtain ⟨x0, x1, x2, x3, x4⟩ := g
      obtain ⟨y0, y1, y2, y3, y4⟩ := g2
      have hj := go_eq hL h f2 ht (Or.inr ⟨v, hv9, rfl, tf.mpr k⟩) hg hg2
      have hc : (s2, x1, x2, x3, x4) = (c0, c1, c2, c3, c4) := hc
      have hd : (s2, y4, y1, y3, y2) = (d0, d1, d2, d3, d4) := hd
      cases hc
      cases hd
      exact ⟨rfl, g3, hj.2⟩
  · rw [if_neg (fun z => q (ho.mp z))] at hc
    rw [if_neg (fun z => q (ho7.mp z)), if_neg (fun z => q (ho7.mp z))] at hd
    have hd : (s2, lv', ov', al', nb') = (d0, d1, d2, d3, d4) := by
      revert hd
      by_cases k : bq (kn t) v = false
      · rw [if_pos (hk7.mpr k)]; exact id
      · rw [if_neg (fun z => k (hk7.mp z))]; exact id
    cases hc
    cases hd
    exact ⟨rfl, g3, h⟩
theorem dd_eq {s : Int32} (hL : JL br men ox yr fg wt ch ow op fg' wt' ch' ow' op') (h : JD N br men lv dy kn ov nb li al lv' dy' kn' ov' nb' li' al') (hN : N ≤ 10000) (hbr : 1 ≤ br) (hs : ¬ s < 0) {c0 c4 c6 d0 d4 d6 : Int32} {c1 c2 c3 c5 d1 d2 d3 d5 : Nat → Int32} (hc : S_X0_drawDay men lv dy s yr br ch ov kn li fg wt nb al = (c0, c1, c2, c3, c4, c5, c6)) (hd : S_X7_dayNow men lv' yr br dy' s ch' kn' ov' wt' li' fg' al' nb' = (d0, d1, d2, d3, d4, d5, d6)) : d0 = c0 ∧ ¬ c0 < 0 ∧ JD (N + 1) br men c4 c6 kn c1 c2 c5 c3 d4 d6 kn' d1 d2 d5 d3 := by
  obtain ⟨l1, l2, l3, l4, l5, l6, l7⟩ := id hL
  have key := iter_rel (N := men) (f := fun k (a : Int32 × Int32 × (Nat → Int32) × (Nat → Int32) × (Nat → Int32)) => B_X0_drawDay_2 men dy yr br ch kn li fg wt k a.1 a.2.1 a.2.2.1 a.2.2.2.1 a.2.2.2.2) (g := fun k (a : Int32 × Int32 × (Nat → Int32) × (Nat → Int32) × (Nat → Int32)) => B_X7_dayNow_2 men yr br dy' ch' kn' wt' li' fg' k a.1 a.2.1 a.2.2.1 a.2.2.2.1 a.2.2.2.2) (fun k a b => b.1 = a.1 ∧ ¬ a.1 < 0 ∧ JD N br men a.2.1 dy kn a.2.2.1 a.2.2.2.1 li a.2.2.2.2 b.2.1 dy' kn' b.2.2.1 b.2.2.2.2 li' b.2.2.2.1) (fun k a b hk hp => by
    obtain ⟨a0, a1, a2, a3, a4⟩ := a
    obtain ⟨b0, b1, b2, b3, b4⟩ := b
    obtain ⟨p1, p2, p3⟩ := hp
    have p1 : b0 = a0 := p1
    subst p1
    have p2 : ¬ b0 < 0 := p2
    have p3 : JD N br men a1 dy kn a2 a3 li a4 b1 dy' kn' b2 b4 li' b3 := p3
    show (fun a b : Int32 × Int32 × (Nat → Int32) × (Nat → Int32) × (Nat → Int32) => b.1 = a.1 ∧ ¬ a.1 < 0 ∧ JD N br men a.2.1 dy kn a.2.2.1 a.2.2.2.1 li a.2.2.2.2 b.2.1 dy' kn' b.2.2.1 b.2.2.2.2 li' b.2.2.2.1) (B_X0_drawDay_2 men dy yr br ch kn li fg wt k b0 a1 a2 a3 a4) (B_X7_dayNow_2 men yr br dy' ch' kn' wt' li' fg' k b0 b1 b2 b3 b4)
    unfold B_X0_drawDay_2 B_X7_dayNow_2
    rw [p3.1, show S_X0_draw (100 : Int32) b0 = S_X7_draw 100 b0 from draw_eq (n := 100) p2 (by omega) (by omega)]
    by_cases q : bq a1 k = false
    · rw [if_pos ((hz6 (by omega)).mpr q), if_pos ((hz7 (by omega)).mpr q)]
      refine ⟨rfl, p2, ?_⟩
      have e := p3.1
      rw [e] at p3
      exact p3
    · rw [if_neg (fun z => q ((hz6 (by omega)).mp z)), if_neg (fun z => q ((hz7 (by omega)).mp z))]
      generalize hq : S_X7_draw 100 b0 = u
      obtain ⟨r, s1⟩ := u
      obtain ⟨f1, f2, f3⟩ := draw_ok hq p2 (by omega) (by omega)
      show (fun a b : Int32 × Int32 × (Nat → Int32) × (Nat → Int32) × (Nat → Int32) => b.1 = a.1 ∧ ¬ a.1 < 0 ∧ JD N br men a.2.1 dy kn a.2.2.1 a.2.2.2.1 li a.2.2.2.2 b.2.1 dy' kn' b.2.2.1 b.2.2.2.2 li' b.2.2.2.1) (K_X0_drawDay_27 k men dy yr br ch kn li fg wt a1 a2 a3 a4 r s1) (K_X7_dayNow_24 k men yr br dy' ch' kn' wt' li' fg' a1 b2 b3 b4 r s1)
      have e := p3.1
      rw [e] at p3
      unfold K_X0_drawDay_27 K_X7_dayNow_24
      rw [(l6 k hk).2.1]
      by_cases c : ch k ≤ r
      · rw [if_pos c, if_pos c]
        exact ⟨rfl, f3, p3⟩
      · rw [if_neg c, if_neg c]
        generalize hc : S_X0_drawCrossing k br a1 dy s1 yr men a2 kn li fg wt a3 a4 = x
        obtain ⟨x0, x1, x2, x3, x4⟩ := x
        generalize hq2 : S_X7_draw br s1 = u2
        obtain ⟨r2, s2⟩ := u2
        generalize hd : K_X7_dayNow_41 k men yr dy' kn' wt' li' fg' a1 b2 b3 b4 r2 s2 = y
        obtain ⟨y0, y1, y2, y3, y4⟩ := y
        have hj := dc_eq hL p3 hk hbr f3 hc hq2 hd
        show (fun a b : Int32 × Int32 × (Nat → Int32) × (Nat → Int32) × (Nat → Int32) => b.1 = a.1 ∧ ¬ a.1 < 0 ∧ JD N br men a.2.1 dy kn a.2.2.1 a.2.2.2.1 li a.2.2.2.2 b.2.1 dy' kn' b.2.2.1 b.2.2.2.2 li' b.2.2.2.1) (x0, x4, x1, x2, x3) (K_X7_dayNow_41 k men yr dy' kn' wt' li' fg' a1 b2 b3 b4 r2 s2)
        rw [hd]
        exact hj) men 0 (s, lv, ov, nb, al) (s, lv', ov', al', nb') (by omega) ⟨rfl, hs, h⟩
  unfold S_X0_drawDay at hc
  unfold S_X7_dayNow at hd
  generalize iter (fun k (a : Int32 × Int32 × (Nat → Int32) × (Nat → Int32) × (Nat → Int32)) => B_X0_drawDay_2 men dy yr br ch kn li fg wt k a.1 a.2.1 a.2.2.1 a.2.2.2.1 a.2.2.2.2) men 0 (s, lv, ov, nb, al) = r1 at hc key
  generalize iter (fun k (a : Int32 × Int32 × (Nat → Int32) × (Nat → Int32) × (Nat → Int32)) => B_X7_dayNow_2 men yr br dy' ch' kn' wt' li' fg' k a.1 a.2.1 a.2.2.1 a.2.2.2.1 a.2.2.2.2) men 0 (s, lv', ov', al', nb') = r2 at hd key
  obtain ⟨a0, a1, a2, a3, a4⟩ := r1
  obtain ⟨b0, b1, b2, b3, b4⟩ := r2
  obtain ⟨p1, p2, p3⟩ := key
  have p1 : b0 = a0 := p1
  have p2 : ¬ a0 < 0 := p2
  have p3 : JD N br men a1 dy kn a2 a3 li a4 b1 dy' kn' b2 b4 li' b3 := p3
  have hc : K_X0_drawDay_2 men dy br li a0 a1 a2 a3 a4 = _ := hc
  have hd : K_X7_dayNow_2 men br dy' li' b0 b1 b2 b3 b4 = _ := hd
  unfold K_X0_drawDay_2 at hc
  unfold K_X7_dayNow_2 at hd
  generalize hx : S_X0_endDay br dy men a3 a2 li = x at hc
  generalize hy : S_X7_evening br men b4 b2 dy' li' = y at hd
  obtain ⟨x0, x1, x2, x3⟩ := x
  obtain ⟨y0, y1, y2, y3⟩ := y
  have hj := eve_eq l2 p3 hN hx hy
  have hc : (a0, x2, a3, a4, a1, x1, x3) = (c0, c1, c2, c3, c4, c5, c6) := hc
  have hd : (b0, y3, b4, b3, b1, y1, y2) = (d0, d1, d2, d3, d4, d5, d6) := hd
  cases hc
  cases hd
  exact ⟨p1, p2, hj.2⟩
end DRIFT
