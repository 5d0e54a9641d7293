/-! class and reference: answers of single calls, 2 -/
section TOPS2
variable {N br men ox : Nat} {yr : Int32} {fg wt ch ow op fg' wt' ch' ow' op' : Nat → Int32} {lv dy lv' dy' : Int32} {kn ov nb li al kn' ov' nb' li' al' : Nat → Int32}
theorem evening_top (hL : JL br men ox yr fg wt ch ow op fg' wt' ch' ow' op') (h : JD N br men lv dy kn ov nb li al lv' dy' kn' ov' nb' li' al') (hN : N ≤ 10000) {c0 c3 d0 d2 : Int32} {c1 c2 d1 d3 : Nat → Int32} (hc : S_X6_evening dy br men nb ov li = (c0, c1, c2, c3)) (hd : S_X7_evening br men nb' ov' dy' li' = (d0, d1, d2, d3)) : d0 = c0 ∧ JD (N + 1) br men lv c3 kn c2 nb c1 al lv' d2 kn' d3 nb' d1 al' := by
  unfold S_X6_evening at hc
  generalize hx : S_X0_endDay br dy men nb ov li = x at hc
  obtain ⟨x0, x1, x2, x3⟩ := x
  have hj := eve_eq hL.2.1 h hN hx hd
  have hc : (x0, x1, x2, x3) = (c0, c1, c2, c3) := hc
  cases hc
  exact hj
theorem drift_top {x1 : Int32} {s s' : Int32} (hL : JL br men ox yr fg wt ch ow op fg' wt' ch' ow' op') (h : JD N br men lv dy kn ov nb li al lv' dy' kn' ov' nb' li' al') (hN : N ≤ 9000) (hs : ¬ s < 0) (hse : s' = s) {c0 c1 c5 c7 d0 d1 d5 d7 : Int32} {c2 c3 c4 c6 d2 d3 d4 d6 : Nat → Int32} (hc : S_X6_drift x1 br men lv dy s yr ch ov kn li fg wt nb al = (c0, c1, c2, c3, c4, c5, c6, c7)) (hd : S_X7_drift x1 br men yr lv' dy' s' ch' kn' ov' wt' li' fg' al' nb' = (d0, d1, d2, d3, d4, d5, d6, d7)) : d0 = c0 ∧ d1 = c1 ∧ ¬ c1 < 0 ∧ JD (N + 99) br men c5 c7 kn c2 c3 c6 c4 d5 d7 kn' d2 d3 d6 d4 := by
  obtain ⟨l1, l2, l3, l4, l5, l6, l7⟩ := id hL
  subst hse
  unfold S_X6_drift at hc
  unfold S_X7_drift at hd
  rw [show (1 : Int64) = (1 : Int32).toInt64 from by decide, show (99 : Int64) = (99 : Int32).toInt64 from by decide, in_gen] at hd
  by_cases a : x1 < (1 : Int32)
  · rw [if_pos a] at hc
    rw [if_pos a, if_pos rfl] at hd
    cases hc; cases hd
    exact ⟨rfl, rfl, hs, h.up (by omega)⟩
  rw [if_neg a] at hc hd
  by_cases b : x1 ≤ (99 : Int32)
  · rw [if_pos b] at hc
    rw [if_neg (fun z => Int32.not_lt.mpr b z), if_neg (show ¬ (1 : Int32) = 0 by decide)] at hd
    by_cases c : br < 1
    · rw [if_pos c] at hc
      rw [if_pos (by omega)] at hd
      cases hc; cases hd
      exact ⟨rfl, rfl, hs, h.up (by omega)⟩
    rw [if_neg c] at hc
    rw [if_neg (by omega)] at hd
    by_cases d : 1 ≤ men
    · rw [if_pos d] at hc
      rw [if_neg (by omega)] at hd
      obtain ⟨q1, q2, q3⟩ := rg_le (n := 99) a b (by omega)
      generalize x1.toNatClampNeg = n at hc hd q1 q2 q3
      have key := iter_rel (N := n) (f := fun k (a : Int32 × Int32 × Int32 × (Nat → Int32) × (Nat → Int32) × (Nat → Int32) × (Nat → Int32)) => B_X6_drift_41 br men yr ch kn fg wt k a.1 a.2.1 a.2.2.1 a.2.2.2.1 a.2.2.2.2.1 a.2.2.2.2.2.1 a.2.2.2.2.2.2) (g := fun k (a : Int32 × Int32 × Int32 × (Nat → Int32) × (Nat → Int32) × (Nat → Int32) × (Nat → Int32)) => B_X7_drift_34 br men yr ch' kn' wt' fg' k a.1 a.2.1 a.2.2.1 a.2.2.2.1 a.2.2.2.2.1 a.2.2.2.2.2.1 a.2.2.2.2.2.2) (fun k a b => b.2.2.1 = a.2.2.1 ∧ ¬ a.2.2.1 < 0 ∧ JD (N + k) br men a.1 a.2.1 kn a.2.2.2.1 a.2.2.2.2.2.1 a.2.2.2.2.1 a.2.2.2.2.2.2 b.1 b.2.1 kn' b.2.2.2.1 b.2.2.2.2.2.2 b.2.2.2.2.1 b.2.2.2.2.2.1) (fun k a b hk hp => by
        obtain ⟨a0, a1, a2, a3, a4, a5, a6⟩ := a
        obtain ⟨b0, b1, b2, b3, b4, b5, b6⟩ := b
        obtain ⟨p1, p2, p3⟩ := hp
        have p1 : b2 = a2 := p1
        subst p1
        have p2 : ¬ b2 < 0 := p2
        have p3 : JD (N + k) br men a0 a1 kn a3 a5 a4 a6 b0 b1 kn' b3 b6 b4 b5 := p3
        show (fun a b : Int32 × Int32 × Int32 × (Nat → Int32) × (Nat → Int32) × (Nat → Int32) × (Nat → Int32) => b.2.2.1 = a.2.2.1 ∧ ¬ a.2.2.1 < 0 ∧ JD (N + (k + 1)) br men a.1 a.2.1 kn a.2.2.2.1 a.2.2.2.2.2.1 a.2.2.2.2.1 a.2.2.2.2.2.2 b.1 b.2.1 kn' b.2.2.2.1 b.2.2.2.2.2.2 b.2.2.2.2.1 b.2.2.2.2.2.1) (B_X6_drift_41 br men yr ch kn fg wt k a0 a1 b2 a3 a4 a5 a6) (B_X7_drift_34 br men yr ch' kn' wt' fg' k b0 b1 b2 b3 b4 b5 b6)
        unfold B_X6_drift_41 B_X7_drift_34
        generalize hx : S_X0_drawDay men a0 a1 b2 yr br ch a3 kn a4 fg wt a5 a6 = x
        generalize hy : S_X7_dayNow men b0 yr br b1 b2 ch' kn' b3 wt' b4 fg' b5 b6 = y
        obtain ⟨x0, x1, x2, x3, x4, x5, x6⟩ := x
        obtain ⟨y0, y1, y2, y3, y4, y5, y6⟩ := y
        exact dd_eq hL p3 (by omega) (by omega) p2 hx hy) n 0 (lv, dy, s', ov, li, nb, al) (lv', dy', s', ov', li', al', nb') (by omega) ⟨rfl, hs, h⟩
      generalize iter (fun k (a : Int32 × Int32 × Int32 × (Nat → Int32) × (Nat → Int32) × (Nat → Int32) × (Nat → Int32)) => B_X6_drift_41 br men yr ch kn fg wt k a.1 a.2.1 a.2.2.1 a.2.2.2.1 a.2.2.2.2.1 a.2.2.2.2.2.1 a.2.2.2.2.2.2) n 0 (lv, dy, s', ov, li, nb, al) = r1 at hc key
      generalize iter (fun k (a : Int32 × Int32 × Int32 × (Nat → Int32) × (Nat → Int32) × (Nat → Int32) × (Nat → Int32)) => B_X7_drift_34 br men yr ch' kn' wt' fg' k a.1 a.2.1 a.2.2.1 a.2.2.2.1 a.2.2.2.2.1 a.2.2.2.2.2.1 a.2.2.2.2.2.2) n 0 (lv', dy', s', ov', li', al', nb') = r2 at hd key
      obtain ⟨a0, a1, a2, a3, a4, a5, a6⟩ := r1
      obtain ⟨b0, b1, b2, b3, b4, b5, b6⟩ := r2
      obtain ⟨p1, p2, p3⟩ := key
      have p3 : JD (N + n) br men a0 a1 kn a3 a5 a4 a6 b0 b1 kn' b3 b6 b4 b5 := p3
      have hc : (a0, a2, a3, a5, a6, a0, a4, a1) = (c0, c1, c2, c3, c4, c5, c6, c7) := hc
      have hd : (b0, b2, b3, b6, b5, b0, b4, b1) = (d0, d1, d2, d3, d4, d5, d6, d7) := hd
      cases hc; cases hd
      exact ⟨p3.1, p1, p2, p3.up (by omega)⟩
    · rw [if_neg d] at hc
      rw [if_pos (by omega)] at hd
      cases hc; cases hd
      exact ⟨rfl, rfl, hs, h.up (by omega)⟩
  · rw [if_neg b] at hc
    rw [if_pos (Int32.not_le.mp b), if_pos rfl] at hd
    cases hc; cases hd
    exact ⟨rfl, rfl, hs, h.up (by omega)⟩
theorem helpers_sup {b t : Nat} {left : Int32} (hL : JL br men ox yr fg wt ch ow op fg' wt' ch' ow' op') (h : JD N br men lv dy kn ov nb li al lv' dy' kn' ov' nb' li' al') (hb : b < br) (ht : t < men) (hl : ∀ j, j < men → mn b t j lv dy li fg wt ov = true → bq left j = true) : S_X7_supports b t left men lv dy kn' wt' ov' li' fg' = S_X0_helpers b t lv dy li men fg kn wt ov := by
  obtain ⟨l1, l2, l3, l4, l5, l6, l7⟩ := id hL
  obtain ⟨e1, e2, h1, h2, h3, h4, h5⟩ := id h
  obtain ⟨a1, a2, a3, a4, a5⟩ := h5 b t hb ht
  refine bq_ext (fun j hj => ?_)
  rw [supports_b (li := li) (fg := fg) (kn := kn) (w := wt) (ov := ov) l2 ht (rem_eq a3 (l5 b hb) a4) (fun t ht => (l6 t ht).1) (h3 t ht).1 (h4 b hb).1, helpers_b l2 hj]
  by_cases q : j < men
  · rw [decide_eq_true q, Bool.true_and, Bool.true_and]
    by_cases r : mn b t j lv dy li fg wt ov = true
    · rw [hl j q r, Bool.true_and]
    · rw [Bool.eq_false_iff.mpr r, Bool.and_false, Bool.and_false]
  · rw [decide_eq_false q, Bool.false_and, Bool.false_and, Bool.false_and]
theorem mn_lv {b t j : Nat} (h : mn b t j lv dy li fg wt ov = true) : bq lv j = true := by
  unfold mn at h
  revert h
  cases bq lv j
  · rw [Bool.and_false, Bool.false_and, Bool.false_and]; exact id
  · exact fun _ => rfl
theorem mn_ov {b t j : Nat} (h : mn b t j lv dy li fg wt ov = true) : bq (ov b) j = false := by
  unfold mn at h
  revert h
  cases bq (ov b) j
  · exact fun _ => rfl
  · rw [Bool.not_true, Bool.and_false, Bool.false_and]; exact fun z => by cases z
theorem whom_top {x1 x2 : Int32} (hL : JL br men ox yr fg wt ch ow op fg' wt' ch' ow' op') (h : JD N br men lv dy kn ov nb li al lv' dy' kn' ov' nb' li' al') : S_X7_whom x1 x2 br men lv' dy' ov' kn' wt' li' fg' ch' = S_X6_whom x1 x2 br men lv dy ov li fg kn wt ch := by
  obtain ⟨l1, l2, l3, l4, l5, l6, l7⟩ := id hL
  obtain ⟨e1, e2, h1, h2, h3, h4, h5⟩ := id h
  unfold S_X7_whom S_X6_whom
  rw [br_eq (by omega), man_eq (by omega)]
  by_cases c : S_X1_hasBridge x1 br = 0
  · rw [if_pos c, if_pos c]
  rw [if_neg c, if_neg c]
  obtain ⟨f1, f2⟩ := hasBridge_of c (by omega)
  by_cases d : S_X1_hasMan x2 men = 0
  · rw [if_pos d, if_pos d]
  rw [if_neg d, if_neg d]
  obtain ⟨g1, g2⟩ := hasMan_of d (by omega)
  have ec : S_X7_candidates x1.toNatClampNeg lv' ov' = S_X0_toCome x1.toNatClampNeg lv ov := by
    unfold S_X7_candidates S_X0_toCome
    rw [e1, (h4 _ f2).1]
  rw [ec, has67 _ (by omega)]
  by_cases q : S_X7_has (S_X0_toCome x1.toNatClampNeg lv ov) (nI x2.toNatClampNeg) = 0
  · rw [if_pos q, if_pos q]
  rw [if_neg q, if_neg q]
  have hs := helpers_sup (left := lv) hL h f2 g2 (fun j hj hm => mn_lv hm)
  show iter (fun k a => B_X7_whom_51 x1 x2 men lv' dy' ov' kn' wt' li' fg' ch' k a) men 0 (-1) = iter (fun k a => B_X1_likeliest_4 (S_X0_helpers x1.toNatClampNeg x2.toNatClampNeg lv dy li men fg kn wt ov) ch k a) men 0 (-1)
  refine (iter_rel (N := men) (f := fun k a => B_X7_whom_51 x1 x2 men lv' dy' ov' kn' wt' li' fg' ch' k a) (g := fun k a => B_X1_likeliest_4 (S_X0_helpers x1.toNatClampNeg x2.toNatClampNeg lv dy li men fg kn wt ov) ch k a) (fun k a b => a = b ∧ NN men a) (fun k a b hk hp => ?_) men 0 (-1) (-1) (by omega) ⟨rfl, NN.none⟩).1
  obtain ⟨rfl, p2⟩ := hp
  show B_X7_whom_51 x1 x2 men lv' dy' ov' kn' wt' li' fg' ch' k a = B_X1_likeliest_4 (S_X0_helpers x1.toNatClampNeg x2.toNatClampNeg lv dy li men fg kn wt ov) ch k a ∧ NN men (B_X7_whom_51 x1 x2 men lv' dy' ov' kn' wt' li' fg' ch' k a)
  unfold B_X7_whom_51 B_X1_likeliest_4
  rw [e1, e2, hs, has67 _ (by omega)]
  by_cases r : S_X7_has (S_X0_helpers x1.toNatClampNeg x2.toNatClampNeg lv dy li men fg kn wt ov) (nI k) = 0
  · rw [if_pos r, if_pos r]
    exact ⟨rfl, p2⟩
  rw [if_neg r, if_neg r]
  have hk : NN men (nI k) := NN.nat hk (by omega)
  by_cases s : a = -1
  · rw [if_pos s, if_pos (by rw [s]; decide)]
    exact ⟨rfl, hk⟩
  · obtain ⟨k1, k2⟩ := p2.pos s
    have hnn : ¬ a < 0 := by rw [k1]; exact nI_pos (by omega)
    rw [if_neg s, if_neg hnn, (l6 k (by assumption)).2.1, (l6 _ k2).2.1]
    by_cases t : ch k ≤ ch a.toNatClampNeg
    · rw [if_pos t, if_pos t]
      exact ⟨k1.symm, by rw [← k1]; exact p2⟩
    · rw [if_neg t, if_neg t]
      exact ⟨rfl, hk⟩
def JQ (men cnt : Nat) (wh by1 wh' by1' : Nat → Int32) : Prop := cnt ≤ 6 ∧ ∀ i, i < cnt → wh' i = wh i ∧ RN men (wh i) ∧ by1' i = by1 i ∧ NN men (by1 i)
theorem odds_top {cnt : Nat} {wh by1 wh' by1' : Nat → Int32} (hL : JL br men ox yr fg wt ch ow op fg' wt' ch' ow' op') (hQ : JQ men cnt wh by1 wh' by1') : S_X7_odds cnt by1' men ch' = S_X6_odds cnt by1 men ch := by
  obtain ⟨l1, l2, l3, l4, l5, l6, l7⟩ := id hL
  have e1 : iter (fun k a => B_X7_odds_4 by1' k a) cnt 0 0 = S_X2_allNamed cnt by1 := by
    show iter (fun k a => B_X7_odds_4 by1' k a) cnt 0 0 = iter (fun k a => B_X2_allNamed_4 by1 k a) cnt 0 0
    refine iter_eq (fun k a hk => ?_)
    show B_X7_odds_4 by1' k a = B_X2_allNamed_4 by1 k a
    unfold B_X7_odds_4 B_X2_allNamed_4
    rw [(hQ.2 k hk).2.2.1, Int32.or_zero]
    rfl
  show (iter (fun k a => B_X7_odds_50 (iter (fun k a => B_X7_odds_4 by1' k a) cnt 0 0) ch' k a) men 0 (1000000000 : Int64)).toInt32 = (iter (fun k a => B_X1_oddsOf_7 (S_X2_allNamed cnt by1) ch k a) men 0 (1000000000 : Int64)).toInt32
  rw [e1]
  refine congrArg Int64.toInt32 (iter_eq (fun k a hk => ?_))
  show B_X7_odds_50 (S_X2_allNamed cnt by1) ch' k a = B_X1_oddsOf_7 (S_X2_allNamed cnt by1) ch k a
  unfold B_X7_odds_50 B_X1_oddsOf_7
  rw [has67 _ (by omega), (l6 k hk).2.1]
theorem row_top {x1 x2 : Int32} {cnt : Nat} {wh by1 wh' by1' : Nat → Int32} (hm : men ≤ 6) (hQ : JQ men cnt wh by1 wh' by1') {c0 d0 : Int32} {c1 c2 d1 d2 : Nat → Int32} {c3 d3 : Nat} (hc : S_X6_row x1 x2 men cnt wh by1 = (c0, c1, c2, c3)) (hd : S_X7_row x1 x2 men cnt wh' by1' = (d0, d1, d2, d3)) : d0 = c0 ∧ d3 = c3 ∧ JQ men c3 c1 c2 d1 d2 := by
  unfold S_X6_row at hc
  unfold S_X7_row at hd
  rw [man_eq (by omega)] at hd
  have hz := mayName_z (x := x1) (y := x2) hm
  by_cases d : S_X1_mayName x1 x2 men = 0
  · rw [if_pos d] at hc
    have hd : ((-1000000001 : Int32), wh', by1', cnt) = (d0, d1, d2, d3) := by
      rcases hz.mp d with z | z | z
      · rw [if_pos z] at hd; exact hd
      · rcases ite_or hd with ⟨_, hd⟩ | ⟨_, hd⟩
        · exact hd
        · rw [if_pos z] at hd; exact hd
      · rcases ite_or hd with ⟨_, hd⟩ | ⟨_, hd⟩
        · exact hd
        · rcases ite_or hd with ⟨_, hd⟩ | ⟨_, hd⟩
          · exact hd
          · rw [if_pos z] at hd; exact hd
    cases hc; cases hd
    exact ⟨rfl, rfl, hQ⟩
  rw [if_neg d] at hc
  have hn : ¬ S_X1_hasMan x1 men = 0 ∧ ¬ S_X7_isManOrNone x2 men = 0 ∧ ¬ nI x1.toNatClampNeg = x2 := ⟨fun z => d (hz.mpr (Or.inl z)), fun z => d (hz.mpr (Or.inr (Or.inl z))), fun z => d (hz.mpr (Or.inr (Or.inr z)))⟩
  rw [if_neg hn.1, if_neg hn.2.1, if_neg hn.2.2] at hd
  obtain ⟨g1, g2⟩ := hasMan_of hn.1 (by omega)
  have hN := isManOrNone_of hn.2.1 (by omega)
  obtain ⟨q1, q2⟩ := id hQ
  by_cases c : 6 ≤ cnt
  · rw [if_pos c] at hc
    rw [if_pos (by omega)] at hd
    cases hc; cases hd
    exact ⟨rfl, rfl, hQ⟩
  · rw [if_neg c] at hc
    rw [if_neg (by omega)] at hd
    unfold S_X2_add at hc
    rw [if_neg c] at hc
    have hc : (nI (cnt + 1), upd wh cnt (nI x1.toNatClampNeg), upd by1 cnt x2, cnt + 1) = (c0, c1, c2, c3) := hc
    cases hc; cases hd
    refine ⟨rfl, rfl, by omega, fun i hi => ?_⟩
    by_cases e : i = cnt
    · subst e
      rw [pk_us, pk_us, pk_us, pk_us]
      exact ⟨rfl, RN.nat g2 (by omega), rfl, hN⟩
    · rw [pk_un e, pk_un e, pk_un e, pk_un e]
      exact q2 i (by omega)
theorem seed_top {x1 s : Int32} (hs : ¬ s < 0) {c0 c1 d0 d1 : Int32} (hc : S_X6_seed x1 s = (c0, c1)) (hd : S_X7_seed x1 s = (d0, d1)) : d0 = c0 ∧ d1 = c1 ∧ ¬ c1 < 0 := by
  unfold S_X6_seed at hc
  unfold S_X7_seed at hd
  by_cases q : 0 ≤ x1
  · rw [if_pos q] at hc hd
    cases hc; cases hd
    exact ⟨rfl, rfl, Int32.not_lt.mpr q⟩
  · rw [if_neg q] at hc hd
    cases hc; cases hd
    exact ⟨rfl, rfl, hs⟩
end TOPS2
