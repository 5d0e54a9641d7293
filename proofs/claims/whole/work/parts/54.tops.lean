/-! class and reference: answers of single calls -/
section TOPS
variable {N br men ox : Nat} {yr : Int32} {fg wt ch ow op fg' wt' ch' ow' op' : Nat → Int32} {lv dy lv' dy' : Int32} {kn ov nb li al kn' ov' nb' li' al' : Nat → Int32}
theorem told_eq {x y a b : Int32} {n1 n2 n3 n4 n5 n6 : Nat} : S_X7_told x y n1 n2 n3 n4 a b n5 n6 = S_X6_told x y n1 n2 n3 n4 a b n5 n6 := rfl
theorem bridge_eq {x1 x2 : Int32} (hL : JL br men ox yr fg wt ch ow op fg' wt' ch' ow' op') (h : JD N br men lv dy kn ov nb li al lv' dy' kn' ov' nb' li' al') : S_X7_bridge x1 x2 br men dy' li' fg' ov' = S_X6_bridge x1 x2 br men fg ov dy li := by
  obtain ⟨l1, l2, l3, l4, l5, l6, l7⟩ := id hL
  obtain ⟨e1, e2, h1, h2, h3, h4, h5⟩ := id h
  unfold S_X7_bridge S_X6_bridge
  rw [br_eq (by omega)]
  by_cases c : S_X1_hasBridge x1 br = 0
  · rw [if_pos c, if_pos c]
  · rw [if_neg c, if_neg c]
    obtain ⟨f1, f2⟩ := hasBridge_of c (by omega)
    rw [l5 _ f2, (h4 _ f2).1]
    have e : S_X7_rememberedAt x1.toNatClampNeg men dy' li' fg' = S_X0_allRemembered x1.toNatClampNeg men dy li fg := by
      show iter (fun k a => B_X7_rememberedAt_4 x1.toNatClampNeg dy' li' fg' k a) men 0 0 = iter (fun k a => B_X0_allRemembered_4 x1.toNatClampNeg dy li fg k a) men 0 0
      refine iter_eq (fun k a hk => ?_)
      show B_X7_rememberedAt_4 x1.toNatClampNeg dy' li' fg' k a = B_X0_allRemembered_4 x1.toNatClampNeg dy li fg k a
      obtain ⟨a1, a2, a3, a4, a5⟩ := h5 _ k f2 hk
      unfold B_X7_rememberedAt_4 B_X0_allRemembered_4
      rw [e2, rem_eq a3 (l5 _ f2) a4, Int32.or_zero]
      rfl
    rw [e]
theorem man_top {x1 x2 : Int32} (hL : JL br men ox yr fg wt ch ow op fg' wt' ch' ow' op') (h : JD N br men lv dy kn ov nb li al lv' dy' kn' ov' nb' li' al') : S_X7_man x1 x2 men lv' kn' ch' wt' = S_X6_man x1 x2 men wt ch lv kn := by
  obtain ⟨l1, l2, l3, l4, l5, l6, l7⟩ := id hL
  obtain ⟨e1, e2, h1, h2, h3, h4, h5⟩ := id h
  unfold S_X7_man S_X6_man
  rw [man_eq (by omega)]
  by_cases c : S_X1_hasMan x1 men = 0
  · rw [if_pos c, if_pos c]
  · rw [if_neg c, if_neg c]
    obtain ⟨f1, f2⟩ := hasMan_of c (by omega)
    rw [(l6 _ f2).1, (l6 _ f2).2.1, (h3 _ f2).1, e1, shr1 lv (by omega), has6 lv (by omega)]
    by_cases q : bq lv x1.toNatClampNeg = true
    · rw [if_pos q, if_neg (show ¬ (1 : Int32) = 0 by decide)]
    · rw [if_neg q, if_pos (show (0 : Int32) = 0 from rfl)]
theorem ox_top {x1 x2 : Int32} (hL : JL br men ox yr fg wt ch ow op fg' wt' ch' ow' op') : S_X7_ox x1 x2 ox op' ow' = S_X6_ox x1 x2 ox ow op := by
  obtain ⟨l1, l2, l3, l4, l5, l6, l7⟩ := id hL
  unfold S_X7_ox S_X6_ox
  rw [show S_X7_in x1.toInt64 (0 : Int64) ((nI ox) - (1 : Int32)).toInt64 = S_X1_hasOx x1 ox from inB_z (by omega)]
  by_cases c : S_X1_hasOx x1 ox = 0
  · rw [if_pos c, if_pos c]
  · rw [if_neg c, if_neg c]
    obtain ⟨f1, f2⟩ := hasOx_of c (by omega)
    rw [(l7 _ f2).1, (l7 _ f2).2.1]
theorem named_top {x1 x2 : Int32} (hL : JL br men ox yr fg wt ch ow op fg' wt' ch' ow' op') (h : JD N br men lv dy kn ov nb li al lv' dy' kn' ov' nb' li' al') : S_X7_named x1 x2 br men ov' nb' = S_X6_named x1 x2 br men ov nb := by
  obtain ⟨l1, l2, l3, l4, l5, l6, l7⟩ := id hL
  obtain ⟨e1, e2, h1, h2, h3, h4, h5⟩ := id h
  unfold S_X7_named S_X6_named
  rw [br_eq (by omega), man_eq (by omega)]
  by_cases c : S_X1_hasBridge x1 br = 0
  · rw [if_pos c, if_pos c]
  · rw [if_neg c, if_neg c]
    obtain ⟨f1, f2⟩ := hasBridge_of c (by omega)
    by_cases d : S_X1_hasMan x2 men = 0
    · rw [if_pos d, if_pos d]
    · rw [if_neg d, if_neg d]
      obtain ⟨g1, g2⟩ := hasMan_of d (by omega)
      rw [(h4 _ f2).1, (h5 _ _ f2 g2).1, has67 _ (by omega)]
      rfl
theorem mayName_z {x y : Int32} (hm : men ≤ 6) : S_X1_mayName x y men = 0 ↔ (S_X1_hasMan x men = 0 ∨ S_X7_isManOrNone y men = 0 ∨ nI x.toNatClampNeg = y) := by
  unfold S_X1_mayName S_X7_isManOrNone S_X1_arePair
  rw [man_eq (by omega)]
  by_cases c : y = -1
  · rw [if_pos c, if_pos c]
    constructor
    · exact fun z => Or.inl z
    · rintro (z | z | z)
      · exact z
      · exact absurd z (by decide)
      · have hx := Int32.toNatClampNeg_lt x
        have e := congrArg Int32.toInt (z.trans c)
        rw [nI_toInt hx] at e
        have e2 : (-1 : Int32).toInt = -1 := by decide
        omega
  · rw [if_neg c, if_neg c]
    by_cases d : S_X1_hasMan x men = 0
    · rw [if_pos d]; exact ⟨fun _ => Or.inl d, fun _ => rfl⟩
    · rw [if_neg d]
      by_cases f : S_X1_hasMan y men = 0
      · rw [if_pos f, if_pos f]; exact ⟨fun _ => Or.inr (Or.inl rfl), fun _ => rfl⟩
      · rw [if_neg f, if_neg f]
        obtain ⟨g1, g2⟩ := hasMan_of f (by omega)
        have hx := Int32.toNatClampNeg_lt x
        by_cases g : x.toNatClampNeg = y.toNatClampNeg
        · rw [if_pos g]; exact ⟨fun _ => Or.inr (Or.inr (by rw [g]; exact g1.symm)), fun _ => rfl⟩
        · rw [if_neg g]
          constructor
          · intro z; exact absurd z (by decide)
          · rintro (z | z | z)
            · exact absurd z d
            · exact absurd z (by decide)
            · rw [g1] at z
              exact absurd ((nI_eq hx (by omega)).mp z) g
theorem cross_top {x1 x2 x3 : Int32} (hL : JL br men ox yr fg wt ch ow op fg' wt' ch' ow' op') (h : JD N br men lv dy kn ov nb li al lv' dy' kn' ov' nb' li' al') {c0 c4 d0 d4 : Int32} {c1 c2 c3 d1 d2 d3 : Nat → Int32} (hc : S_X6_cross x1 x2 x3 yr br men lv dy ov li fg kn wt nb al = (c0, c1, c2, c3, c4)) (hd : S_X7_cross x1 x2 x3 yr br men lv' dy' ov' kn' wt' li' fg' al' nb' = (d0, d1, d2, d3, d4)) : d0 = c0 ∧ JD N br men c4 dy kn c1 c2 li c3 d4 dy' kn' d1 d2 li' d3 := by
  obtain ⟨l1, l2, l3, l4, l5, l6, l7⟩ := id hL
  obtain ⟨e1, e2, h1, h2, h3, h4, h5⟩ := id h
  unfold S_X6_cross at hc
  unfold S_X7_cross at hd
  rw [br_eq (by omega), man_eq (by omega)] at hd
  by_cases c : S_X1_hasBridge x1 br = 0
  · rw [if_pos c] at hc hd
    cases hc; cases hd
    exact ⟨rfl, h⟩
  rw [if_neg c] at hc hd
  obtain ⟨f1, f2⟩ := hasBridge_of c (by omega)
  have hz := mayName_z (x := x2) (y := x3) l2
  by_cases d : S_X1_mayName x2 x3 men = 0
  · rw [if_pos d] at hc
    have hd : ((-1000000001 : Int32), ov', nb', al', lv') = (d0, d1, d2, d3, d4) := by
      rcases hz.mp d with z | z | z
      · rw [if_pos z] at hd; exact hd
      · rcases ite_or hd with ⟨_, hd⟩ | ⟨_, hd⟩
        · exact hd
        · rw [if_pos z] at hd; exact hd
      · rcases ite_or hd with ⟨_, hd⟩ | ⟨_, hd⟩
        · exact hd
        · rcases ite_or hd with ⟨_, hd⟩ | ⟨_, hd⟩
          · exact hd
          · rw [if_pos z] at hd; exact hd
    cases hc; cases hd
    exact ⟨rfl, h⟩
  rw [if_neg d] at hc
  have hn : ¬ S_X1_hasMan x2 men = 0 ∧ ¬ S_X7_isManOrNone x3 men = 0 ∧ ¬ nI x2.toNatClampNeg = x3 := ⟨fun z => d (hz.mpr (Or.inl z)), fun z => d (hz.mpr (Or.inr (Or.inl z))), fun z => d (hz.mpr (Or.inr (Or.inr z)))⟩
  rw [if_neg hn.1, if_neg hn.2.1, if_neg hn.2.2] at hd
  obtain ⟨g1, g2⟩ := hasMan_of hn.1 (by omega)
  have hN := isManOrNone_of hn.2.1 (by omega)
  have hcan : S_X7_canCross x1.toNatClampNeg x2.toNatClampNeg x3 lv' ov' kn' = 0 ↔ (bq (S_X0_toCome x1.toNatClampNeg lv ov) x2.toNatClampNeg = false ∨ (¬ x3 = -1 ∧ S_X6_has (kn x2.toNatClampNeg) x3 = 0)) := by
    unfold S_X7_canCross
    rw [e1, (h4 _ f2).1, (h3 _ g2).1, coming_b (by omega)]
    by_cases q : bq lv x2.toNatClampNeg = false
    · rw [if_pos ((hz7 (by omega)).mpr q), q, Bool.false_and]; exact ⟨fun _ => Or.inl rfl, fun _ => rfl⟩
    · rw [if_neg (fun z => q ((hz7 (by omega)).mp z)), tf.mpr q, Bool.true_and]
      by_cases r : bq (ov x1.toNatClampNeg) x2.toNatClampNeg = false
      · rw [if_pos ((hz7 (by omega)).mpr r), r]
        by_cases t : x3 = -1
        · rw [if_pos t]; exact ⟨fun z => absurd z (by decide), fun z => by rcases z with z | z; exact absurd z (by decide); exact absurd t z.1⟩
        · rw [if_neg t]
          obtain ⟨k1, k2⟩ := hN.pos t
          have hk : S_X7_has (kn x2.toNatClampNeg) x3 = S_X6_has (kn x2.toNatClampNeg) x3 := by
            rw [k1]; exact (has67 _ (by omega)).symm
          rw [hk]
          by_cases s : S_X6_has (kn x2.toNatClampNeg) x3 = 0
          · rw [if_pos s]; exact ⟨fun _ => Or.inr ⟨t, s⟩, fun _ => rfl⟩
          · rw [if_neg s]; exact ⟨fun z => absurd z (by decide), fun z => by rcases z with z | z; exact absurd z (by decide); exact absurd z.2 s⟩
      · rw [if_neg (fun z => r ((hz7 (by omega)).mp z)), tf.mpr r]; exact ⟨fun _ => Or.inl rfl, fun _ => rfl⟩
  by_cases q : bq (S_X0_toCome x1.toNatClampNeg lv ov) x2.toNatClampNeg = false
  · rw [if_pos ((hz6 (by omega)).mpr q)] at hc
    rw [if_pos (hcan.mpr (Or.inl q))] at hd
    cases hc; cases hd
    exact ⟨rfl, h⟩
  rw [if_neg (fun z => q ((hz6 (by omega)).mp z))] at hc
  by_cases t : x3 = -1
  · rw [if_pos t] at hc
    rw [if_neg (fun z => by rcases hcan.mp z with z | z; exact q z; exact z.1 t)] at hd
    generalize hg : S_X0_go x1.toNatClampNeg x2.toNatClampNeg x3 lv dy li yr men fg kn wt ov nb al = g at hc
    generalize hg2 : S_X7_crossNow x1.toNatClampNeg x2.toNatClampNeg x3 yr men lv' dy' wt' ov' li' fg' al' nb' = g2 at hd
    obtain ⟨y0, y1, y2, y3, y4⟩ := g
    obtain ⟨z0, z1, z2, z3, z4⟩ := g2
    have hj := go_eq hL h f2 g2 (Or.inl t) hg hg2
    have hc : (y0, y1, y2, y3, y4) = (c0, c1, c2, c3, c4) := hc
    have hd : (z0, z1, z2, z3, z4) = (d0, d1, d2, d3, d4) := hd
    cases hc; cases hd
    exact hj
  · rw [if_neg t] at hc
    by_cases s : S_X6_has (kn x2.toNatClampNeg) x3 = 0
    · rw [if_pos s] at hc
      rw [if_pos (hcan.mpr (Or.inr ⟨t, s⟩))] at hd
      cases hc; cases hd
      exact ⟨rfl, h⟩
    · rw [if_neg s] at hc
      rw [if_neg (fun z => by rcases hcan.mp z with z | z; exact q z; exact s z.2)] at hd
      obtain ⟨k1, k2⟩ := hN.pos t
      have hk : bq (kn x2.toNatClampNeg) x3.toNatClampNeg = true := tf.mpr (fun z => s (by rw [k1]; exact (hz6 (by omega)).mpr z))
      generalize hg : S_X0_go x1.toNatClampNeg x2.toNatClampNeg x3 lv dy li yr men fg kn wt ov nb al = g at hc
      generalize hg2 : S_X7_crossNow x1.toNatClampNeg x2.toNatClampNeg x3 yr men lv' dy' wt' ov' li' fg' al' nb' = g2 at hd
      obtain ⟨y0, y1, y2, y3, y4⟩ := g
      obtain ⟨z0, z1, z2, z3, z4⟩ := g2
      have hj := go_eq hL h f2 g2 (Or.inr ⟨_, k2, k1, hk⟩) hg hg2
      have hc : (y0, y1, y2, y3, y4) = (c0, c1, c2, c3, c4) := hc
      have hd : (z0, z1, z2, z3, z4) = (d0, d1, d2, d3, d4) := hd
      cases hc; cases hd
      exact hj
theorem know_top {x1 x2 x3 : Int32} (hL : JL br men ox yr fg wt ch ow op fg' wt' ch' ow' op') (h : JD N br men lv dy kn ov nb li al lv' dy' kn' ov' nb' li' al') {c0 d0 : Int32} {c1 d1 : Nat → Int32} (hc : S_X6_know x1 x2 x3 men kn = (c0, c1)) (hd : S_X7_know x1 x2 x3 men kn' = (d0, d1)) : d0 = c0 ∧ JD N br men lv dy c1 ov nb li al lv' dy' d1 ov' nb' li' al' := by
  obtain ⟨l1, l2, l3, l4, l5, l6, l7⟩ := id hL
  obtain ⟨e1, e2, h1, h2, h3, h4, h5⟩ := id h
  unfold S_X6_know S_X1_arePair at hc
  unfold S_X7_know at hd
  rw [man_eq (by omega), man_eq (by omega)] at hd
  by_cases c : S_X1_hasMan x1 men = 0
  · rw [if_pos c] at hd
    rw [if_pos c, if_pos rfl] at hc
    cases hc; cases hd
    exact ⟨rfl, h⟩
  rw [if_neg c] at hc hd
  obtain ⟨f1, f2⟩ := hasMan_of c (by omega)
  by_cases d : S_X1_hasMan x2 men = 0
  · rw [if_pos d] at hd
    rw [if_pos d, if_pos rfl] at hc
    cases hc; cases hd
    exact ⟨rfl, h⟩
  rw [if_neg d] at hc hd
  obtain ⟨g1, g2⟩ := hasMan_of d (by omega)
  by_cases e : x1.toNatClampNeg = x2.toNatClampNeg
  · rw [if_pos e] at hd
    rw [if_pos e, if_pos rfl] at hc
    cases hc; cases hd
    exact ⟨rfl, h⟩
  rw [if_neg e] at hd
  rw [if_neg e, if_neg (show ¬ (1 : Int32) = 0 by decide)] at hc
  have upk : ∀ (a b : Int32), b = a → SBn men a → JD N br men lv dy (upd kn x1.toNatClampNeg a) ov nb li al lv' dy' (upd kn' x1.toNatClampNeg b) ov' nb' li' al' := fun a b hb hs => by
    refine ⟨e1, e2, h1, h2, fun t ht => ?_, h4, h5⟩
    by_cases q : t = x1.toNatClampNeg
    · subst q
      rw [pk_us, pk_us]
      exact ⟨hb, hs⟩
    · rw [pk_un q, pk_un q]
      exact h3 t ht
  have hk := (h3 _ f2).1
  have hs := (h3 _ f2).2
  rw [hk, shr1 _ (by omega)] at hd
  rw [has6 _ (by omega)] at hc
  have u1 := upk ((kn x1.toNatClampNeg) &&& ((S_X6_bit (nI x2.toNatClampNeg)) ^^^ (-1 : Int32))) ((kn x1.toNatClampNeg) &&& (((1 : Int32) <<< ((nI x2.toNatClampNeg) &&& 31)) ^^^ (-1 : Int32))) rfl hs.and
  have u2 := upk ((kn x1.toNatClampNeg) ||| (S_X6_bit (nI x2.toNatClampNeg))) ((kn x1.toNatClampNeg) ||| ((1 : Int32) <<< ((nI x2.toNatClampNeg) &&& 31))) rfl (hs.or (SBn.bit g2 (by omega)))
  by_cases q : bq (kn x1.toNatClampNeg) x2.toNatClampNeg = true
  · rw [if_pos q, if_neg (show ¬ (1 : Int32) = 0 by decide)] at hc
    rw [if_pos q] at hd
    by_cases r : x3 = 0
    · rw [if_pos r] at hc hd
      cases hc; cases hd
      exact ⟨rfl, u1⟩
    · rw [if_neg r] at hc hd
      cases hc; cases hd
      exact ⟨rfl, u2⟩
  · rw [if_neg q, if_pos rfl] at hc
    rw [if_neg q] at hd
    by_cases r : x3 = 0
    · rw [if_pos r] at hc hd
      cases hc; cases hd
      exact ⟨rfl, u1⟩
    · rw [if_neg r] at hc hd
      cases hc; cases hd
      exact ⟨rfl, u2⟩
end TOPS
