/-! class and reference: hired -/
theorem in01 {x : Int32} : S_X7_in x.toInt64 (0 : Int64) (1 : Int64) = 0 ↔ ¬ (x = 0 ∨ x = 1) := by
  rw [show (0 : Int64) = (0 : Int32).toInt64 from by decide, show (1 : Int64) = (1 : Int32).toInt64 from by decide, in_gen]
  by_cases a : x < 0
  · rw [if_pos a]
    refine ⟨fun _ z => ?_, fun _ => rfl⟩
    rcases z with z | z <;> (rw [z] at a; exact absurd a (by decide))
  · rw [if_neg a]
    by_cases c : 1 < x
    · rw [if_pos c]
      refine ⟨fun _ z => ?_, fun _ => rfl⟩
      rcases z with z | z <;> (rw [z] at c; exact absurd c (by decide))
    · rw [if_neg c]
      refine ⟨fun z => absurd z (by decide), fun z => absurd ?_ z⟩
      obtain ⟨j, hj, rfl⟩ := nI_of a
      have : j ≤ 1 := (nI_leI (b := 1) hj (by decide)).mp (Int32.not_lt.mp c)
      rcases (show j = 0 ∨ j = 1 by omega) with rfl | rfl
      · exact Or.inl rfl
      · exact Or.inr rfl
theorem iterE_01 {n : Nat} {b : Nat → Unit → Unit ⊕ Int32} {P : Nat → Prop} (h1 : ∀ k, k < n → P k → b k () = .inr 0) (h2 : ∀ k, k < n → ¬ P k → b k () = .inl ()) : outE (fun _ => (1 : Int32)) (iterE b n 0 ()) = 0 ↔ ∃ k, k < n ∧ P k := by
  by_cases q : ∃ t, t < n ∧ P t
  · obtain ⟨t, ⟨a, c⟩, d⟩ := pk_least (fun t => t < n ∧ P t) q
    have hr := iterE_first (b := b) (t := t) (r := 0) (f := fun _ => (1 : Int32)) (fun j hj => h2 j (by omega) (fun z => d j hj ⟨by omega, z⟩)) (h1 t a c) n 0 (Nat.zero_le t) (by omega)
    exact ⟨fun _ => q, fun _ => hr⟩
  · have hr := iterE_none (b := b) (f := fun _ => (1 : Int32)) n 0 (fun j _ hj => h2 j (by omega) (fun z => q ⟨j, by omega, z⟩))
    exact ⟨fun z => absurd (hr.symm.trans z) (by decide), fun z => absurd z q⟩
section HIRED
variable {N br men ox b : Nat} {yr : Int32} {fg wt ch ow op fg' wt' ch' ow' op' : Nat → Int32} {lv dy lv' dy' : Int32} {kn ov nb li al kn' ov' nb' li' al' : Nat → Int32} {aa ao tr : Int32} {hp : Nat → Int32}
theorem price_eq {s : Int32} (hL : JL br men ox yr fg wt ch ow op fg' wt' ch' ow' op') {k : Nat} (hs : s = nI k) : iter (fun j a => B_X7_hired_51 k op' j a) ox 0 0 = S_X1_priceOf s ox op := by
  obtain ⟨l1, l2, l3, l4, l5, l6, l7⟩ := hL
  subst hs
  show _ = iter (fun j a => B_X1_priceOf_4 (nI k) op j a) ox 0 0
  refine iter_eq (fun j a hj => ?_)
  show B_X7_hired_51 k op' j a = B_X1_priceOf_4 (nI k) op j a
  unfold B_X7_hired_51 B_X1_priceOf_4
  rw [has67 _ (by omega), (l7 j hj).2.1, Int32.add_zero]
theorem price_rg {s : Int32} (hL : JL br men ox yr fg wt ch ow op fg' wt' ch' ow' op') : ∃ m, m ≤ 4995 ∧ S_X1_priceOf s ox op = nI m := by
  obtain ⟨l1, l2, l3, l4, l5, l6, l7⟩ := hL
  have key : ∀ n, n ≤ ox → ∃ m, m ≤ 999 * n ∧ iter (fun j a => B_X1_priceOf_4 s op j a) n 0 0 = nI m := by
    intro n
    induction n with
    | zero => intro _; exact ⟨0, by omega, rfl⟩
    | succ n ih =>
      intro hn
      obtain ⟨m, h1, h2⟩ := ih (by omega)
      rw [iter_last, h2]
      obtain ⟨q, q1, q2⟩ := (l7 n (by omega)).2.2
      unfold B_X1_priceOf_4
      by_cases c : S_X6_has s (nI n) = 0
      · rw [if_pos c]; exact ⟨m, by omega, rfl⟩
      · rw [if_neg c, q2, nI_add]; exact ⟨m + q, by omega, rfl⟩
  obtain ⟨m, h1, h2⟩ := key ox (Nat.le_refl ox)
  exact ⟨m, by omega, h2⟩
theorem over_eq {s : Int32} (h : CP2 b br men ox N yr lv dy fg wt ch ow op fg' wt' ch' ow' op' kn ov nb li al kn' ov' nb' li' al' aa ao tr hp) : S_X7_areOver b s yr men ox lv dy ov' ow' wt' al' kn' li' fg' = 0 ↔ S_X5_allPassBefore s men ox ow aa ao tr hp wt = 0 := by
  obtain ⟨⟨l1, l2, l3, l4, l5, l6, l7⟩, ⟨e1, e2, h1, h2, h3, h4, h5⟩, hb, t1, t2, t3, t4⟩ := id h
  have hh : iter (fun j a => B_X7_areOver_12 s ow' j a) ox 0 0 = S_X1_heaviestOx s ox ow := by
    show _ = iter (fun j a => B_X1_heaviestOx_4 s ow j a) ox 0 0
    refine iter_eq (fun j a hj => ?_)
    show B_X7_areOver_12 s ow' j a = B_X1_heaviestOx_4 s ow j a
    unfold B_X7_areOver_12 B_X1_heaviestOx_4
    rw [has67 _ (by omega), (l7 j hj).1]
    by_cases c : S_X7_has s (nI j) = 0
    · rw [if_pos c, if_pos c]
    · rw [if_neg c, if_neg c]
      by_cases d : a < ow j
      · rw [if_pos d, if_neg (fun z => Int32.not_le.mpr d z)]
      · rw [if_neg d, if_pos (Int32.not_lt.mp d)]
  show iter (fun k a => B_X7_areOver_68 b yr men lv dy ov' (iter (fun j a => B_X7_areOver_12 s ow' j a) ox 0 0) wt' al' kn' li' fg' k a) men 0 1 = 0 ↔ outE (fun _ => (1 : Int32)) (iterE (fun k _ => B_X5_allPassBefore_11 s ox ow aa ao tr hp wt k) men 0 ()) = 0
  rw [hh]
  have hR : ∀ k, k < men → S_X7_isRemembered b k li' fg' dy = S_X0_isRemembered b k dy li fg := fun k hk => rem_eq (h5 b k hb hk).2.2.1 (l5 b hb) (h5 b k hb hk).2.2.2.1
  have hT : ∀ k, k < men → bq aa k = true → (S_X6_has tr (nI k) = 0 ↔ ¬ S_X0_isRemembered b k dy li fg = 0) := fun k hk ha => by
    rw [hz6 (by omega)]
    constructor
    · exact fun z y => by rw [(t3 k).mpr ⟨hk, ha, y⟩] at z; cases z
    · exact fun z => Bool.eq_false_iff.mpr (fun y => z ((t3 k).mp y).2.2)
  rw [iterE_01 (b := fun k _ => B_X5_allPassBefore_11 s ox ow aa ao tr hp wt k) (P := fun k => bq aa k = true ∧ (S_X5_passes k aa ao hp) = 0 ∧ ¬ (wt k < S_X1_heaviestOx s ox ow ∧ S_X0_isRemembered b k dy li fg = 0)) (fun k hk hp2 => by
    obtain ⟨p1, p2, p3⟩ := hp2
    show B_X5_allPassBefore_11 s ox ow aa ao tr hp wt k = _
    unfold B_X5_allPassBefore_11
    have ha : ¬ S_X6_has aa (nI k) = 0 := fun z => by rw [(hz6 (by omega)).mp z] at p1; cases p1
    by_cases c : S_X6_has tr (nI k) = 0
    · rw [if_pos c, if_neg ha, if_pos p2]
    · have hr : S_X0_isRemembered b k dy li fg = 0 := Classical.byContradiction (fun z => c ((hT k hk p1).mpr z))
      rw [if_neg c, if_pos (Int32.not_lt.mp (fun z => p3 ⟨z, hr⟩)), if_neg ha, if_pos p2]) (fun k hk hp2 => by
    show B_X5_allPassBefore_11 s ox ow aa ao tr hp wt k = _
    unfold B_X5_allPassBefore_11
    by_cases a : S_X6_has aa (nI k) = 0
    · rw [if_pos a, if_pos a]
      split
      · rfl
      · split <;> rfl
    · have ha : bq aa k = true := tf.mpr (fun y => a ((hz6 (by omega)).mpr y))
      rw [if_neg a, if_neg a]
      by_cases p : (S_X5_passes k aa ao hp) = 0
      · rw [if_pos p]
        have hby : wt k < S_X1_heaviestOx s ox ow ∧ S_X0_isRemembered b k dy li fg = 0 := Classical.byContradiction (fun z => hp2 ⟨ha, p, z⟩)
        rw [if_neg (fun z => (hT k hk ha).mp z hby.2), if_neg (Int32.not_le.mpr hby.1)]
      · rw [if_neg p]
        split
        · rfl
        · split <;> rfl)]
  rcases iter_all (n := men) (f := fun k a => B_X7_areOver_68 b yr men lv dy ov' (S_X1_heaviestOx s ox ow) wt' al' kn' li' fg' k a) (fun k => ¬ (bq aa k = true ∧ (S_X5_passes k aa ao hp) = 0 ∧ ¬ (wt k < S_X1_heaviestOx s ox ow ∧ S_X0_isRemembered b k dy li fg = 0))) (fun k hk => by
    show B_X7_areOver_68 b yr men lv dy ov' (S_X1_heaviestOx s ox ow) wt' al' kn' li' fg' k 0 = 0
    unfold B_X7_areOver_68
    rw [if_pos rfl, if_pos rfl]
    split
    · rfl
    · split <;> rfl) (fun k hk hp2 => by
    show B_X7_areOver_68 b yr men lv dy ov' (S_X1_heaviestOx s ox ow) wt' al' kn' li' fg' k 1 = 1
    unfold B_X7_areOver_68
    rw [all_eq h, (l6 k hk).1, hR k hk]
    by_cases a : S_X7_has aa (nI k) = 0
    · simp only [a, if_true, show ¬ (1 : Int32) = 0 by decide, if_false]
      split
      · rfl
      · split <;> rfl
    · have ha : bq aa k = true := tf.mpr (fun y => a ((hz7 (by omega)).mpr y))
      rw [sup_eq h hk ha]
      by_cases p : (S_X5_passes k aa ao hp) = 0
      · have hby : wt k < S_X1_heaviestOx s ox ow ∧ S_X0_isRemembered b k dy li fg = 0 := Classical.byContradiction (fun z => hp2 ⟨ha, p, z⟩)
        rw [if_neg (Int32.not_le.mpr hby.1), if_pos hby.2, if_neg (by decide)]
        split <;> rfl
      · simp only [a, p, show ¬ (1 : Int32) = 0 by decide, if_false]
        split
        · rfl
        · split <;> rfl) (fun k hk hp2 => by
    show B_X7_areOver_68 b yr men lv dy ov' (S_X1_heaviestOx s ox ow) wt' al' kn' li' fg' k 1 = 0
    unfold B_X7_areOver_68
    obtain ⟨p1, p2, p3⟩ := Classical.not_not.mp hp2
    have ha : ¬ S_X7_has aa (nI k) = 0 := fun z => by rw [(hz7 (by omega)).mp z] at p1; cases p1
    rw [all_eq h, (l6 k hk).1, hR k hk, sup_eq h hk p1]
    by_cases c : S_X1_heaviestOx s ox ow ≤ wt k
    · rw [if_pos c, if_neg (by decide), if_neg ha, if_pos p2]
    · rw [if_neg c]
      have hr : ¬ S_X0_isRemembered b k dy li fg = 0 := fun z => p3 ⟨Int32.not_le.mp c, z⟩
      rw [if_neg hr, if_neg (by decide), if_neg ha, if_pos p2]) (a := 1) (Or.inr rfl) with ⟨x, _, y⟩ | ⟨x, y⟩
  · rw [x]
    exact ⟨fun z => absurd z (by decide), fun ⟨k, k1, k2⟩ => absurd k2 (y k k1)⟩
  · rw [x]
    refine ⟨fun _ => ?_, fun _ => rfl⟩
    exact Classical.byContradiction (fun q => y ⟨rfl, fun k hk z => q ⟨k, hk, z⟩⟩)
theorem hired_top {x1 x2 : Int32} {ta to tt : Int32} {th : Nat → Int32} (hL : JL br men ox yr fg wt ch ow op fg' wt' ch' ow' op') (hJ : JD N br men lv dy kn ov nb li al lv' dy' kn' ov' nb' li' al') {c0 c1 c2 c3 : Int32} {c4 : Nat → Int32} (hc : S_X6_hired x1 x2 yr br men ox ta to tt lv dy ov li fg kn wt th al ow op = (c0, c1, c2, c3, c4)) : S_X7_hired x1 x2 yr br men ox lv' dy' op' ov' ow' wt' al' kn' li' fg' = c0 := by
  have hm : men ≤ 6 := hL.2.1
  have e1 := hJ.1
  have e2 := hJ.2.1
  subst e1
  subst e2
  unfold S_X6_hired at hc
  unfold S_X7_hired
  rw [br_eq (by have := hL.1; omega)]
  by_cases c : S_X1_hasBridge x1 br = 0
  · rw [if_pos c] at hc ⊢
    cases hc; rfl
  rw [if_neg c] at hc ⊢
  obtain ⟨f1, f2⟩ := hasBridge_of c (by have := hL.1; omega)
  by_cases q : x2 = 0 ∨ x2 = 1
  · rw [if_neg (fun z => in01.mp z q)]
    generalize hu : S_X5_cheapestOxen x1.toNatClampNeg lv' dy' ov yr men ox li fg kn wt th al ow op = u at hc
    obtain ⟨u0, u1, u2, u3, u4⟩ := u
    replace hc : K_X6_hired_31 x2 ox op u0 u1 u2 u3 u4 = (c0, c1, c2, c3, c4) := by
      rcases q with q | q
      · rw [if_pos q] at hc; exact hc
      · rw [if_neg (by rw [q]; decide), if_pos q] at hc; exact hc
    unfold S_X5_cheapestOxen at hu
    generalize hlk : S_X5_lookAt x1.toNatClampNeg lv' dy' ov men li yr fg kn wt th al = w at hu
    obtain ⟨w0, w1, w2, w3⟩ := w
    have hT := look_ok hm hlk
    have hC : CP2 x1.toNatClampNeg br men ox N yr lv' dy' fg wt ch ow op fg' wt' ch' ow' op' kn ov nb li al kn' ov' nb' li' al' w0 w1 w2 w3 := ⟨hL, hJ, f2, hT⟩
    replace hu : (iter (fun k a => B_X5_cheapestOxen_9 men ox wt w0 w1 w2 w3 ow op k a) (2 ^ ox) 0 (-1 : Int32), w0, w1, w2, w3) = (u0, u1, u2, u3, u4) := hu
    have hu0 : iter (fun k a => B_X5_cheapestOxen_9 men ox wt w0 w1 w2 w3 ow op k a) (2 ^ ox) 0 (-1 : Int32) = u0 := congrArg Prod.fst hu
    have hp5 : 2 ^ ox ≤ 32 := p2_le5 hL.2.2.1
    have key := iter_rel (N := 2 ^ ox) (f := fun k a => B_X5_cheapestOxen_9 men ox wt w0 w1 w2 w3 ow op k a) (g := fun k (a : Int32 × Int32) => B_X7_hired_34 x1 yr men ox lv' dy' op' ov' ow' wt' al' kn' li' fg' k a.1 a.2) (fun k v q => q.2 = v ∧ ((v = -1 ∧ q.1 = 1000000) ∨ ∃ j, j < 32 ∧ v = nI j ∧ q.1 = S_X1_priceOf v ox op)) (fun k v q hk hp2 => by
      obtain ⟨q1, q2⟩ := q
      obtain ⟨p1, p2⟩ := hp2
      have p1 : q2 = v := p1
      subst p1
      show (fun (v : Int32) (q : Int32 × Int32) => q.2 = v ∧ ((v = -1 ∧ q.1 = 1000000) ∨ ∃ j, j < 32 ∧ v = nI j ∧ q.1 = S_X1_priceOf v ox op)) (B_X5_cheapestOxen_9 men ox wt w0 w1 w2 w3 ow op k q2) (K_X7_hired_51 x1 yr men ox lv' dy' k ov' ow' wt' al' kn' li' fg' q1 q2 (iter (fun j a => B_X7_hired_51 k op' j a) ox 0 0))
      rw [price_eq (s := nI k) hL rfl]
      unfold B_X5_cheapestOxen_9 K_X7_hired_51
      have ho := over_eq (s := nI k) hC
      have hn : ∃ j, j < 32 ∧ (nI k) = nI j ∧ S_X1_priceOf (nI k) ox op = S_X1_priceOf (nI k) ox op := ⟨k, by omega, rfl, rfl⟩
      have p2 : (q2 = -1 ∧ q1 = 1000000) ∨ ∃ j, j < 32 ∧ q2 = nI j ∧ q1 = S_X1_priceOf q2 ox op := p2
      rcases p2 with ⟨a, y⟩ | ⟨j, a, y, z⟩
      · obtain ⟨m, m1, m2⟩ := price_rg (s := nI k) hL
        have hlt : ¬ q1 ≤ S_X1_priceOf (nI k) ox op := by
          rw [y, m2]
          intro z
          have := (nI_leI (a := 1000000) (b := m) (by decide) (by omega)).mp z
          omega
        rw [if_pos a, if_neg hlt]
        by_cases d : S_X5_allPassBefore (nI k) men ox ow w0 w1 w2 w3 wt = 0
        · rw [if_pos d, if_pos (ho.mpr d)]; exact ⟨rfl, Or.inl ⟨a, y⟩⟩
        · rw [if_neg d, if_neg (fun z => d (ho.mp z))]; exact ⟨rfl, Or.inr hn⟩
      · have hne : ¬ q2 = -1 := by rw [y]; exact nI_nm1 (by omega)
        rw [if_neg hne, z]
        by_cases e : S_X1_priceOf q2 ox op ≤ S_X1_priceOf (nI k) ox op
        · rw [if_pos e, if_pos e]; exact ⟨rfl, Or.inr ⟨j, a, y, rfl⟩⟩
        · rw [if_neg e, if_neg e]
          by_cases d : S_X5_allPassBefore (nI k) men ox ow w0 w1 w2 w3 wt = 0
          · rw [if_pos d, if_pos (ho.mpr d)]; exact ⟨rfl, Or.inr ⟨j, a, y, rfl⟩⟩
          · rw [if_neg d, if_neg (fun z => d (ho.mp z))]; exact ⟨rfl, Or.inr hn⟩) (2 ^ ox) 0 (-1) ((1000000 : Int32), (-1 : Int32)) (by omega) ⟨rfl, Or.inl ⟨rfl, rfl⟩⟩
    rw [hu0] at key
    show K_X7_hired_34 x2 (iter (fun k (a : Int32 × Int32) => B_X7_hired_34 x1 yr men ox lv' dy' op' ov' ow' wt' al' kn' li' fg' k a.1 a.2) (2 ^ ox) 0 ((1000000 : Int32), (-1 : Int32))).1 (iter (fun k (a : Int32 × Int32) => B_X7_hired_34 x1 yr men ox lv' dy' op' ov' ow' wt' al' kn' li' fg' k a.1 a.2) (2 ^ ox) 0 ((1000000 : Int32), (-1 : Int32))).2 = c0
    generalize iter (fun k (a : Int32 × Int32) => B_X7_hired_34 x1 yr men ox lv' dy' op' ov' ow' wt' al' kn' li' fg' k a.1 a.2) (2 ^ ox) 0 ((1000000 : Int32), (-1 : Int32)) = r at key ⊢
    obtain ⟨r1, r2⟩ := r
    obtain ⟨k1, k2⟩ := key
    have k1 : r2 = u0 := k1
    subst k1
    have k2 : (r2 = -1 ∧ r1 = 1000000) ∨ ∃ j, j < 32 ∧ r2 = nI j ∧ r1 = S_X1_priceOf r2 ox op := k2
    show K_X7_hired_34 x2 r1 r2 = c0
    unfold K_X7_hired_34
    unfold K_X6_hired_31 at hc
    rcases k2 with ⟨a, y⟩ | ⟨j, a, y, z⟩
    · rw [if_pos (show r2 < 0 by rw [a]; decide)]
      rcases ite_or hc with ⟨_, hc⟩ | ⟨_, hc⟩
      · exact congrArg Prod.fst hc
      · rw [if_pos a] at hc
        exact congrArg Prod.fst hc
    · rw [if_neg (show ¬ r2 < 0 by rw [y]; exact nI_pos (by omega))]
      by_cases e : x2 = 1
      · rw [if_pos e] at hc ⊢
        exact congrArg Prod.fst hc
      · rw [if_neg e] at hc ⊢
        rw [if_neg (show ¬ r2 = -1 by rw [y]; exact nI_nm1 (by omega))] at hc
        rw [z]
        exact congrArg Prod.fst hc
  · rw [if_pos (in01.mpr q)]
    rw [if_neg (fun z => q (Or.inl z)), if_neg (fun z => q (Or.inr z))] at hc
    cases hc; rfl
end HIRED
