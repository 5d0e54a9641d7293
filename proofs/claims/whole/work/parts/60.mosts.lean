/-! class and reference: most, names, tellings, hired -/
theorem iterE_fo {n : Nat} {b : Nat → Unit → Unit ⊕ Int32} {P : Nat → Prop} (h1 : ∀ k, k < n → P k → b k () = .inr (nI k)) (h2 : ∀ k, k < n → ¬ P k → b k () = .inl ()) : FirstOf n P (outE (fun _ => (-1 : Int32)) (iterE b n 0 ())) := by
  by_cases q : ∃ t, t < n ∧ P t
  · obtain ⟨t, ⟨a, c⟩, d⟩ := pk_least (fun t => t < n ∧ P t) q
    have hr := iterE_first (b := b) (t := t) (r := nI t) (f := fun _ => (-1 : Int32)) (fun j hj => h2 j (by omega) (fun z => d j hj ⟨by omega, z⟩)) (h1 t a c) n 0 (Nat.zero_le t) (by omega)
    exact Or.inr ⟨t, a, hr, c, fun j hj z => d j hj ⟨by omega, z⟩⟩
  · have hr := iterE_none (b := b) (f := fun _ => (-1 : Int32)) n 0 (fun j _ hj => h2 j (by omega) (fun z => q ⟨j, by omega, z⟩))
    exact Or.inl ⟨hr, fun i hi z => q ⟨i, hi, z⟩⟩
theorem NameOK.eq {men : Nat} {A : Prop} {hpt : Int32} {S : Nat → Prop} {r s : Int32} (h1 : NameOK men A hpt S r) (h2 : NameOK men A hpt S s) : r = s := by
  rcases h1 with ⟨a, b⟩ | ⟨a, b⟩ <;> rcases h2 with ⟨c, d⟩ | ⟨c, d⟩
  · rw [b, d]
  · exact absurd a c
  · exact absurd c a
  · exact b.eq d
theorem iterE_two {α ρ σ : Type} {f : Nat → α → α ⊕ ρ} {g : Nat → α → α ⊕ σ} {N : Nat} (R : ρ → σ → Prop) (h : ∀ k a, k < N → (∃ a', f k a = .inl a' ∧ g k a = .inl a') ∨ ∃ r s, f k a = .inr r ∧ g k a = .inr s ∧ R r s) : ∀ n k a, k + n = N → (∃ a', iterE f n k a = .inl a' ∧ iterE g n k a = .inl a') ∨ ∃ r s, iterE f n k a = .inr r ∧ iterE g n k a = .inr s ∧ R r s := by
  intro n
  induction n with
  | zero => intro k a _; exact Or.inl ⟨a, rfl, rfl⟩
  | succ n ih =>
    intro k a hk
    have e1 : iterE f (n + 1) k a = stepE (iterE f n (k + 1)) (f k a) := rfl
    have e2 : iterE g (n + 1) k a = stepE (iterE g n (k + 1)) (g k a) := rfl
    rw [e1, e2]
    rcases h k a (by omega) with ⟨a', x, y⟩ | ⟨r, s, x, y, z⟩
    · rw [x, y]; exact ih (k + 1) a' (by omega)
    · rw [x, y]; exact Or.inr ⟨r, s, rfl, rfl, z⟩
section MOSTS
variable {N br men ox b : Nat} {yr : Int32} {fg wt ch ow op fg' wt' ch' ow' op' : Nat → Int32} {lv dy lv' dy' : Int32} {kn ov nb li al kn' ov' nb' li' al' : Nat → Int32} {aa ao tr : Int32} {hp : Nat → Int32}
theorem line_top {h0 l0 order names : Nat → Int32} (hL : JL br men ox yr fg wt ch ow op fg' wt' ch' ow' op') (hJ : JD N br men lv dy kn ov nb li al lv dy kn' ov' nb' li' al') (hb : b < br) {c d : Nat} {line o1 n1 : Nat → Int32} (hc : S_X5_lineUp b lv dy ov yr men li fg kn wt h0 al l0 = (c, aa, ao, tr, hp, d, line)) {r : Nat} (hd : S_X7_findRow b yr men lv dy ov' al' wt' kn' li' fg' order names = (r, o1, n1)) : (CP2 b br men ox N yr lv dy fg wt ch ow op fg' wt' ch' ow' op' kn ov nb li al kn' ov' nb' li' al' aa ao tr hp) ∧ r = c ∧ d = c ∧ c ≤ 6 ∧ ∀ i, i < c → RN men (line i) ∧ bq aa (line i).toNatClampNeg = true ∧ o1 i = line i ∧ NameOK men (¬ (S_X0_goesAlone b ((line i).toNatClampNeg) wt yr men lv dy al) = 0) (hp (line i).toNatClampNeg) (fun u => ∃ q, i < q ∧ q < c ∧ line q = nI u) (n1 i) := by
  have hm : men ≤ 6 := hL.2.1
  unfold S_X5_lineUp at hc
  generalize hlk : S_X5_lookAt b lv dy ov men li yr fg kn wt h0 al = u at hc
  obtain ⟨u0, u1, u2, u3⟩ := u
  have hT := look_ok hm hlk
  have hC : CP2 b br men ox N yr lv dy fg wt ch ow op fg' wt' ch' ow' op' kn ov nb li al kn' ov' nb' li' al' u0 u1 u2 u3 := ⟨hL, hJ, hb, hT⟩
  replace hc : outB (fun (a : Int32 × Nat × (Nat → Int32)) => K_X5_lineUp_17 u0 u1 u2 u3 a.1 a.2.1 a.2.2) (iterE (fun k (a : Int32 × Nat × (Nat → Int32)) => B_X5_lineUp_17 men u1 u3 k a.1 a.2.1 a.2.2) 6 0 ((S_X5_mostSet u0 u1 men u3), 0, l0)) = (c, aa, ao, tr, hp, d, line) := hc
  unfold S_X7_findRow at hd
  rw [mostOf_eq hC] at hd
  have hin := most_in (ao := u1) (hp := u3) hm (all_sb hC) 6 0
  have hfx := most_fix (ao := u1) (hp := u3) hm (all_sb hC) 6 0 sz6_le
  have hin : SBn men (S_X5_mostSet u0 u1 men u3) ∧ ∀ j, bq (S_X5_mostSet u0 u1 men u3) j = true → bq u0 j = true := hin
  have hfx : S_X5_passing (S_X5_mostSet u0 u1 men u3) men u1 u3 = S_X5_mostSet u0 u1 men u3 := hfx
  obtain ⟨l2, c', line', l3, order', names', i1, i2, i3, i4, i5, i6, i7⟩ := rows_rel hC 6 (S_X5_mostSet u0 u1 men u3) 0 l0 order names 6 65 sz6_le (by omega) (by omega) hin.1 hin.2 hfx (by omega)
  replace hc : (c', u0, u1, u2, u3, c', line') = (c, aa, ao, tr, hp, d, line) := by
    rcases i1 with z | z
    · rw [z] at hc; exact hc
    · rw [z] at hc; exact hc
  replace hd : (c', order', names') = (r, o1, n1) := by
    rcases i2 with z | z
    · rw [z] at hd; exact hd
    · rw [z] at hd; exact hd
  cases hc
  cases hd
  refine ⟨hC, rfl, rfl, i4, fun i hi => ?_⟩
  obtain ⟨j1, j2, j3⟩ := i6 i (Nat.zero_le i) hi
  refine ⟨j1, ?_, j2, j3⟩
  exact hin.2 _ ((i7 _ (by have := j1.2; omega)).mpr ⟨i, Nat.zero_le i, hi, j1.1⟩)
theorem behind_b {c : Nat} {line : Nat → Int32} (hm : men ≤ 6) (hl : ∀ i, i < c → RN men (line i)) : ∀ n s a, s + n = c → ∀ x, (bq (iter (fun k a => B_X5_nameInLine_36 line k a) n s a) x = true ↔ (bq a x = true ∨ ∃ q, s ≤ q ∧ q < c ∧ line q = nI x ∧ x < 31)) := by
  intro n
  induction n with
  | zero => intro s a hs x; exact ⟨fun z => Or.inl z, fun z => by rcases z with z | ⟨q, h1, h2, _⟩; exact z; omega⟩
  | succ n ih =>
    intro s a hs x
    show bq (iter (fun k a => B_X5_nameInLine_36 line k a) n (s + 1) (B_X5_nameInLine_36 line s a)) x = true ↔ _
    rw [ih (s + 1) _ (by omega) x]
    obtain ⟨w1, w2⟩ := hl s (by omega)
    have e : bq (B_X5_nameInLine_36 line s a) x = true ↔ (bq a x = true ∨ x = (line s).toNatClampNeg) := by
      unfold B_X5_nameInLine_36
      generalize (line s).toNatClampNeg = y at w1 w2
      rw [w1, bq_or, bq_bit6 x (by omega), Bool.or_eq_true, decide_eq_true_iff]
    rw [e]
    constructor
    · rintro ((z | z) | ⟨q, h1, h2, h3⟩)
      · exact Or.inl z
      · exact Or.inr ⟨s, Nat.le_refl s, by omega, by rw [z]; exact w1, by omega⟩
      · exact Or.inr ⟨q, by omega, h2, h3⟩
    · rintro (z | ⟨q, h1, h2, h3, h4⟩)
      · exact Or.inl (Or.inl z)
      · by_cases y : q = s
        · subst y
          refine Or.inl (Or.inr ?_)
          rw [h3, nI_clamp (by omega)]
        · exact Or.inr ⟨q, by omega, h2, h3, h4⟩
theorem nameIn_ok {c i : Nat} {line : Nat → Int32} (h : CP2 b br men ox N yr lv dy fg wt ch ow op fg' wt' ch' ow' op' kn ov nb li al kn' ov' nb' li' al' aa ao tr hp) (hc : c ≤ 6) (hi : i < c) (hl : ∀ i, i < c → RN men (line i)) (ha : bq aa (line i).toNatClampNeg = true) : NameOK men (¬ (S_X0_goesAlone b ((line i).toNatClampNeg) wt yr men lv dy al) = 0) (hp (line i).toNatClampNeg) (fun u => ∃ q, i < q ∧ q < c ∧ line q = nI u) (S_X5_nameInLine i c ao line men hp) := by
  have hm : men ≤ 6 := h.1.2.1
  obtain ⟨w1, w2⟩ := hl i hi
  obtain ⟨hL, ⟨e1, e2, h1, h2, h3, h4, h5⟩, hb, t1, t2, t3, t4⟩ := id h
  unfold S_X5_nameInLine
  rw [if_neg (show ¬ c ≤ i by omega)]
  have hz := hz6 (s := ao) (show (line i).toNatClampNeg < 31 by omega)
  by_cases g : (S_X0_goesAlone b ((line i).toNatClampNeg) wt yr men lv dy al) = 0
  · rw [if_pos (hz.mpr (Bool.eq_false_iff.mpr (fun z => ((t2 _).mp z).2.2 g)))]
    refine Or.inr ⟨fun z => z g, ?_⟩
    have hbh := behind_b hm hl (c - (i + 1)) (i + 1) 0 (by omega)
    show FirstOf men _ (outE (fun _ => (-1 : Int32)) (iterE (fun k _ => B_X5_nameInLine_64 i line (iter (fun k a => B_X5_nameInLine_36 line k a) (c - (i + 1)) (i + 1) 0) hp k) men 0 ()))
    generalize iter (fun k a => B_X5_nameInLine_36 line k a) (c - (i + 1)) (i + 1) 0 = bh at hbh ⊢
    have hS : ∀ u, u < men → (bq bh u = true ↔ ∃ q, i < q ∧ q < c ∧ line q = nI u) := fun u hu => by
      rw [hbh u, bq_0]
      constructor
      · rintro (z | ⟨q, a, y, z, _⟩)
        · cases z
        · exact ⟨q, by omega, y, z⟩
      · rintro ⟨q, a, y, z⟩
        exact Or.inr ⟨q, by omega, y, z, by omega⟩
    refine iterE_fo (b := fun k _ => B_X5_nameInLine_64 i line bh hp k) (fun k hk hp2 => ?_) (fun k hk hp2 => ?_)
    · show B_X5_nameInLine_64 i line bh hp k = _
      unfold B_X5_nameInLine_64
      rw [if_neg]
      intro z
      have := (hz6 (by omega)).mp z
      rw [bq_and, hp2.1, (hS k hk).mpr hp2.2] at this
      cases this
    · show B_X5_nameInLine_64 i line bh hp k = _
      unfold B_X5_nameInLine_64
      rw [if_pos]
      refine (hz6 (by omega)).mpr (Bool.eq_false_iff.mpr (fun z => ?_))
      rw [bq_and, Bool.and_eq_true] at z
      exact hp2 ⟨z.1, (hS k hk).mp z.2⟩
  · rw [if_neg (fun z => by rw [(t2 _).mpr ⟨w2, ha, g⟩] at hz; exact absurd (hz.mp z) (by decide))]
    exact Or.inl ⟨g, rfl⟩
theorem most_top {x1 x2 : Int32} {ta to tt : Int32} {tc : Nat} {th tl order names : Nat → Int32} (hL : JL br men ox yr fg wt ch ow op fg' wt' ch' ow' op') (hJ : JD N br men lv dy kn ov nb li al lv' dy' kn' ov' nb' li' al') {c0 c1 c2 c3 d0 : Int32} {c4 c6 d1 d2 : Nat → Int32} {c5 : Nat} (hc : S_X6_most x1 x2 yr br men ta to tt tc lv dy ov li fg kn wt th al tl = (c0, c1, c2, c3, c4, c5, c6)) (hd : S_X7_most x1 x2 yr br men lv' dy' ov' al' wt' kn' li' fg' order names = (d0, d1, d2)) : d0 = c0 := by
  have e1 := hJ.1
  have e2 := hJ.2.1
  subst e1
  subst e2
  unfold S_X6_most at hc
  unfold S_X7_most at hd
  rw [br_eq (by have := hL.1; omega)] at hd
  by_cases c : S_X1_hasBridge x1 br = 0
  · rw [if_pos c] at hc hd
    cases hc; cases hd; rfl
  rw [if_neg c] at hc hd
  obtain ⟨f1, f2⟩ := hasBridge_of c (by have := hL.1; omega)
  generalize hu : S_X5_lineUp x1.toNatClampNeg lv' dy' ov yr men li fg kn wt th al tl = u at hc
  generalize hw : S_X7_findRow x1.toNatClampNeg yr men lv' dy' ov' al' wt' kn' li' fg' order names = w at hd
  obtain ⟨u0, u1, u2, u3, u4, u5, u6⟩ := u
  obtain ⟨w0, w1, w2⟩ := w
  obtain ⟨hC, i1, i2, i3, i4⟩ := line_top hL hJ f2 hu hw
  subst i1
  replace hc : K_X6_most_19 x2 w0 u1 u2 u3 u4 u5 u6 = _ := hc
  replace hd : K_X7_most_13 x2 w0 w1 w2 = _ := hd
  unfold K_X6_most_19 at hc
  unfold K_X7_most_13 at hd
  by_cases q : x2 = -1
  · rw [if_pos q] at hc hd
    cases hc; cases hd; rfl
  · rw [if_neg q] at hc hd
    rw [inB_z (by omega)] at hd
    by_cases p : x2 < 0
    · rw [if_pos p] at hc
      rw [if_pos p, if_pos rfl] at hd
      cases hc; cases hd; rfl
    · rw [if_neg p] at hc hd
      by_cases r : nI w0 ≤ x2
      · rw [if_pos r] at hc
        rw [if_pos r, if_pos rfl] at hd
        cases hc; cases hd; rfl
      · rw [if_neg r] at hc
        rw [if_neg r, if_neg (by decide)] at hd
        obtain ⟨_, g2⟩ := rg_of p r (by omega)
        cases hc; cases hd
        exact (i4 _ g2).2.2.1
theorem names_top {x1 x2 : Int32} {ta to tt : Int32} {tc : Nat} {th tl order names : Nat → Int32} (hL : JL br men ox yr fg wt ch ow op fg' wt' ch' ow' op') (hJ : JD N br men lv dy kn ov nb li al lv' dy' kn' ov' nb' li' al') {c0 c1 c2 c3 d0 : Int32} {c4 c6 d1 d2 : Nat → Int32} {c5 : Nat} (hc : S_X6_names x1 x2 yr br men ta to tt tc lv dy ov li fg kn wt th al tl = (c0, c1, c2, c3, c4, c5, c6)) (hd : S_X7_names x1 x2 yr br men lv' dy' ov' al' wt' kn' li' fg' order names = (d0, d1, d2)) : d0 = c0 := by
  have e1 := hJ.1
  have e2 := hJ.2.1
  subst e1
  subst e2
  unfold S_X6_names at hc
  unfold S_X7_names at hd
  rw [br_eq (by have := hL.1; omega)] at hd
  by_cases c : S_X1_hasBridge x1 br = 0
  · rw [if_pos c] at hc hd
    cases hc; cases hd; rfl
  rw [if_neg c] at hc hd
  obtain ⟨f1, f2⟩ := hasBridge_of c (by have := hL.1; omega)
  generalize hu : S_X5_lineUp x1.toNatClampNeg lv' dy' ov yr men li fg kn wt th al tl = u at hc
  generalize hw : S_X7_findRow x1.toNatClampNeg yr men lv' dy' ov' al' wt' kn' li' fg' order names = w at hd
  obtain ⟨u0, u1, u2, u3, u4, u5, u6⟩ := u
  obtain ⟨w0, w1, w2⟩ := w
  obtain ⟨hC, i1, i2, i3, i4⟩ := line_top hL hJ f2 hu hw
  subst i1
  subst i2
  replace hc : K_X6_names_19 x2 men u5 u1 u2 u3 u4 u5 u6 = _ := hc
  replace hd : K_X7_names_13 x2 u5 w1 w2 = _ := hd
  unfold K_X6_names_19 at hc
  unfold K_X7_names_13 at hd
  rw [inB_z (by omega)] at hd
  by_cases p : x2 < 0
  · rw [if_pos p] at hc
    rw [if_pos p, if_pos rfl] at hd
    cases hc; cases hd; rfl
  · rw [if_neg p] at hc hd
    by_cases r : nI u5 ≤ x2
    · rw [if_pos r] at hc
      rw [if_pos r, if_pos rfl] at hd
      cases hc; cases hd; rfl
    · rw [if_neg r] at hc
      rw [if_neg r, if_neg (by decide)] at hd
      obtain ⟨_, g2⟩ := rg_of p r (by omega)
      have h1 := i4 _ g2
      have h2 := nameIn_ok hC i3 g2 (fun i hi => (i4 i hi).1) h1.2.1
      cases hc; cases hd
      exact h1.2.2.2.eq h2
theorem could_z {t : Nat} (h : CP2 b br men ox N yr lv dy fg wt ch ow op fg' wt' ch' ow' op' kn ov nb li al kn' ov' nb' li' al' aa ao tr hp) (ht : t < men) (ha : bq aa t = true) : S_X7_couldName b t aa men lv dy wt' ov' li' fg' = 0 ↔ (S_X6_has tr (nI t) = 0 ∨ ((S_X1_heavierThan (wt t) men wt) &&& aa) = 0) := by
  obtain ⟨⟨l1, l2, l3, l4, l5, l6, l7⟩, ⟨e1, e2, h1, h2, h3, h4, h5⟩, hb, t1, t2, t3, t4⟩ := id h
  obtain ⟨a1, a2, a3, a4, a5⟩ := h5 b t hb ht
  have hA := iter_any (n := men) (f := fun k a => B_X7_couldName_6 b t aa lv dy wt' ov' li' fg' k a) (fun u => bq aa u = true ∧ mn b t u lv dy li fg wt ov = true) (fun k hk => by
    show B_X7_couldName_6 b t aa lv dy wt' ov' li' fg' k 1 = 1
    unfold B_X7_couldName_6
    rw [if_neg (by decide)]) (fun k hk hp2 => by
    show B_X7_couldName_6 b t aa lv dy wt' ov' li' fg' k 0 = 1
    unfold B_X7_couldName_6
    rw [if_pos rfl, if_neg (fun z => by rw [(hz7 (by omega)).mp z] at hp2; exact absurd hp2.1 (by decide)), mayName_eq (li := li) (fg := fg) (w := wt) (ov := ov) (by omega) (rem_eq a3 (l5 b hb) a4) (l6 t ht).1 (l6 k hk).1 (h4 b hb).1, if_pos hp2.2, if_neg (by decide)]) (fun k hk hp2 => by
    show B_X7_couldName_6 b t aa lv dy wt' ov' li' fg' k 0 = 0
    unfold B_X7_couldName_6
    rw [if_pos rfl]
    by_cases c : bq aa k = false
    · rw [if_pos ((hz7 (by omega)).mpr c)]
    · rw [if_neg (fun z => c ((hz7 (by omega)).mp z)), mayName_eq (li := li) (fg := fg) (w := wt) (ov := ov) (by omega) (rem_eq a3 (l5 b hb) a4) (l6 t ht).1 (l6 k hk).1 (h4 b hb).1, if_neg (fun z => hp2 ⟨tf.mpr c, z⟩), if_pos rfl]) (a := 0) (Or.inl rfl)
  have hz : S_X6_has tr (nI t) = 0 ↔ ¬ S_X0_isRemembered b t dy li fg = 0 := by
    rw [hz6 (by omega)]
    constructor
    · exact fun z y => by rw [(t3 t).mpr ⟨ht, ha, y⟩] at z; cases z
    · exact fun z => Bool.eq_false_iff.mpr (fun y => z ((t3 t).mp y).2.2)
  have hmn : ∀ u, mn b t u lv dy li fg wt ov = true ↔ (wt t < wt u ∧ bq lv u = true ∧ bq (ov b) u = false ∧ S_X0_isRemembered b t dy li fg = 0) := fun u => by
    unfold mn
    rw [Bool.and_eq_true, Bool.and_eq_true, Bool.and_eq_true, decide_eq_true_iff, decide_eq_true_iff, Bool.not_eq_true']
    exact ⟨fun ⟨⟨⟨p, q⟩, r⟩, s⟩ => ⟨p, q, r, s⟩, fun ⟨p, q, r, s⟩ => ⟨⟨⟨p, q⟩, r⟩, s⟩⟩
  have haa : ∀ u, u < 32 → (bq aa u = true ↔ (bq lv u = true ∧ bq (ov b) u = false)) := fun u hu => by
    rw [t1, coming_b hu, Bool.and_eq_true, Bool.not_eq_true']
  show iter (fun k a => B_X7_couldName_6 b t aa lv dy wt' ov' li' fg' k a) men 0 0 = 0 ↔ _
  rw [hz]
  rcases hA with ⟨p, q⟩ | ⟨p, _, q⟩
  · rw [p]
    refine ⟨fun z => absurd z (by decide), fun z => ?_⟩
    rcases q with q | ⟨k, k1, k2, k3⟩
    · exact absurd q (by decide)
    · obtain ⟨m1, m2, m3, m4⟩ := (hmn k).mp k3
      rcases z with z | z
      · exact absurd m4 z
      · have := bq_z.mp z k (by omega)
        rw [bq_and, heavier_b l2, k2, decide_eq_true k1, decide_eq_true m1] at this
        cases this
  · rw [p]
    refine ⟨fun _ => ?_, fun _ => rfl⟩
    by_cases c : S_X0_isRemembered b t dy li fg = 0
    · refine Or.inr (bq_z.mpr (fun k hk => ?_))
      rw [bq_and, heavier_b l2]
      by_cases d : k < men
      · rw [decide_eq_true d, Bool.true_and]
        by_cases e : wt t < wt k
        · rw [decide_eq_true e, Bool.true_and]
          refine Bool.eq_false_iff.mpr (fun y => q k d ⟨y, (hmn k).mpr ⟨e, ((haa k hk).mp y).1, ((haa k hk).mp y).2, c⟩⟩)
        · rw [decide_eq_false e, Bool.false_and]
      · rw [decide_eq_false d, Bool.false_and, Bool.false_and]
    · exact Or.inl c
theorem tellings_top {x1 : Int32} {ta to tt : Int32} {th : Nat → Int32} (hL : JL br men ox yr fg wt ch ow op fg' wt' ch' ow' op') (hJ : JD N br men lv dy kn ov nb li al lv' dy' kn' ov' nb' li' al') {c0 c1 c2 c3 : Int32} {c4 : Nat → Int32} (hc : S_X6_tellings x1 yr br men ta to tt lv dy ov li fg kn wt th al = (c0, c1, c2, c3, c4)) : S_X7_tellings x1 yr br men lv' dy' ov' al' wt' kn' li' fg' = c0 := by
  have hm : men ≤ 6 := hL.2.1
  have e1 := hJ.1
  have e2 := hJ.2.1
  subst e1
  subst e2
  unfold S_X6_tellings at hc
  unfold S_X7_tellings
  rw [br_eq (by have := hL.1; omega)]
  by_cases c : S_X1_hasBridge x1 br = 0
  · rw [if_pos c] at hc ⊢
    cases hc; rfl
  rw [if_neg c] at hc ⊢
  obtain ⟨f1, f2⟩ := hasBridge_of c (by have := hL.1; omega)
  generalize hu : S_X5_fewestTold x1.toNatClampNeg lv' dy' ov yr men li fg kn wt th al = u at hc
  obtain ⟨u0, u1, u2, u3, u4⟩ := u
  replace hc : (u0, u1, u2, u3, u4) = (c0, c1, c2, c3, c4) := hc
  unfold S_X5_fewestTold at hu
  generalize hlk : S_X5_lookAt x1.toNatClampNeg lv' dy' ov men li yr fg kn wt th al = w at hu
  obtain ⟨w0, w1, w2, w3⟩ := w
  have hT := look_ok hm hlk
  have hC : CP2 x1.toNatClampNeg br men ox N yr lv' dy' fg wt ch ow op fg' wt' ch' ow' op' kn ov nb li al kn' ov' nb' li' al' w0 w1 w2 w3 := ⟨hL, hJ, f2, hT⟩
  rw [hc] at hu
  replace hu : outE (fun a => K_X5_fewestTold_9 w0 w1 w2 w3 a) (iterE (fun k a => B_X5_fewestTold_9 men wt w0 w1 w2 w3 k a) men 0 0) = (c0, c1, c2, c3, c4) := hu
  have key := iterE_two (f := fun k a => B_X5_fewestTold_9 men wt w0 w1 w2 w3 k a) (g := fun k a => B_X7_tellings_22 x1 yr men lv' dy' ov' al' wt' kn' li' fg' k a) (N := men) (fun r s => r.1 = s) (fun k a hk => by
    show (∃ a', B_X5_fewestTold_9 men wt w0 w1 w2 w3 k a = .inl a' ∧ B_X7_tellings_22 x1 yr men lv' dy' ov' al' wt' kn' li' fg' k a = .inl a') ∨ ∃ r s, B_X5_fewestTold_9 men wt w0 w1 w2 w3 k a = .inr r ∧ B_X7_tellings_22 x1 yr men lv' dy' ov' al' wt' kn' li' fg' k a = .inr s ∧ r.1 = s
    unfold B_X5_fewestTold_9 B_X7_tellings_22
    rw [all_eq hC, has67 w0 (by omega)]
    by_cases q : S_X7_has w0 (nI k) = 0
    · rw [if_pos q, if_pos q]; exact Or.inl ⟨a, rfl, rfl⟩
    · have hq : bq w0 k = true := tf.mpr (fun y => q ((hz7 (by omega)).mpr y))
      rw [if_neg q, if_neg q, sup_eq hC hk hq]
      by_cases r : S_X5_passes k w0 w1 w3 = 0
      · rw [if_pos r, if_pos r]
        have hz := could_z hC hk hq
        by_cases s : S_X6_has w2 (nI k) = 0
        · rw [if_pos s, if_pos (hz.mpr (Or.inl s))]
          exact Or.inr ⟨_, _, rfl, rfl, rfl⟩
        · rw [if_neg s]
          by_cases t : ((S_X1_heavierThan (wt k) men wt) &&& w0) = 0
          · rw [if_pos t, if_pos (hz.mpr (Or.inr t))]
            exact Or.inr ⟨_, _, rfl, rfl, rfl⟩
          · rw [if_neg t, if_neg (fun z => by rcases hz.mp z with z | z; exact s z; exact t z)]
            exact Or.inl ⟨a + 1, rfl, rfl⟩
      · rw [if_neg r, if_neg r]; exact Or.inl ⟨a, rfl, rfl⟩) men 0 0 (by omega)
  rcases key with ⟨a, x, y⟩ | ⟨r, s, x, y, z⟩
  · rw [x] at hu
    rw [y]
    replace hu : (nI a, w0, w1, w2, w3) = (c0, c1, c2, c3, c4) := hu
    exact congrArg Prod.fst hu
  · rw [x] at hu
    rw [y]
    replace hu : r = (c0, c1, c2, c3, c4) := hu
    rw [hu] at z
    exact z.symm
end MOSTS
