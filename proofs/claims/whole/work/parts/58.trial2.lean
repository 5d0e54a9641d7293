/-! class and reference: what is tried -/
theorem SBn.nat {n : Nat} {v : Int32} (h : SBn n v) (hn : n ≤ 6) : RN 64 v ∧ v.toNatClampNeg < 2 ^ n := by
  have h1 : v.toBitVec.toNat < 2 ^ n := Nat.lt_pow_two_of_testBit _ (fun i hi => h i hi)
  have h2 : 2 ^ n ≤ 64 := p2_le6 hn
  have e : v = nI v.toBitVec.toNat := by
    apply Int32.toBitVec_inj.mp
    apply BitVec.eq_of_toNat_eq
    rw [pk_tn (by omega)]
  have e2 : v.toNatClampNeg = v.toBitVec.toNat := by
    rw [e, nI_clamp (by omega), pk_tn (by omega)]
  exact ⟨⟨by rw [e2]; exact e, by omega⟩, by omega⟩
section TRIAL
variable {N br men ox b : Nat} {yr : Int32} {fg wt ch ow op fg' wt' ch' ow' op' : Nat → Int32} {lv dy lv' dy' : Int32} {kn ov nb li al kn' ov' nb' li' al' : Nat → Int32} {aa ao tr : Int32} {hp : Nat → Int32}
def TR (b men : Nat) (yr lv dy : Int32) (fg wt kn ov li al : Nat → Int32) (aa ao tr : Int32) (hp : Nat → Int32) : Prop := aa = S_X0_toCome b lv ov ∧ (∀ j, bq ao j = true ↔ (j < men ∧ bq aa j = true ∧ ¬ S_X0_goesAlone b j wt yr men lv dy al = 0)) ∧ (∀ j, bq tr j = true ↔ (j < men ∧ bq aa j = true ∧ S_X0_isRemembered b j dy li fg = 0)) ∧ ∀ t, t < men → hp t = S_X0_helpers b t lv dy li men fg kn wt ov
theorem look_step {k : Nat} {a0 t0 : Int32} {h0 : Nat → Int32} (hk : k < 31) : B_X5_lookAt_24 b lv dy ov men li yr fg kn wt al k a0 t0 h0 = ((a0 ||| (if bq (S_X0_toCome b lv ov) k = true ∧ ¬ S_X0_goesAlone b k wt yr men lv dy al = 0 then ((1 : Int32) <<< ((nI k) &&& 31)) else 0)), (t0 ||| (if bq (S_X0_toCome b lv ov) k = true ∧ S_X0_isRemembered b k dy li fg = 0 then ((1 : Int32) <<< ((nI k) &&& 31)) else 0)), upd h0 k (S_X0_helpers b k lv dy li men fg kn wt ov)) := by
  unfold B_X5_lookAt_24
  by_cases c : bq (S_X0_toCome b lv ov) k = false
  · have n1 : ¬ (bq (S_X0_toCome b lv ov) k = true ∧ ¬ S_X0_goesAlone b k wt yr men lv dy al = 0) := fun z => by rw [c] at z; cases z.1
    have n2 : ¬ (bq (S_X0_toCome b lv ov) k = true ∧ S_X0_isRemembered b k dy li fg = 0) := fun z => by rw [c] at z; cases z.1
    rw [if_pos ((hz6 hk).mpr c), if_pos ((hz6 hk).mpr c), if_neg n1, if_neg n2]
  · have c1 := tf.mpr c
    rw [if_neg (fun z => c ((hz6 hk).mp z))]
    by_cases d : S_X0_goesAlone b k wt yr men lv dy al = 0
    · rw [if_pos d, if_neg (fun z => c ((hz6 hk).mp z)), if_neg (fun z : bq (S_X0_toCome b lv ov) k = true ∧ ¬ S_X0_goesAlone b k wt yr men lv dy al = 0 => z.2 d)]
      by_cases e : S_X0_isRemembered b k dy li fg = 0
      · rw [if_pos e, if_pos (⟨c1, e⟩ : bq (S_X0_toCome b lv ov) k = true ∧ S_X0_isRemembered b k dy li fg = 0)]; rfl
      · rw [if_neg e, if_neg (fun z : bq (S_X0_toCome b lv ov) k = true ∧ S_X0_isRemembered b k dy li fg = 0 => e z.2)]
    · rw [if_neg d, if_neg (fun z => c ((hz6 hk).mp z)), if_pos (⟨c1, d⟩ : bq (S_X0_toCome b lv ov) k = true ∧ ¬ S_X0_goesAlone b k wt yr men lv dy al = 0)]
      by_cases e : S_X0_isRemembered b k dy li fg = 0
      · rw [if_pos e, if_pos (⟨c1, e⟩ : bq (S_X0_toCome b lv ov) k = true ∧ S_X0_isRemembered b k dy li fg = 0)]; rfl
      · rw [if_neg e, if_neg (fun z : bq (S_X0_toCome b lv ov) k = true ∧ S_X0_isRemembered b k dy li fg = 0 => e z.2)]; rfl
theorem look_ok {h0 : Nat → Int32} (hm : men ≤ 6) (hc : S_X5_lookAt b lv dy ov men li yr fg kn wt h0 al = (aa, ao, tr, hp)) : TR b men yr lv dy fg wt kn ov li al aa ao tr hp := by
  have key : ∀ n, n ≤ men → ∀ r, iter (fun k (a : Int32 × Int32 × (Nat → Int32)) => B_X5_lookAt_24 b lv dy ov men li yr fg kn wt al k a.1 a.2.1 a.2.2) n 0 ((0 : Int32), (0 : Int32), h0) = r → (∀ j, bq r.1 j = true ↔ (j < n ∧ bq (S_X0_toCome b lv ov) j = true ∧ ¬ S_X0_goesAlone b j wt yr men lv dy al = 0)) ∧ (∀ j, bq r.2.1 j = true ↔ (j < n ∧ bq (S_X0_toCome b lv ov) j = true ∧ S_X0_isRemembered b j dy li fg = 0)) ∧ ∀ t, t < n → r.2.2 t = S_X0_helpers b t lv dy li men fg kn wt ov := by
    intro n
    induction n with
    | zero =>
      intro _ r hr
      subst hr
      refine ⟨fun j => ?_, fun j => ?_, fun t ht => absurd ht (Nat.not_lt_zero t)⟩
      · show bq 0 j = true ↔ _
        rw [bq_0]; exact ⟨fun z => absurd z (by decide), fun z => absurd z.1 (Nat.not_lt_zero j)⟩
      · show bq 0 j = true ↔ _
        rw [bq_0]; exact ⟨fun z => absurd z (by decide), fun z => absurd z.1 (Nat.not_lt_zero j)⟩
    | succ n ih =>
      intro hn r hr
      rw [iter_last] at hr
      have ih := ih (by omega) _ rfl
      generalize iter (fun k (a : Int32 × Int32 × (Nat → Int32)) => B_X5_lookAt_24 b lv dy ov men li yr fg kn wt al k a.1 a.2.1 a.2.2) n 0 ((0 : Int32), (0 : Int32), h0) = q at hr ih
      obtain ⟨q0, q1, q2⟩ := q
      obtain ⟨i1, i2, i3⟩ := ih
      have hr : B_X5_lookAt_24 b lv dy ov men li yr fg kn wt al n q0 q1 q2 = r := hr
      rw [look_step (by omega)] at hr
      subst hr
      refine ⟨fun j => ?_, fun j => ?_, fun t ht => ?_⟩
      · show bq (q0 ||| _) j = true ↔ _
        rw [bq_orif (by omega), show bq q0 j = true ↔ _ from i1 j]
        constructor
        · rintro (z | ⟨e, z⟩)
          · exact ⟨by omega, z.2⟩
          · subst e; exact ⟨by omega, z⟩
        · rintro ⟨hj, z⟩
          by_cases e : j = n
          · subst e; exact Or.inr ⟨rfl, z⟩
          · exact Or.inl ⟨by omega, z⟩
      · show bq (q1 ||| _) j = true ↔ _
        rw [bq_orif (by omega), show bq q1 j = true ↔ _ from i2 j]
        constructor
        · rintro (z | ⟨e, z⟩)
          · exact ⟨by omega, z.2⟩
          · subst e; exact ⟨by omega, z⟩
        · rintro ⟨hj, z⟩
          by_cases e : j = n
          · subst e; exact Or.inr ⟨rfl, z⟩
          · exact Or.inl ⟨by omega, z⟩
      · show upd q2 n _ t = _
        by_cases e : t = n
        · subst e; exact pk_us
        · rw [pk_un e]; exact i3 t (by omega)
  obtain ⟨k1, k2, k3⟩ := key men (Nat.le_refl men) _ rfl
  unfold S_X5_lookAt at hc
  generalize iter (fun k (a : Int32 × Int32 × (Nat → Int32)) => B_X5_lookAt_24 b lv dy ov men li yr fg kn wt al k a.1 a.2.1 a.2.2) men 0 ((0 : Int32), (0 : Int32), h0) = r at hc k1 k2 k3
  have hc : (S_X0_toCome b lv ov, r.1, r.2.1, r.2.2) = (aa, ao, tr, hp) := hc
  cases hc
  exact ⟨rfl, k1, k2, k3⟩
/-- what the reference's rows stand on -/
def CP2 (b br men ox N : Nat) (yr lv dy : Int32) (fg wt ch ow op fg' wt' ch' ow' op' kn ov nb li al kn' ov' nb' li' al' : Nat → Int32) (aa ao tr : Int32) (hp : Nat → Int32) : Prop := JL br men ox yr fg wt ch ow op fg' wt' ch' ow' op' ∧ JD N br men lv dy kn ov nb li al lv dy kn' ov' nb' li' al' ∧ b < br ∧ TR b men yr lv dy fg wt kn ov li al aa ao tr hp
theorem all_eq (h : CP2 b br men ox N yr lv dy fg wt ch ow op fg' wt' ch' ow' op' kn ov nb li al kn' ov' nb' li' al' aa ao tr hp) : S_X7_candidates b lv ov' = aa := by
  obtain ⟨hL, ⟨e1, e2, h1, h2, h3, h4, h5⟩, hb, t1, t2, t3, t4⟩ := h
  unfold S_X7_candidates
  rw [t1, (h4 b hb).1]
  rfl
theorem all_sb (h : CP2 b br men ox N yr lv dy fg wt ch ow op fg' wt' ch' ow' op' kn ov nb li al kn' ov' nb' li' al' aa ao tr hp) : SBn men aa := by
  obtain ⟨hL, ⟨e1, e2, h1, h2, h3, h4, h5⟩, hb, t1, t2, t3, t4⟩ := h
  rw [t1]
  unfold S_X0_toCome
  exact h1.and
theorem pass01 {t : Nat} {v : Int32} : (S_X5_passes t v ao hp) = 0 ∨ (S_X5_passes t v ao hp) = 1 := by
  unfold S_X5_passes
  split
  · split
    · exact Or.inl rfl
    · exact Or.inr rfl
  · exact Or.inr rfl
theorem sup_and {t : Nat} {v : Int32} (h : CP2 b br men ox N yr lv dy fg wt ch ow op fg' wt' ch' ow' op' kn ov nb li al kn' ov' nb' li' al' aa ao tr hp) (ht : t < men) : S_X7_supports b t v men lv dy kn' wt' ov' li' fg' = (hp t) &&& v := by
  obtain ⟨⟨l1, l2, l3, l4, l5, l6, l7⟩, ⟨e1, e2, h1, h2, h3, h4, h5⟩, hb, t1, t2, t3, t4⟩ := h
  obtain ⟨a1, a2, a3, a4, a5⟩ := h5 b t hb ht
  refine bq_ext (fun j hj => ?_)
  rw [supports_b (li := li) (fg := fg) (kn := kn) (w := wt) (ov := ov) l2 ht (rem_eq a3 (l5 b hb) a4) (fun t ht => (l6 t ht).1) (h3 t ht).1 (h4 b hb).1, bq_and, t4 t ht, helpers_b l2 hj]
  cases decide (j < men) <;> cases bq v j <;> cases bq (kn t) j <;> cases mn b t j lv dy li fg wt ov <;> rfl
theorem alone_t {t : Nat} (h : CP2 b br men ox N yr lv dy fg wt ch ow op fg' wt' ch' ow' op' kn ov nb li al kn' ov' nb' li' al' aa ao tr hp) (ht : t < men) : S_X7_mayAlone b t al' dy yr men lv wt' = S_X0_goesAlone b t wt yr men lv dy al := by
  obtain ⟨⟨l1, l2, l3, l4, l5, l6, l7⟩, ⟨e1, e2, h1, h2, h3, h4, h5⟩, hb, t1, t2, t3, t4⟩ := h
  exact alone_eq l2 ht l4 (fun t ht => (l6 t ht).1) (l6 t ht).2.2 (h5 b t hb ht).2.2.2.2
theorem sup_eq {t : Nat} {v : Int32} (h : CP2 b br men ox N yr lv dy fg wt ch ow op fg' wt' ch' ow' op' kn ov nb li al kn' ov' nb' li' al' aa ao tr hp) (ht : t < men) (ha : bq aa t = true) : (S_X7_isSupported b t v yr men lv dy al' wt' kn' ov' li' fg') = (S_X5_passes t v ao hp) := by
  have hs := sup_and (v := v) h ht
  have hal := alone_t h ht
  obtain ⟨⟨l1, l2, l3, l4, l5, l6, l7⟩, ⟨e1, e2, h1, h2, h3, h4, h5⟩, hb, t1, t2, t3, t4⟩ := id h
  have hz := hz6 (s := ao) (show t < 31 by omega)
  unfold S_X7_isSupported S_X5_passes
  rw [hal, hs]
  by_cases c : S_X0_goesAlone b t wt yr men lv dy al = 0
  · rw [if_pos c, if_pos (hz.mpr (Bool.eq_false_iff.mpr (fun z => ((t2 t).mp z).2.2 c)))]
  · rw [if_neg c, if_neg (fun z => by rw [(t2 t).mpr ⟨ht, ha, c⟩] at hz; exact absurd (hz.mp z) (by decide))]
theorem passing_b {v : Int32} (hm : men ≤ 6) (j : Nat) : bq (S_X5_passing v men ao hp) j = true ↔ (j < men ∧ bq v j = true ∧ ¬ (S_X5_passes j v ao hp) = 0) := by
  show bq (iter (fun k a => B_X5_passing_4 v ao hp k a) men 0 0) j = true ↔ _
  rw [iter_set (n := men) (by omega) (fun k => bq v k && !decide ((S_X5_passes k v ao hp) = 0)) 0 (fun k a hk => by
    show B_X5_passing_4 v ao hp k a = _
    unfold B_X5_passing_4
    by_cases c : bq v k = false
    · rw [if_pos ((hz6 (by omega)).mpr c), c, Bool.false_and, if_neg (by decide)]
    · rw [if_neg (fun z => c ((hz6 (by omega)).mp z)), tf.mpr c, Bool.true_and]
      by_cases d : (S_X5_passes k v ao hp) = 0
      · rw [if_pos d, decide_eq_true d, Bool.not_true, if_neg (by decide)]
      · rw [if_neg d, decide_eq_false d, Bool.not_false, if_pos rfl]; rfl) j, bq_0, Bool.false_or, Bool.and_eq_true, Bool.and_eq_true, Bool.not_eq_true', decide_eq_true_iff, decide_eq_false_iff_not]
theorem passing_sub {v : Int32} (hm : men ≤ 6) {j : Nat} (h : bq (S_X5_passing v men ao hp) j = true) : bq v j = true := ((passing_b hm j).mp h).2.1
theorem passing_sb {v : Int32} (hm : men ≤ 6) : SBn men (S_X5_passing v men ao hp) := fun k hk => Bool.eq_false_iff.mpr (fun z => by have := ((passing_b hm k).mp z).1; omega)
theorem whole_iff {v : Int32} (h : CP2 b br men ox N yr lv dy fg wt ch ow op fg' wt' ch' ow' op' kn ov nb li al kn' ov' nb' li' al' aa ao tr hp) (hv : SBn men v) (hs : ∀ j, bq v j = true → bq aa j = true) : ¬ (S_X7_isWhole b v men yr lv dy al' wt' kn' ov' li' fg') = 0 ↔ (S_X5_passing v men ao hp) = v := by
  obtain ⟨⟨l1, l2, l3, l4, l5, l6, l7⟩, _⟩ := id h
  constructor
  · intro z
    refine bq_eq (fun j => ?_)
    rw [passing_b l2]
    constructor
    · exact fun y => y.2.1
    · intro y
      have hj : j < men := by
        rcases Nat.lt_or_ge j men with q | q
        · exact q
        · rw [hv j q] at y; cases y
      refine ⟨hj, y, ?_⟩
      have := isWhole_at z j hj (fun q => by rw [(hz7 (by omega)).mp q] at y; cases y)
      rw [sup_eq h hj (hs j y)] at this
      exact this
  · intro z
    have := isWhole_all (x1 := b) (o_men := men) (o_year := yr) (o_alive := lv) (o_day := dy) (o_aloneYear := al') (o_weight := wt') (o_knows := kn') (o_over := ov') (o_lieDay := li') (o_forgets := fg') (v := v) (fun j hj => by
      by_cases c : bq v j = false
      · exact Or.inl ((hz7 (by omega)).mpr c)
      · refine Or.inr ?_
        have c := tf.mpr c
        rw [sup_eq h hj (hs j c)]
        have y := c
        rw [← z] at y
        have w := ((passing_b l2 j).mp y).2.2
        exact w)
    rw [this]
    decide
theorem drop_eq {v : Int32} (h : CP2 b br men ox N yr lv dy fg wt ch ow op fg' wt' ch' ow' op' kn ov nb li al kn' ov' nb' li' al' aa ao tr hp) (hv : SBn men v) (hs : ∀ j, bq v j = true → bq aa j = true) : iter (fun k a => B_X7_mostOf_20 b yr men lv dy ov' al' wt' kn' li' fg' v k a) men 0 v = (S_X5_passing v men ao hp) := by
  obtain ⟨⟨l1, l2, l3, l4, l5, l6, l7⟩, _⟩ := id h
  have key : ∀ n, n ≤ men → ∀ j, bq (iter (fun k a => B_X7_mostOf_20 b yr men lv dy ov' al' wt' kn' li' fg' v k a) n 0 v) j = true ↔ (bq v j = true ∧ (j < n → ¬ (S_X5_passes j v ao hp) = 0)) := by
    intro n
    induction n with
    | zero => intro _ j; exact ⟨fun z => ⟨z, fun y => absurd y (Nat.not_lt_zero j)⟩, fun z => z.1⟩
    | succ n ih =>
      intro hn j
      have ih := ih (by omega)
      rw [iter_last]
      generalize iter (fun k a => B_X7_mostOf_20 b yr men lv dy ov' al' wt' kn' li' fg' v k a) n 0 v = w at ih ⊢
      have hwo : ∀ j, ¬ j < 32 → bq v j = false := fun j hj => bq_hi v (by omega)
      unfold B_X7_mostOf_20
      by_cases c : bq v n = false
      · rw [if_pos ((hz7 (by omega)).mpr c), ih j]
        refine and_congr_right (fun y => ⟨fun z q => ?_, fun z q => z (by omega)⟩)
        by_cases e : j = n
        · subst e; rw [c] at y; cases y
        · exact z (by omega)
      · rw [if_neg (fun z => c ((hz7 (by omega)).mp z)), sup_eq h (by omega) (hs n (tf.mpr c))]
        by_cases d : (S_X5_passes n v ao hp) = 0
        · rw [if_pos d]
          by_cases l : j < 32
          · rw [bq_wo (by omega) l, Bool.and_eq_true, ih j, Bool.not_eq_true', decide_eq_false_iff_not]
            constructor
            · rintro ⟨⟨y, z⟩, e⟩
              exact ⟨y, fun q => z (by omega)⟩
            · rintro ⟨y, z⟩
              exact ⟨⟨y, fun q => z (by omega)⟩, fun e => by subst e; exact z (by omega) d⟩
          · rw [bq_hi _ (by omega), hwo j l]; exact ⟨fun z => absurd z (by decide), fun z => absurd z.1 (by decide)⟩
        · rw [if_neg d, ih j]
          refine and_congr_right (fun y => ⟨fun z q => ?_, fun z q => z (by omega)⟩)
          by_cases e : j = n
          · subst e; exact d
          · exact z (by omega)
  refine bq_eq (fun j => ?_)
  rw [key men (Nat.le_refl men) j, passing_b l2]
  constructor
  · rintro ⟨y, z⟩
    have hj : j < men := by
      rcases Nat.lt_or_ge j men with q | q
      · exact q
      · rw [hv j q] at y; cases y
    exact ⟨hj, y, z hj⟩
  · rintro ⟨hj, y, z⟩
    exact ⟨y, fun _ => z⟩
/-- how many of the six a set has -/
def sz6 (v : Int32) : Nat := (if bq v 0 = true then 1 else 0) + (if bq v 1 = true then 1 else 0) + (if bq v 2 = true then 1 else 0) + (if bq v 3 = true then 1 else 0) + (if bq v 4 = true then 1 else 0) + (if bq v 5 = true then 1 else 0)
theorem sz6_le {v : Int32} : sz6 v ≤ 6 := by
  unfold sz6
  repeat' split
  all_goals decide
theorem b2n {a b : Bool} (h : a = true → b = true) : (if a = true then 1 else 0) ≤ (if b = true then 1 else 0) := by
  cases a
  · exact Nat.zero_le _
  · rw [h rfl]; exact Nat.le_refl _
theorem b2s {a b : Bool} (h : a = false) (h2 : b = true) : (if a = true then 1 else 0) < (if b = true then 1 else 0) := by rw [h, h2]; decide
theorem sz6_lt {v w : Int32} (h : ∀ j, bq w j = true → bq v j = true) {t : Nat} (ht : t < 6) (h1 : bq v t = true) (h2 : bq w t = false) : sz6 w < sz6 v := by
  unfold sz6
  have q0 := b2n (h 0)
  have q1 := b2n (h 1)
  have q2 := b2n (h 2)
  have q3 := b2n (h 3)
  have q4 := b2n (h 4)
  have q5 := b2n (h 5)
  have q := b2s h2 h1
  rcases (show t = 0 ∨ t = 1 ∨ t = 2 ∨ t = 3 ∨ t = 4 ∨ t = 5 by omega) with rfl | rfl | rfl | rfl | rfl | rfl <;> omega
theorem passing_lt {v : Int32} (hm : men ≤ 6) (hv : SBn men v) (hne : ¬ (S_X5_passing v men ao hp) = v) : sz6 (S_X5_passing v men ao hp) < sz6 v := by
  have : ∃ t, bq v t = true ∧ bq (S_X5_passing v men ao hp) t = false := by
    refine Classical.byContradiction (fun q => hne (bq_eq (fun j => ⟨fun z => passing_sub hm z, fun z => ?_⟩)))
    refine Classical.byContradiction (fun y => q ⟨j, z, Bool.eq_false_iff.mpr y⟩)
  obtain ⟨t, h1, h2⟩ := this
  have ht : t < men := by
    rcases Nat.lt_or_ge t men with q | q
    · exact q
    · rw [hv t q] at h1; cases h1
  exact sz6_lt (fun j hj => passing_sub hm hj) (by omega) h1 h2
theorem most_stay {v : Int32} (q : (S_X5_passing v men ao hp) = v) : ∀ n k, iter (fun k a => B_X5_mostSet_7 ao men hp k a) n k v = v := by
  intro n
  induction n with
  | zero => intro k; rfl
  | succ n ih =>
    intro k
    show iter (fun k a => B_X5_mostSet_7 ao men hp k a) n (k + 1) (S_X5_passing v men ao hp) = v
    rw [q]
    exact ih (k + 1)
theorem most_fix {v : Int32} (hm : men ≤ 6) (hv : SBn men v) : ∀ n k, sz6 v ≤ n → (S_X5_passing (iter (fun k a => B_X5_mostSet_7 ao men hp k a) n k v) men ao hp) = iter (fun k a => B_X5_mostSet_7 ao men hp k a) n k v := by
  intro n
  induction n generalizing v with
  | zero =>
    intro k hs
    refine Classical.byContradiction (fun q => ?_)
    have := passing_lt hm hv q
    have hs : sz6 v ≤ 0 := hs
    omega
  | succ n ih =>
    intro k hs
    by_cases q : (S_X5_passing v men ao hp) = v
    · rw [most_stay q]
      exact q
    · have := passing_lt hm hv q
      exact ih (passing_sb hm) (k + 1) (by omega)
theorem most_in {v : Int32} (hm : men ≤ 6) (hv : SBn men v) : ∀ n k, SBn men (iter (fun k a => B_X5_mostSet_7 ao men hp k a) n k v) ∧ ∀ j, bq (iter (fun k a => B_X5_mostSet_7 ao men hp k a) n k v) j = true → bq v j = true := by
  intro n
  induction n generalizing v with
  | zero => intro k; exact ⟨hv, fun j hj => hj⟩
  | succ n ih =>
    intro k
    obtain ⟨i1, i2⟩ := ih (v := (S_X5_passing v men ao hp)) (passing_sb hm) (k + 1)
    exact ⟨i1, fun j hj => passing_sub hm (i2 j hj)⟩
theorem mostOf_eq (h : CP2 b br men ox N yr lv dy fg wt ch ow op fg' wt' ch' ow' op' kn ov nb li al kn' ov' nb' li' al' aa ao tr hp) : S_X7_mostOf b yr men lv dy ov' al' wt' kn' li' fg' = S_X5_mostSet aa ao men hp := by
  have hm : men ≤ 6 := h.1.2.1
  show outB (fun a => K_X7_mostOf_6 a) (iterW (fun a => B_X7_mostOf_6 b yr men lv dy ov' al' wt' kn' li' fg' a) 65 (S_X7_candidates b lv ov')) = iter (fun k a => B_X5_mostSet_7 ao men hp k a) 6 0 aa
  rw [all_eq h]
  have key : ∀ m v, sz6 v ≤ m → SBn men v → (∀ j, bq v j = true → bq aa j = true) → ∀ fuel, m < fuel → ∀ n k, m ≤ n → outB (fun a => K_X7_mostOf_6 a) (iterW (fun a => B_X7_mostOf_6 b yr men lv dy ov' al' wt' kn' li' fg' a) fuel v) = iter (fun k a => B_X5_mostSet_7 ao men hp k a) n k v := by
    intro m
    induction m with
    | zero =>
      intro v hs hv hsub fuel hf n k hn
      have q : (S_X5_passing v men ao hp) = v := Classical.byContradiction (fun q => by have := passing_lt hm hv q; omega)
      cases fuel with
      | zero => omega
      | succ fuel =>
        show outB (fun a => K_X7_mostOf_6 a) (stepE (iterW (fun a => B_X7_mostOf_6 b yr men lv dy ov' al' wt' kn' li' fg' a) fuel) (B_X7_mostOf_6 b yr men lv dy ov' al' wt' kn' li' fg' v)) = _
        unfold B_X7_mostOf_6
        rw [if_neg ((whole_iff h hv hsub).mpr q), most_stay q]
        rfl
    | succ m ih =>
      intro v hs hv hsub fuel hf n k hn
      cases fuel with
      | zero => omega
      | succ fuel =>
        have hB : B_X7_mostOf_6 b yr men lv dy ov' al' wt' kn' li' fg' v = if (S_X7_isWhole b v men yr lv dy al' wt' kn' ov' li' fg') = 0 then .inl (S_X5_passing v men ao hp) else .inr v := by
          unfold B_X7_mostOf_6
          rw [← drop_eq h hv hsub]
          rfl
        show outB (fun a => K_X7_mostOf_6 a) (stepE (iterW (fun a => B_X7_mostOf_6 b yr men lv dy ov' al' wt' kn' li' fg' a) fuel) (B_X7_mostOf_6 b yr men lv dy ov' al' wt' kn' li' fg' v)) = _
        rw [hB]
        by_cases q : (S_X5_passing v men ao hp) = v
        · rw [if_neg ((whole_iff h hv hsub).mpr q), most_stay q]
          rfl
        · have hz : (S_X7_isWhole b v men yr lv dy al' wt' kn' ov' li' fg') = 0 := Classical.byContradiction (fun z => q ((whole_iff h hv hsub).mp z))
          have hlt := passing_lt hm hv q
          rw [if_pos hz]
          cases n with
          | zero => omega
          | succ n => exact ih (S_X5_passing v men ao hp) (by omega) (passing_sb hm) (fun j hj => hsub j (passing_sub hm hj)) fuel (by omega) n (k + 1) (by omega)
  exact key 6 aa sz6_le (all_sb h) (fun j hj => hj) 65 (by omega) 6 0 (by omega)
end TRIAL
