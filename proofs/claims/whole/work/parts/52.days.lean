/-! class and reference: the days -/
def JL (br men ox : Nat) (yr : Int32) (fg wt ch ow op fg' wt' ch' ow' op' : Nat → Int32) : Prop :=
  br ≤ 5 ∧ men ≤ 6 ∧ ox ≤ 5 ∧ (1 : Int32) ≤ yr ∧ (∀ b, b < br → fg' b = fg b) ∧ (∀ t, t < men → wt' t = wt t ∧ ch' t = ch t ∧ ∃ m, m < 999 ∧ wt t = nI (m + 1)) ∧ (∀ o, o < ox → ow' o = ow o ∧ op' o = op o ∧ ∃ m, m ≤ 999 ∧ op o = nI m)
def JD (N br men : Nat) (lv dy : Int32) (kn ov nb li al : Nat → Int32) (lv' dy' : Int32) (kn' ov' nb' li' al' : Nat → Int32) : Prop :=
  lv' = lv ∧ dy' = dy ∧ SBn men lv ∧ (∃ d, d ≤ N ∧ dy = nI d) ∧ (∀ t, t < men → kn' t = kn t ∧ SBn men (kn t)) ∧ (∀ b, b < br → ov' b = ov b ∧ SBn men (ov b)) ∧ (∀ b t, b < br → t < men → nb' (6 * b + t) = nb (b * 6 + t) ∧ NN men (nb (b * 6 + t)) ∧ li' (6 * b + t) = li (b * 6 + t) ∧ (li (b * 6 + t) = -1 ∨ ¬ li (b * 6 + t) < 0) ∧ al' (6 * b + t) = al (b * 6 + t))
section DAYS
variable {N br men ox : Nat} {yr : Int32} {fg wt ch ow op fg' wt' ch' ow' op' : Nat → Int32} {lv dy lv' dy' : Int32} {kn ov nb li al kn' ov' nb' li' al' : Nat → Int32}
theorem JD.up {N2 : Nat} (h : JD N br men lv dy kn ov nb li al lv' dy' kn' ov' nb' li' al') (hN : N ≤ N2) : JD N2 br men lv dy kn ov nb li al lv' dy' kn' ov' nb' li' al' := by
  obtain ⟨e1, e2, h1, ⟨d, hd, e⟩, h3⟩ := h
  exact ⟨e1, e2, h1, ⟨d, Nat.le_trans hd hN, e⟩, h3⟩
theorem JD.eaten {t : Nat} (h : JD N br men lv dy kn ov nb li al lv' dy' kn' ov' nb' li' al') : JD N br men (lv &&& ((S_X6_bit (nI t)) ^^^ (-1 : Int32))) dy kn ov nb li al (lv' &&& (((1 : Int32) <<< ((nI t) &&& 31)) ^^^ (-1 : Int32))) dy' kn' ov' nb' li' al' := by
  obtain ⟨e1, e2, h1, h3⟩ := h
  exact ⟨by rw [e1]; rfl, e2, h1.and, h3⟩
theorem JD.letgo {b t : Nat} {u x : Int32} (hm : men ≤ 6) (hb : b < br) (ht : t < men) (hu : NN men u) (h : JD N br men lv dy kn ov nb li al lv' dy' kn' ov' nb' li' al') : JD N br men lv dy kn (upd ov b ((ov b) ||| (S_X6_bit (nI t)))) (upd nb (S_X6_slot b t) u) li (upd al (S_X6_slot b t) x) lv' dy' kn' (upd ov' b ((ov' b) ||| ((1 : Int32) <<< ((nI t) &&& 31)))) (upd nb' ((6 * b) + t) u) li' (upd al' ((6 * b) + t) x) := by
  obtain ⟨e1, e2, h1, h2, h3, h4, h5⟩ := h
  unfold S_X6_slot
  refine ⟨e1, e2, h1, h2, h3, fun b2 hb2 => ?_, fun b2 t2 hb2 ht2 => ?_⟩
  · by_cases e : b2 = b
    · subst e
      rw [pk_us, pk_us, (h4 b2 hb2).1]
      exact ⟨rfl, (h4 b2 hb2).2.or (SBn.bit ht (by omega))⟩
    · rw [pk_un e, pk_un e]
      exact h4 b2 hb2
  · obtain ⟨a1, a2, a3, a4, a5⟩ := h5 b2 t2 hb2 ht2
    by_cases e : b2 = b ∧ t2 = t
    · obtain ⟨rfl, rfl⟩ := e
      rw [pk_us, pk_us, pk_us, pk_us]
      exact ⟨rfl, hu, a3, a4, rfl⟩
    · have e1 : ¬ 6 * b2 + t2 = 6 * b + t := by omega
      have e2 : ¬ b2 * 6 + t2 = b * 6 + t := by omega
      rw [pk_un e1, pk_un e2, pk_un e1, pk_un e2]
      exact ⟨a1, a2, a3, a4, a5⟩
theorem upd_self {f : Nat → Int32} {k : Nat} : upd f k (f k) = f := by
  funext j
  by_cases e : j = k
  · subst e; exact pk_us
  · exact pk_un e
theorem JD.letgo2 {b t : Nat} {u : Int32} (hm : men ≤ 6) (hb : b < br) (ht : t < men) (hu : NN men u) (h : JD N br men lv dy kn ov nb li al lv' dy' kn' ov' nb' li' al') : JD N br men lv dy kn (upd ov b ((ov b) ||| (S_X6_bit (nI t)))) (upd nb (S_X6_slot b t) u) li al lv' dy' kn' (upd ov' b ((ov' b) ||| ((1 : Int32) <<< ((nI t) &&& 31)))) (upd nb' ((6 * b) + t) u) li' (upd al' ((6 * b) + t) (al' ((6 * b) + t))) := by
  have q := h.letgo (x := al (b * 6 + t)) hm hb ht hu
  have e : S_X6_slot b t = b * 6 + t := rfl
  have e2 : al' (6 * b + t) = al (b * 6 + t) := (h.2.2.2.2.2.2 b t hb ht).2.2.2.2
  rw [e, upd_self] at q
  rw [e2, e]
  exact q
theorem go_eq {b t : Nat} {u : Int32} (hL : JL br men ox yr fg wt ch ow op fg' wt' ch' ow' op') (h : JD N br men lv dy kn ov nb li al lv' dy' kn' ov' nb' li' al') (hb : b < br) (ht : t < men) (hu : u = -1 ∨ ∃ v, v < men ∧ u = nI v ∧ bq (kn t) v = true) {c0 c4 d0 d4 : Int32} {c1 c2 c3 d1 d2 d3 : Nat → Int32} (hc : S_X0_go b t u lv dy li yr men fg kn wt ov nb al = (c0, c1, c2, c3, c4)) (hd : S_X7_crossNow b t u yr men lv' dy' wt' ov' li' fg' al' nb' = (d0, d1, d2, d3, d4)) : d0 = c0 ∧ JD N br men c4 dy kn c1 c2 li c3 d4 dy' kn' d1 d2 li' d3 := by
  obtain ⟨l1, l2, l3, l4, l5, l6, l7⟩ := hL
  obtain ⟨e1, e2, h1, h2, h3, h4, h5⟩ := id h
  obtain ⟨a1, a2, a3, a4, a5⟩ := h5 b t hb ht
  rcases hu with hu | ⟨v, hv, hu, hk⟩
  · subst hu
    have hn : NN men (-1 : Int32) := NN.none
    simp only [S_X0_go, if_true] at hc
    simp only [S_X7_crossNow, S_X7_isLetGo, if_true] at hd
    rw [e1, e2, alone_eq (w := wt) (al := al) l2 ht l4 (fun t ht => (l6 t ht).1) (l6 t ht).2.2 a5, year_eq l4 |>.symm] at hd
    by_cases q : S_X0_goesAlone b t wt yr men lv dy al = 0
    · rw [if_pos q] at hc hd
      cases hc
      cases hd
      refine ⟨rfl, ?_⟩
      have := h.eaten (t := t)
      rw [e1] at this
      exact this
    · rw [if_neg q] at hc hd
      cases hc
      cases hd
      refine ⟨rfl, ?_⟩
      have := h.letgo (u := -1) (x := S_X1_yearOf dy yr) l2 hb ht hn
      rw [e1] at this
      exact this
  · subst hu
    have hne : ¬ nI v = (-1 : Int32) := fun z => by
      have := congrArg Int32.toInt z
      rw [nI_toInt (by omega)] at this
      have e : (-1 : Int32).toInt = -1 := by decide
      omega
    have hn : NN men (nI v) := NN.nat hv (by omega)
    simp only [S_X0_go, hne, if_false] at hc
    simp only [S_X7_crossNow, S_X7_isLetGo, hne, if_false] at hd
    rw [nI_clamp (by omega), e1, e2, mayName_eq (by omega) (rem_eq a3 (l5 b hb) a4) (l6 t ht).1 (l6 v hv).1 (h4 b hb).1] at hd
    have hz := (hz6 (s := S_X0_helpers b t lv dy li men fg kn wt ov) (show v < 31 by omega))
    rw [helpers_b l2 (by omega), decide_eq_true hv, hk, Bool.true_and, Bool.true_and] at hz
    by_cases q : mn b t v lv dy li fg wt ov = true
    · rw [if_neg (fun z => by rw [hz.mp z] at q; cases q)] at hc
      rw [if_pos q, if_neg (by decide)] at hd
      cases hc
      cases hd
      refine ⟨rfl, ?_⟩
      have := h.letgo2 l2 hb ht hn
      rw [e1] at this
      exact this
    · rw [if_pos (hz.mpr (Bool.eq_false_iff.mpr q))] at hc
      rw [if_neg q, if_pos rfl] at hd
      cases hc
      cases hd
      refine ⟨rfl, ?_⟩
      have := h.eaten (t := t)
      rw [e1] at this
      exact this
/-- who lied at a bridge -/
def liar (b : Nat) (ov nb : Nat → Int32) (t : Nat) : Bool := bq (ov b) t && !decide (nb (b * 6 + t) = -1) && !bq (ov b) (nb (b * 6 + t)).toNatClampNeg
theorem NN.pos {n : Nat} {v : Int32} (h : NN n v) (hv : ¬ v = -1) : v = nI v.toNatClampNeg ∧ v.toNatClampNeg < n := h.resolve_left hv
theorem liars_b {b : Nat} (hm : men ≤ 6) (hn : ∀ t, t < men → NN men (nb (b * 6 + t))) (j : Nat) : bq (S_X0_liarsAt b men nb ov) j = (decide (j < men) && liar b ov nb j) := by
  show bq (iter (fun k a => B_X0_liarsAt_4 b nb ov k a) men 0 0) j = _
  rw [iter_set (n := men) (by omega) (liar b ov nb) 0 (fun k a hk => by
    show B_X0_liarsAt_4 b nb ov k a = _
    unfold B_X0_liarsAt_4 liar
    rw [show S_X6_slot b k = b * 6 + k from rfl]
    by_cases c : bq (ov b) k = false
    · rw [if_pos ((hz6 (by omega)).mpr c), c, Bool.false_and, Bool.false_and, if_neg (by decide)]
    · rw [if_neg (fun z => c ((hz6 (by omega)).mp z)), tf.mpr c, Bool.true_and]
      by_cases d : nb (b * 6 + k) = -1
      · rw [if_pos d, decide_eq_true d, Bool.not_true, Bool.false_and, if_neg (by decide)]
      · obtain ⟨f1, f2⟩ := (hn k hk).pos d
        have hz := hz6 (s := ov b) (k := (nb (b * 6 + k)).toNatClampNeg) (by omega)
        rw [← f1] at hz
        rw [if_neg d, decide_eq_false d, Bool.not_false, Bool.true_and]
        by_cases g : bq (ov b) (nb (b * 6 + k)).toNatClampNeg = false
        · rw [if_pos (hz.mpr g), g, Bool.not_false, if_pos rfl]; rfl
        · rw [if_neg (fun z => g (hz.mp z)), tf.mpr g, Bool.not_true, if_neg (by decide)]) j, bq_0, Bool.false_or]
theorem over_zero (f : Nat → Int32) (n : Nat) : ∀ b, b < n → iter (fun k (a : Nat → Int32) => upd a k (0 : Int32)) n 0 f b = 0 := by
  induction n with
  | zero => intro b hb; exact absurd hb (Nat.not_lt_zero b)
  | succ n ih =>
    intro b hb
    rw [iter_last]
    by_cases e : b = n
    · subst e; exact pk_us
    · rw [pk_un e]; exact ih b (by omega)
/-- the lies of two rows of days agree -/
def LL (br men : Nat) (li li' : Nat → Int32) : Prop := ∀ b t, b < br → t < men → li' (6 * b + t) = li (b * 6 + t) ∧ (li (b * 6 + t) = -1 ∨ ¬ li (b * 6 + t) < 0)
theorem LL.put {b t : Nat} {x : Int32} (hm : men ≤ 6) (h : LL br men li li') (ht : t < men) (hx : ¬ x < 0) : LL br men (upd li (b * 6 + t) x) (upd li' (6 * b + t) x) := by
  intro b2 t2 hb2 ht2
  by_cases e : b2 = b ∧ t2 = t
  · obtain ⟨rfl, rfl⟩ := e
    rw [pk_us, pk_us]
    exact ⟨rfl, Or.inr hx⟩
  · have e1 : ¬ 6 * b2 + t2 = 6 * b + t := by omega
    have e2 : ¬ b2 * 6 + t2 = b * 6 + t := by omega
    rw [pk_un e1, pk_un e2]
    exact h b2 t2 hb2 ht2
theorem eve_in {b : Nat} {v : Int32} (hm : men ≤ 6) (hb : b < br) (h4 : ∀ b, b < br → ov' b = ov b ∧ SBn men (ov b)) (h5 : ∀ t, t < men → nb' (6 * b + t) = nb (b * 6 + t) ∧ NN men (nb (b * 6 + t))) (hd : ¬ dy < 0) (hl : LL br men li li') :
    (iter (fun k (a : Int32 × (Nat → Int32)) => B_X7_evening_14 b nb' ov' dy k a.1 a.2) men 0 (v, li')).1 = (v ||| S_X0_liarsAt b men nb ov) ∧ LL br men (iter (fun k a => B_X0_endDay_24 b dy men nb ov k a) men 0 li) (iter (fun k (a : Int32 × (Nat → Int32)) => B_X7_evening_14 b nb' ov' dy k a.1 a.2) men 0 (v, li')).2 := by
  have key := iter_rel (N := men) (f := fun k a => B_X0_endDay_24 b dy men nb ov k a) (g := fun k (a : Int32 × (Nat → Int32)) => B_X7_evening_14 b nb' ov' dy k a.1 a.2) (fun k l q => (∀ j, bq q.1 j = (bq v j || (decide (j < k) && liar b ov nb j))) ∧ LL br men l q.2) (fun k l q hk hp => by
    obtain ⟨p1, p2⟩ := hp
    obtain ⟨q1, q2⟩ := q
    show (∀ j, bq (B_X7_evening_14 b nb' ov' dy k q1 q2).1 j = _) ∧ LL br men (B_X0_endDay_24 b dy men nb ov k l) (B_X7_evening_14 b nb' ov' dy k q1 q2).2
    have hs : (S_X6_has (S_X0_liarsAt b men nb ov) (nI k)) = 0 ↔ liar b ov nb k = false := by
      rw [hz6 (by omega), liars_b hm (fun t ht => (h5 t ht).2), decide_eq_true hk, Bool.true_and]
    have hv : ∀ j, (liar b ov nb k = false → bq q1 j = (bq v j || (decide (j < k + 1) && liar b ov nb j))) := fun j hf => by
      rw [p1 j]
      by_cases e : j = k
      · subst e; rw [hf, Bool.and_false, Bool.and_false]
      · by_cases l : j < k
        · rw [decide_eq_true l, decide_eq_true (show j < k + 1 by omega)]
        · rw [decide_eq_false l, decide_eq_false (show ¬ j < k + 1 by omega)]
    unfold B_X7_evening_14 B_X0_endDay_24
    rw [(h4 b hb).1, (h5 k hk).1, show S_X6_slot b k = b * 6 + k from rfl]
    by_cases c : bq (ov b) k = false
    · have hf : liar b ov nb k = false := by unfold liar; rw [c]; rfl
      rw [if_pos ((hz7 (by omega)).mpr c), if_pos (hs.mpr hf)]
      exact ⟨fun j => hv j hf, p2⟩
    · rw [if_neg (fun z => c ((hz7 (by omega)).mp z))]
      by_cases d : nb (b * 6 + k) = -1
      · have hf : liar b ov nb k = false := by unfold liar; rw [decide_eq_true d, Bool.not_true, Bool.and_false, Bool.false_and]
        rw [if_pos d, if_pos (hs.mpr hf)]
        exact ⟨fun j => hv j hf, p2⟩
      · obtain ⟨f1, f2⟩ := (h5 k hk).2.pos d
        have hz := hz7 (s := ov b) (k := (nb (b * 6 + k)).toNatClampNeg) (by omega)
        rw [← f1] at hz
        rw [if_neg d]
        by_cases g : bq (ov b) (nb (b * 6 + k)).toNatClampNeg = false
        · have hf : liar b ov nb k = true := by unfold liar; rw [tf.mpr c, decide_eq_false d, g]; rfl
          rw [if_pos (hz.mpr g), if_neg (fun z => by rw [hs.mp z] at hf; cases hf)]
          refine ⟨fun j => ?_, p2.put hm hk hd⟩
          rw [bq_or, bq_bit j (by omega), p1 j]
          by_cases e : j = k
          · subst e
            rw [hf, decide_eq_true rfl, decide_eq_true (Nat.lt_succ_self j), Bool.or_true, Bool.true_and, Bool.or_true]
          · rw [decide_eq_false e, Bool.or_false]
            by_cases l : j < k
            · rw [decide_eq_true l, decide_eq_true (show j < k + 1 by omega)]
            · rw [decide_eq_false l, decide_eq_false (show ¬ j < k + 1 by omega)]
        · have hf : liar b ov nb k = false := by unfold liar; rw [tf.mpr g, Bool.not_true, Bool.and_false]
          rw [if_neg (fun z => g (hz.mp z)), if_pos (hs.mpr hf)]
          exact ⟨fun j => hv j hf, p2⟩) men 0 li (v, li') (by omega) ⟨fun j => by rw [decide_eq_false (Nat.not_lt_zero j), Bool.false_and, Bool.or_false], hl⟩
  refine ⟨bq_ext (fun j _ => ?_), key.2⟩
  rw [key.1 j, bq_or, liars_b hm (fun t ht => (h5 t ht).2)]
theorem eve_eq (hm : men ≤ 6) (h : JD N br men lv dy kn ov nb li al lv' dy' kn' ov' nb' li' al') (hN : N ≤ 10000) {c0 c3 d0 d2 : Int32} {c1 c2 d1 d3 : Nat → Int32} (hc : S_X0_endDay br dy men nb ov li = (c0, c1, c2, c3)) (hd : S_X7_evening br men nb' ov' dy' li' = (d0, d1, d2, d3)) : d0 = c0 ∧ JD (N + 1) br men lv c3 kn c2 nb c1 al lv' d2 kn' d3 nb' d1 al' := by
  obtain ⟨e1, e2, h1, ⟨n, hn, hdy⟩, h3, h4, h5⟩ := id h
  have hd0 : ¬ dy < 0 := by rw [hdy]; exact nI_pos (by omega)
  have key := iter_rel (N := br) (f := fun k (a : Int32 × (Nat → Int32)) => B_X0_endDay_4 dy men nb ov k a.1 a.2) (g := fun k (a : Int32 × (Nat → Int32)) => B_X7_evening_4 men nb' ov' dy k a.1 a.2) (fun k l q => q.1 = l.1 ∧ LL br men l.2 q.2) (fun k l q hk hp => by
    obtain ⟨l1, l2⟩ := l
    obtain ⟨q1, q2⟩ := q
    obtain ⟨p1, p2⟩ := hp
    have p1 : q1 = l1 := p1
    subst p1
    exact eve_in (v := q1) hm hk h4 (fun t ht => ⟨(h5 k t hk ht).1, (h5 k t hk ht).2.1⟩) hd0 p2) br 0 ((0 : Int32), li) ((0 : Int32), li') (by omega) ⟨rfl, fun b t hb ht => ⟨(h5 b t hb ht).2.2.1, (h5 b t hb ht).2.2.2.1⟩⟩
  rw [e2] at hd
  unfold S_X0_endDay at hc
  unfold S_X7_evening at hd
  generalize iter (fun k (a : Int32 × (Nat → Int32)) => B_X0_endDay_4 dy men nb ov k a.1 a.2) br 0 ((0 : Int32), li) = r1 at hc key
  generalize iter (fun k (a : Int32 × (Nat → Int32)) => B_X7_evening_4 men nb' ov' dy k a.1 a.2) br 0 ((0 : Int32), li') = r2 at hd key
  have hc : (r1.1, r1.2, iter (fun k (a : Nat → Int32) => upd a k (0 : Int32)) br 0 ov, dy + (1 : Int32)) = (c0, c1, c2, c3) := hc
  have hd : (r2.1, r2.2, dy + (1 : Int32), iter (fun k (a : Nat → Int32) => upd a k (0 : Int32)) br 0 ov') = (d0, d1, d2, d3) := hd
  cases hc
  cases hd
  refine ⟨key.1, e1, rfl, h1, ⟨n + 1, by omega, by rw [hdy, nI_1]⟩, h3, fun b hb => ?_, fun b t hb ht => ?_⟩
  · rw [over_zero ov br b hb, over_zero ov' br b hb]
    exact ⟨rfl, SBn.zero⟩
  · obtain ⟨a1, a2, a3, a4, a5⟩ := h5 b t hb ht
    exact ⟨a1, a2, (key.2 b t hb ht).1, (key.2 b t hb ht).2, a5⟩
end DAYS
