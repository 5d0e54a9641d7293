/-! class and reference: who is found out -/
section FOUND
variable {N br men ox : Nat} {yr : Int32} {fg wt ch ow op fg' wt' ch' ow' op' : Nat → Int32} {lv dy lv' dy' : Int32} {kn ov nb li al kn' ov' nb' li' al' : Nat → Int32}
theorem iter_orx {n : Nat} {f : Nat → Int32 → Int32} (P : Nat → Nat → Prop) (hf : ∀ k a j, k < n → (bq (f k a) j = true ↔ (bq a j = true ∨ P k j))) (a : Int32) (j : Nat) : bq (iter f n 0 a) j = true ↔ (bq a j = true ∨ ∃ k, k < n ∧ P k j) := by
  have key : ∀ m, m ≤ n → (bq (iter f m 0 a) j = true ↔ (bq a j = true ∨ ∃ k, k < m ∧ P k j)) := by
    intro m
    induction m with
    | zero => intro _; exact ⟨fun z => Or.inl z, fun z => by rcases z with z | ⟨k, hk, _⟩; exact z; exact absurd hk (Nat.not_lt_zero k)⟩
    | succ m ih =>
      intro hm
      rw [iter_last, hf m _ j (by omega), ih (by omega)]
      constructor
      · rintro ((z | ⟨k, hk, z⟩) | z)
        · exact Or.inl z
        · exact Or.inr ⟨k, by omega, z⟩
        · exact Or.inr ⟨m, by omega, z⟩
      · rintro (z | ⟨k, hk, z⟩)
        · exact Or.inl (Or.inl z)
        · by_cases e : k = m
          · subst e; exact Or.inr z
          · exact Or.inl (Or.inr ⟨k, by omega, z⟩)
  exact key n (Nat.le_refl n)
theorem bq_eq {a b : Int32} (h : ∀ j, bq a j = true ↔ bq b j = true) : a = b := bq_ext (fun k _ => by
  have := h k
  cases p : bq a k <;> cases q : bq b k
  · rfl
  · rw [p, q] at this; exact absurd (this.mpr rfl) (by decide)
  · rw [p, q] at this; exact absurd (this.mp rfl) (by decide)
  · rfl)
def Unl (n : Nat) (ov nb : Nat → Int32) (t : Nat) : Prop := ∃ b, b < n ∧ ∃ c, c < b ∧ bq (ov b) t = true ∧ bq (ov c) t = true ∧ ¬ nb (b * 6 + t) = nb (c * 6 + t)
def Ded (n : Nat) (lv : Int32) (ov nb : Nat → Int32) (t : Nat) : Prop := ∃ b, b < n ∧ bq (ov b) t = true ∧ ¬ nb (b * 6 + t) = -1 ∧ bq lv (nb (b * 6 + t)).toNatClampNeg = false
theorem unlike_b (hm : men ≤ 6) (j : Nat) : bq (S_X0_saidUnlike br men ov nb) j = true ↔ (j < men ∧ Unl br ov nb j) := by
  show bq (iter (fun k a => B_X0_saidUnlike_4 men ov nb k a) br 0 0) j = true ↔ _
  rw [iter_orx (fun b j => j < men ∧ ∃ c, c < b ∧ bq (ov b) j = true ∧ bq (ov c) j = true ∧ ¬ nb (b * 6 + j) = nb (c * 6 + j)) (fun b a j hb => by
    show bq (iter (fun k a => B_X0_saidUnlike_17 b men ov nb k a) b 0 a) j = true ↔ _
    rw [iter_orx (fun c j => j < men ∧ bq (ov b) j = true ∧ bq (ov c) j = true ∧ ¬ nb (b * 6 + j) = nb (c * 6 + j)) (fun c a j hc => by
      show bq (iter (fun k a => B_X0_saidUnlike_25 b c ov nb k a) men 0 a) j = true ↔ _
      rw [iter_orx (fun t j => j = t ∧ bq (ov b) t = true ∧ bq (ov c) t = true ∧ ¬ nb (b * 6 + t) = nb (c * 6 + t)) (fun t a j ht => by
        show bq (B_X0_saidUnlike_25 b c ov nb t a) j = true ↔ _
        unfold B_X0_saidUnlike_25
        rw [show S_X6_slot b t = b * 6 + t from rfl, show S_X6_slot c t = c * 6 + t from rfl]
        have hz := hz6 (s := (ov b) &&& (ov c)) (show t < 31 by omega)
        rw [bq_and] at hz
        by_cases q : (bq (ov b) t && bq (ov c) t) = false
        · rw [if_pos (hz.mpr q)]
          refine ⟨Or.inl, fun z => ?_⟩
          rcases z with z | ⟨_, z1, z2, _⟩
          · exact z
          · rw [z1, z2] at q; cases q
        · rw [if_neg (fun z => q (hz.mp z))]
          have q1 : bq (ov b) t = true ∧ bq (ov c) t = true := by
            revert q; cases bq (ov b) t <;> cases bq (ov c) t <;> first | exact fun q => absurd rfl q | exact fun _ => ⟨rfl, rfl⟩
          by_cases r : nb (b * 6 + t) = nb (c * 6 + t)
          · rw [if_pos r]
            exact ⟨Or.inl, fun z => by rcases z with z | z; exact z; exact absurd r z.2.2.2⟩
          · rw [if_neg r, bq_or, bq_bit6 j (by omega), Bool.or_eq_true, decide_eq_true_iff]
            exact ⟨fun z => z.imp id (fun e => ⟨e, q1.1, q1.2, r⟩), fun z => z.imp id (fun e => e.1)⟩) a j]
      constructor
      · rintro (z | ⟨t, ht, rfl, z⟩)
        · exact Or.inl z
        · exact Or.inr ⟨ht, z⟩
      · rintro (z | ⟨ht, z⟩)
        · exact Or.inl z
        · exact Or.inr ⟨j, ht, rfl, z⟩) a j]
    constructor
    · rintro (z | ⟨c, hc, hj, z⟩)
      · exact Or.inl z
      · exact Or.inr ⟨hj, c, hc, z⟩
    · rintro (z | ⟨hj, c, hc, z⟩)
      · exact Or.inl z
      · exact Or.inr ⟨c, hc, hj, z⟩) 0 j, bq_0]
  constructor
  · rintro (z | ⟨b, hb, hj, z⟩)
    · cases z
    · exact ⟨hj, b, hb, z⟩
  · rintro ⟨hj, b, hb, z⟩
    exact Or.inr ⟨b, hb, hj, z⟩
theorem dead_b (hm : men ≤ 6) (hn : ∀ b t, b < br → t < men → NN men (nb (b * 6 + t))) (j : Nat) : bq (S_X0_saidTheDead br men lv nb ov) j = true ↔ (j < men ∧ Ded br lv ov nb j) := by
  show bq (iter (fun k a => B_X0_saidTheDead_4 men lv nb ov k a) br 0 0) j = true ↔ _
  rw [iter_orx (fun b j => j < men ∧ bq (ov b) j = true ∧ ¬ nb (b * 6 + j) = -1 ∧ bq lv (nb (b * 6 + j)).toNatClampNeg = false) (fun b a j hb => by
    show bq (iter (fun k a => B_X0_saidTheDead_17 b lv nb ov k a) men 0 a) j = true ↔ _
    rw [iter_orx (fun t j => j = t ∧ bq (ov b) t = true ∧ ¬ nb (b * 6 + t) = -1 ∧ bq lv (nb (b * 6 + t)).toNatClampNeg = false) (fun t a j ht => by
      show bq (B_X0_saidTheDead_17 b lv nb ov t a) j = true ↔ _
      unfold B_X0_saidTheDead_17
      rw [show S_X6_slot b t = b * 6 + t from rfl]
      by_cases q : bq (ov b) t = false
      · rw [if_pos ((hz6 (by omega)).mpr q)]
        exact ⟨Or.inl, fun z => by rcases z with z | z; exact z; exact absurd (q.symm.trans z.2.1) (by decide)⟩
      · rw [if_neg (fun z => q ((hz6 (by omega)).mp z))]
        by_cases r : nb (b * 6 + t) = -1
        · rw [if_pos r]
          exact ⟨Or.inl, fun z => by rcases z with z | z; exact z; exact absurd r z.2.2.1⟩
        · rw [if_neg r]
          obtain ⟨k1, k2⟩ := (hn b t hb ht).pos r
          have hz := hz6 (s := lv) (k := (nb (b * 6 + t)).toNatClampNeg) (by omega)
          rw [← k1] at hz
          by_cases s : bq lv (nb (b * 6 + t)).toNatClampNeg = false
          · rw [if_pos (hz.mpr s), bq_or, bq_bit6 j (by omega), Bool.or_eq_true, decide_eq_true_iff]
            exact ⟨fun z => z.imp id (fun e => ⟨e, tf.mpr q, r, s⟩), fun z => z.imp id (fun e => e.1)⟩
          · rw [if_neg (fun z => s (hz.mp z))]
            exact ⟨Or.inl, fun z => by rcases z with z | z; exact z; exact absurd z.2.2.2 s⟩) a j]
    constructor
    · rintro (z | ⟨t, ht, rfl, z⟩)
      · exact Or.inl z
      · exact Or.inr ⟨ht, z⟩
    · rintro (z | ⟨ht, z⟩)
      · exact Or.inl z
      · exact Or.inr ⟨j, ht, rfl, z⟩) 0 j, bq_0]
  constructor
  · rintro (z | ⟨b, hb, hj, z⟩)
    · cases z
    · exact ⟨hj, b, hb, z⟩
  · rintro ⟨hj, b, hb, z⟩
    exact Or.inr ⟨b, hb, hj, z⟩
theorem found_step {b t : Nat} {f g u x : Int32} {al1 : Int32} (hov : ov' b = ov b) (hq : bq (ov b) t = true) (ht : t < 31) (hnb : nb' (6 * b + t) = x) (hx : NN 6 x) : B_X7_found_36 t nb' ov' lv b f g u = (x, (g ||| (if ¬ x = -1 ∧ bq lv x.toNatClampNeg = false then ((1 : Int32) <<< ((nI t) &&& 31)) else 0)), (u ||| (if ¬ f = -2 ∧ ¬ f = x then ((1 : Int32) <<< ((nI t) &&& 31)) else 0))) := by
  unfold B_X7_found_36
  rw [hov, hnb, if_neg (fun z => by rw [(hz7 ht).mp z] at hq; cases hq)]
  have hS : ¬ x = -1 → (S_X7_has lv x = 0 ↔ bq lv x.toNatClampNeg = false) := fun h => by
    obtain ⟨k1, k2⟩ := hx.pos h
    have hz := hz7 (s := lv) (k := x.toNatClampNeg) (by omega)
    rw [← k1] at hz
    exact hz
  by_cases a : f = -2
  · rw [if_pos a, if_neg (fun z : ¬ f = -2 ∧ ¬ f = x => z.1 a)]
    by_cases b : x = -1
    · rw [if_pos b, if_neg (fun z : ¬ x = -1 ∧ bq lv x.toNatClampNeg = false => z.1 b)]
    · rw [if_neg b]
      by_cases c : bq lv x.toNatClampNeg = false
      · rw [if_pos ((hS b).mpr c), if_pos ⟨b, c⟩]
      · rw [if_neg (fun z => c ((hS b).mp z)), if_neg (fun z : ¬ x = -1 ∧ bq lv x.toNatClampNeg = false => c z.2)]
  · rw [if_neg a]
    by_cases d : f = x
    · rw [if_pos d, if_neg (fun z : ¬ f = -2 ∧ ¬ f = x => z.2 d)]
      by_cases b : x = -1
      · rw [if_pos b, if_neg (fun z : ¬ x = -1 ∧ bq lv x.toNatClampNeg = false => z.1 b)]
      · rw [if_neg b]
        by_cases c : bq lv x.toNatClampNeg = false
        · rw [if_pos ((hS b).mpr c), if_pos ⟨b, c⟩]
        · rw [if_neg (fun z => c ((hS b).mp z)), if_neg (fun z : ¬ x = -1 ∧ bq lv x.toNatClampNeg = false => c z.2)]
    · rw [if_neg d, if_pos (⟨a, d⟩ : ¬ f = -2 ∧ ¬ f = x)]
      by_cases b : x = -1
      · rw [if_pos b, if_neg (fun z : ¬ x = -1 ∧ bq lv x.toNatClampNeg = false => z.1 b)]
      · rw [if_neg b]
        by_cases c : bq lv x.toNatClampNeg = false
        · rw [if_pos ((hS b).mpr c), if_pos ⟨b, c⟩]
        · rw [if_neg (fun z => c ((hS b).mp z)), if_neg (fun z : ¬ x = -1 ∧ bq lv x.toNatClampNeg = false => c z.2)]
theorem bq_orif {a : Int32} {t j : Nat} {P : Prop} [Decidable P] (ht : t < 31) : bq (a ||| (if P then ((1 : Int32) <<< ((nI t) &&& 31)) else 0)) j = true ↔ (bq a j = true ∨ (j = t ∧ P)) := by
  rw [bq_or, Bool.or_eq_true]
  by_cases p : P
  · rw [if_pos p, bq_bit j ht, decide_eq_true_iff]
    exact ⟨fun z => z.imp id (fun e => ⟨e, p⟩), fun z => z.imp id (fun e => e.1)⟩
  · rw [if_neg p, bq_0]
    exact ⟨fun z => Or.inl (z.resolve_right (by decide)), fun z => Or.inl (z.resolve_right (fun y => p y.2))⟩
theorem found_in {t : Nat} {g u : Int32} (hm : men ≤ 6) (ht : t < men) (h4 : ∀ b, b < br → ov' b = ov b) (h5 : ∀ b, b < br → nb' (6 * b + t) = nb (b * 6 + t) ∧ NN men (nb (b * 6 + t))) : ∀ n, n ≤ br →
    ((iter (fun k (a : Int32 × Int32 × Int32) => B_X7_found_36 t nb' ov' lv k a.1 a.2.1 a.2.2) n 0 ((-2 : Int32), g, u)).1 = -2 ∧ (∀ b, b < n → bq (ov b) t = false) ∨ ∃ l, l < n ∧ bq (ov l) t = true ∧ (iter (fun k (a : Int32 × Int32 × Int32) => B_X7_found_36 t nb' ov' lv k a.1 a.2.1 a.2.2) n 0 ((-2 : Int32), g, u)).1 = nb (l * 6 + t)) ∧
    (∀ j, bq (iter (fun k (a : Int32 × Int32 × Int32) => B_X7_found_36 t nb' ov' lv k a.1 a.2.1 a.2.2) n 0 ((-2 : Int32), g, u)).2.1 j = true ↔ (bq g j = true ∨ (j = t ∧ Ded n lv ov nb t))) ∧
    (∀ j, bq (iter (fun k (a : Int32 × Int32 × Int32) => B_X7_found_36 t nb' ov' lv k a.1 a.2.1 a.2.2) n 0 ((-2 : Int32), g, u)).2.2 j = true ↔ (bq u j = true ∨ (j = t ∧ Unl n ov nb t))) := by
  intro n
  induction n with
  | zero =>
    intro _
    refine ⟨Or.inl ⟨rfl, fun b hb => absurd hb (Nat.not_lt_zero b)⟩, fun j => ⟨Or.inl, fun z => ?_⟩, fun j => ⟨Or.inl, fun z => ?_⟩⟩
    · rcases z with z | ⟨_, b, hb, _⟩
      · exact z
      · exact absurd hb (Nat.not_lt_zero b)
    · rcases z with z | ⟨_, b, hb, _⟩
      · exact z
      · exact absurd hb (Nat.not_lt_zero b)
  | succ n ih =>
    intro hn
    obtain ⟨i1, i2, i3⟩ := ih (by omega)
    rw [iter_last]
    generalize iter (fun k (a : Int32 × Int32 × Int32) => B_X7_found_36 t nb' ov' lv k a.1 a.2.1 a.2.2) n 0 ((-2 : Int32), g, u) = r at i1 i2 i3 ⊢
    obtain ⟨f, g1, u1⟩ := r
    have i1 : (f = -2 ∧ (∀ b, b < n → bq (ov b) t = false)) ∨ ∃ l, l < n ∧ bq (ov l) t = true ∧ f = nb (l * 6 + t) := i1
    have i2 : ∀ j, bq g1 j = true ↔ (bq g j = true ∨ (j = t ∧ Ded n lv ov nb t)) := i2
    have i3 : ∀ j, bq u1 j = true ↔ (bq u j = true ∨ (j = t ∧ Unl n ov nb t)) := i3
    obtain ⟨hx, hN⟩ := h5 n (by omega)
    by_cases q : bq (ov n) t = false
    · have e : B_X7_found_36 t nb' ov' lv n f g1 u1 = (f, g1, u1) := by
        unfold B_X7_found_36
        rw [h4 n (by omega), if_pos ((hz7 (by omega)).mpr q)]
      rw [show B_X7_found_36 t nb' ov' lv n (f, g1, u1).1 (f, g1, u1).2.1 (f, g1, u1).2.2 = (f, g1, u1) from e]
      refine ⟨?_, fun j => ?_, fun j => ?_⟩
      · rcases i1 with ⟨a, b⟩ | ⟨l, hl, a, b⟩
        · exact Or.inl ⟨a, fun c hc => if e : c = n then by rw [e]; exact q else b c (by omega)⟩
        · exact Or.inr ⟨l, by omega, a, b⟩
      · show bq g1 j = true ↔ _
        rw [i2 j]
        refine or_congr_right (and_congr_right (fun _ => ⟨fun ⟨b, hb, z⟩ => ⟨b, by omega, z⟩, fun ⟨b, hb, z⟩ => ⟨b, ?_, z⟩⟩))
        by_cases e : b = n
        · subst e; rw [q] at z; cases z.1
        · omega
      · show bq u1 j = true ↔ _
        rw [i3 j]
        refine or_congr_right (and_congr_right (fun _ => ⟨fun ⟨b, hb, z⟩ => ⟨b, by omega, z⟩, fun ⟨b, hb, c, hc, z⟩ => ⟨b, ?_, c, hc, z⟩⟩))
        by_cases e : b = n
        · subst e; rw [q] at z; cases z.1
        · omega
    · have q := tf.mpr q
      have he := found_step (lv := lv) (f := f) (g := g1) (u := u1) (al1 := 0) (h4 n (by omega)) q (by omega) hx (hN.up (by omega))
      rw [show B_X7_found_36 t nb' ov' lv n (f, g1, u1).1 (f, g1, u1).2.1 (f, g1, u1).2.2 = _ from he]
      clear he
      refine ⟨Or.inr ⟨n, by omega, q, rfl⟩, fun j => ?_, fun j => ?_⟩
      · show bq (g1 ||| _) j = true ↔ _
        rw [bq_orif (by omega), i2 j, or_assoc]
        refine or_congr_right ?_
        constructor
        · rintro (⟨e, b, hb, z⟩ | ⟨e, z⟩)
          · exact ⟨e, b, by omega, z⟩
          · exact ⟨e, n, by omega, q, z⟩
        · rintro ⟨e, b, hb, z⟩
          by_cases c : b = n
          · subst c; exact Or.inr ⟨e, z.2⟩
          · exact Or.inl ⟨e, b, by omega, z⟩
      · show bq (u1 ||| _) j = true ↔ _
        rw [bq_orif (by omega), i3 j, or_assoc]
        refine or_congr_right ?_
        constructor
        · rintro (⟨e, b, hb, z⟩ | ⟨e, z⟩)
          · exact ⟨e, b, by omega, z⟩
          · rcases i1 with ⟨a, _⟩ | ⟨l, hl, a, b⟩
            · exact absurd a z.1
            · exact ⟨e, n, by omega, l, hl, q, a, fun y => z.2 (b.trans y.symm)⟩
        · rintro ⟨e, b, hb, c, hc, z1, z2, z3⟩
          by_cases y : b = n
          · subst y
            rcases i1 with ⟨_, a⟩ | ⟨l, hl, a, w⟩
            · rw [a c hc] at z2; cases z2
            · by_cases v : nb (l * 6 + t) = nb (b * 6 + t)
              · refine Or.inl ⟨e, ?_⟩
                rcases Nat.lt_trichotomy l c with y | y | y
                · exact ⟨c, hc, l, y, z2, a, fun z => z3 (v.symm.trans z.symm)⟩
                · exact absurd (by rw [← y]; exact v.symm) z3
                · exact ⟨l, hl, c, y, a, z2, fun z => z3 (v.symm.trans z)⟩
              · refine Or.inr ⟨e, fun z => ?_, fun z => v (w.symm.trans z)⟩
                rw [w] at z
                obtain ⟨_, hNl⟩ := h5 l (by omega)
                rcases hNl with y | ⟨y, _⟩
                · exact absurd (y.symm.trans z) (by decide)
                · have e3 := congrArg Int32.toInt (y.symm.trans z)
                  rw [nI_toInt (Int32.toNatClampNeg_lt _)] at e3
                  have e4 : (-2 : Int32).toInt = -2 := by decide
                  omega
          · exact Or.inl ⟨e, b, by omega, c, hc, z1, z2, z3⟩
theorem found_top {x1 : Int32} (hL : JL br men ox yr fg wt ch ow op fg' wt' ch' ow' op') (h : JD N br men lv dy kn ov nb li al lv' dy' kn' ov' nb' li' al') : S_X7_found x1 men br nb' ov' lv' = S_X6_found x1 lv br men ov nb := by
  obtain ⟨l1, l2, l3, l4, l5, l6, l7⟩ := id hL
  obtain ⟨e1, e2, h1, h2, h3, h4, h5⟩ := id h
  unfold S_X7_found S_X6_found
  rw [e1]
  have key : ∀ n, n ≤ men → (∀ j, bq (iter (fun k (a : Int32 × Int32) => B_X7_found_20 br nb' ov' lv k a.1 a.2) n 0 ((0 : Int32), (0 : Int32))).1 j = true ↔ (j < n ∧ Ded br lv ov nb j)) ∧ (∀ j, bq (iter (fun k (a : Int32 × Int32) => B_X7_found_20 br nb' ov' lv k a.1 a.2) n 0 ((0 : Int32), (0 : Int32))).2 j = true ↔ (j < n ∧ Unl br ov nb j)) := by
    intro n
    induction n with
    | zero =>
      intro _
      refine ⟨fun j => ?_, fun j => ?_⟩
      · show bq 0 j = true ↔ _
        rw [bq_0]; exact ⟨fun z => absurd z (by decide), fun z => absurd z.1 (Nat.not_lt_zero j)⟩
      · show bq 0 j = true ↔ _
        rw [bq_0]; exact ⟨fun z => absurd z (by decide), fun z => absurd z.1 (Nat.not_lt_zero j)⟩
    | succ n ih =>
      intro hn
      obtain ⟨i1, i2⟩ := ih (by omega)
      rw [iter_last]
      generalize iter (fun k (a : Int32 × Int32) => B_X7_found_20 br nb' ov' lv k a.1 a.2) n 0 ((0 : Int32), (0 : Int32)) = r at i1 i2 ⊢
      obtain ⟨g, u⟩ := r
      have hi := found_in (lv := lv) (ov := ov) (nb := nb) (ov' := ov') (nb' := nb') (g := g) (u := u) l2 (show n < men by omega) (fun b hb => (h4 b hb).1) (fun b hb => ⟨(h5 b n hb (by omega)).1, (h5 b n hb (by omega)).2.1⟩) br (Nat.le_refl br)
      refine ⟨fun j => ?_, fun j => ?_⟩
      · show bq (iter (fun k (a : Int32 × Int32 × Int32) => B_X7_found_36 n nb' ov' lv k a.1 a.2.1 a.2.2) br 0 ((-2 : Int32), g, u)).2.1 j = true ↔ _
        rw [hi.2.1 j, show (bq g j = true ↔ (j < n ∧ Ded br lv ov nb j)) from i1 j]
        constructor
        · rintro (z | ⟨rfl, z⟩)
          · exact ⟨by omega, z.2⟩
          · exact ⟨by omega, z⟩
        · rintro ⟨hj, z⟩
          by_cases e : j = n
          · subst e; exact Or.inr ⟨rfl, z⟩
          · exact Or.inl ⟨by omega, z⟩
      · show bq (iter (fun k (a : Int32 × Int32 × Int32) => B_X7_found_36 n nb' ov' lv k a.1 a.2.1 a.2.2) br 0 ((-2 : Int32), g, u)).2.2 j = true ↔ _
        rw [hi.2.2 j, show (bq u j = true ↔ (j < n ∧ Unl br ov nb j)) from i2 j]
        constructor
        · rintro (z | ⟨rfl, z⟩)
          · exact ⟨by omega, z.2⟩
          · exact ⟨by omega, z⟩
        · rintro ⟨hj, z⟩
          by_cases e : j = n
          · subst e; exact Or.inr ⟨rfl, z⟩
          · exact Or.inl ⟨by omega, z⟩
  obtain ⟨k1, k2⟩ := key men (Nat.le_refl men)
  have m1 : (iter (fun k (a : Int32 × Int32) => B_X7_found_20 br nb' ov' lv k a.1 a.2) men 0 ((0 : Int32), (0 : Int32))).1 = S_X0_saidTheDead br men lv nb ov := bq_eq (fun j => (k1 j).trans (dead_b l2 (fun b t hb ht => (h5 b t hb ht).2.1) j).symm)
  have m2 : (iter (fun k (a : Int32 × Int32) => B_X7_found_20 br nb' ov' lv k a.1 a.2) men 0 ((0 : Int32), (0 : Int32))).2 = S_X0_saidUnlike br men ov nb := bq_eq (fun j => (k2 j).trans (unlike_b l2 j).symm)
  rw [show (0 : Int64) = (0 : Int32).toInt64 from by decide, show (1 : Int64) = (1 : Int32).toInt64 from by decide, in_gen]
  show (if (if x1 < 0 then (0 : Int32) else if 1 < x1 then 0 else 1) = 0 then (-1000000002 : Int32) else (if x1 = 0 then (iter (fun k (a : Int32 × Int32) => B_X7_found_20 br nb' ov' lv k a.1 a.2) men 0 ((0 : Int32), (0 : Int32))).2 else (iter (fun k (a : Int32 × Int32) => B_X7_found_20 br nb' ov' lv k a.1 a.2) men 0 ((0 : Int32), (0 : Int32))).1)) = _
  rw [m1, m2]
  have h01 : x1 = 0 ∨ x1 = 1 ∨ x1 < 0 ∨ 1 < x1 := by
    by_cases a : x1 < 0
    · exact Or.inr (Or.inr (Or.inl a))
    · by_cases b : 1 < x1
      · exact Or.inr (Or.inr (Or.inr b))
      · obtain ⟨j, hj, rfl⟩ := nI_of a
        have : j ≤ 1 := (nI_leI (b := 1) hj (by decide)).mp (Int32.not_lt.mp b)
        rcases (show j = 0 ∨ j = 1 by omega) with rfl | rfl
        · exact Or.inl rfl
        · exact Or.inr (Or.inl rfl)
  rcases h01 with q | q | q | q
  · rw [q]; rfl
  · rw [q]; rfl
  · have n0 : ¬ x1 = 0 := fun z => by rw [z] at q; exact absurd q (by decide)
    have n1 : ¬ x1 = 1 := fun z => by rw [z] at q; exact absurd q (by decide)
    rw [if_pos q, if_pos rfl, if_neg n0, if_neg n1]
  · have n0 : ¬ x1 = 0 := fun z => by rw [z] at q; exact absurd q (by decide)
    have n1 : ¬ x1 = 1 := fun z => by rw [z] at q; exact absurd q (by decide)
    have n2 : ¬ x1 < 0 := fun z => by
      rw [Int32.lt_iff_toInt_lt] at z q
      have a0 : (0 : Int32).toInt = 0 := by decide
      have a1 : (1 : Int32).toInt = 1 := by decide
      omega
    rw [if_neg n2, if_pos q, if_pos rfl, if_neg n0, if_neg n1]
end FOUND
