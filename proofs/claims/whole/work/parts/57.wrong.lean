/-! class and reference: the row judged -/
section WRONG
variable {N br men ox : Nat} {yr : Int32} {fg wt ch ow op fg' wt' ch' ow' op' : Nat → Int32} {lv dy lv' dy' : Int32} {kn ov nb li al kn' ov' nb' li' al' : Nat → Int32}
theorem nI_nm1 {v : Nat} (h : v < 2 ^ 31) : ¬ nI v = (-1 : Int32) := fun z => by
  have := congrArg Int32.toInt z
  rw [nI_toInt h] at this
  have e : (-1 : Int32).toInt = -1 := by decide
  omega
theorem iterD_ind {α : Type} {b : Nat → α → α} {N : Nat} (P : Nat → α → Prop) (h : ∀ j a, j < N → P (j + 1) a → P j (b j a)) : ∀ (j : Nat) (a : α), j ≤ N → P j a → P 0 (iterD b j a) := by
  intro j
  induction j with
  | zero => intro a _ hp; exact hp
  | succ j ih => intro a hj hp; exact ih (b j a) (by omega) (h j a (by omega) hp)
def Liar (cnt : Nat) (wh by1 : Nat → Int32) (k : Nat) : Prop := ¬ by1 k = -1 ∧ ∀ i, k < i → i < cnt → ¬ wh i = by1 k
theorem behind_z {cnt k : Nat} {wh by1 : Nat → Int32} (hk : k < cnt) : S_X7_isBehind k by1 cnt wh = 0 ↔ Liar cnt wh by1 k := by
  have key : ∀ a : Int32, (a = 0 ∨ a = 1) → ∀ n s, s + n = cnt → k < s → ((iter (fun j a => B_X7_isBehind_20 k by1 wh j a) n s a = 0 ∨ iter (fun j a => B_X7_isBehind_20 k by1 wh j a) n s a = 1) ∧ (iter (fun j a => B_X7_isBehind_20 k by1 wh j a) n s a = 0 ↔ (a = 0 ∧ ∀ i, s ≤ i → i < cnt → ¬ wh i = by1 k))) := by
    intro a ha n
    induction n generalizing a with
    | zero => intro s hs _; exact ⟨ha, ⟨fun z => ⟨z, fun i h1 h2 => by omega⟩, fun z => z.1⟩⟩
    | succ n ih =>
      intro s hs hks
      show (iter (fun j a => B_X7_isBehind_20 k by1 wh j a) n (s + 1) (B_X7_isBehind_20 k by1 wh s a) = 0 ∨ iter (fun j a => B_X7_isBehind_20 k by1 wh j a) n (s + 1) (B_X7_isBehind_20 k by1 wh s a) = 1) ∧ (iter (fun j a => B_X7_isBehind_20 k by1 wh j a) n (s + 1) (B_X7_isBehind_20 k by1 wh s a) = 0 ↔ _)
      have hb : (B_X7_isBehind_20 k by1 wh s a = 0 ∨ B_X7_isBehind_20 k by1 wh s a = 1) ∧ (B_X7_isBehind_20 k by1 wh s a = 0 ↔ (a = 0 ∧ ¬ wh s = by1 k)) := by
        unfold B_X7_isBehind_20
        by_cases c : a = 0
        · rw [if_pos c]
          by_cases d : wh s = by1 k
          · rw [if_pos d]; exact ⟨Or.inr rfl, ⟨fun z => absurd z (by decide), fun z => absurd d z.2⟩⟩
          · rw [if_neg d]; exact ⟨Or.inl rfl, ⟨fun _ => ⟨c, d⟩, fun _ => rfl⟩⟩
        · rw [if_neg c]; exact ⟨Or.inr rfl, ⟨fun z => absurd z (by decide), fun z => absurd z.1 c⟩⟩
      obtain ⟨h1, h2⟩ := ih (B_X7_isBehind_20 k by1 wh s a) hb.1 (s + 1) (by omega) (by omega)
      refine ⟨h1, h2.trans ?_⟩
      rw [hb.2]
      constructor
      · rintro ⟨⟨z1, z2⟩, z3⟩
        exact ⟨z1, fun i h1 h2 => if e : i = s then by rw [e]; exact z2 else z3 i (by omega) h2⟩
      · rintro ⟨z1, z2⟩
        exact ⟨⟨z1, z2 s (Nat.le_refl s) (by omega)⟩, fun i h1 h2 => z2 i (by omega) h2⟩
  unfold S_X7_isBehind Liar
  by_cases c : by1 k = -1
  · rw [if_pos c]
    show iter (fun j a => B_X7_isBehind_20 k by1 wh j a) (cnt - (k + 1)) (k + 1) 1 = 0 ↔ _
    rw [(key 1 (Or.inr rfl) (cnt - (k + 1)) (k + 1) (by omega) (by omega)).2]
    exact ⟨fun z => absurd z.1 (by decide), fun z => absurd c z.1⟩
  · rw [if_neg c]
    show iter (fun j a => B_X7_isBehind_20 k by1 wh j a) (cnt - (k + 1)) (k + 1) 0 = 0 ↔ _
    rw [(key 0 (Or.inl rfl) (cnt - (k + 1)) (k + 1) (by omega) (by omega)).2]
    exact ⟨fun z => ⟨c, fun i h1 h2 => z.2 i (by omega) h2⟩, fun z => ⟨rfl, fun i h1 h2 => z.2 i (by omega) h2⟩⟩
/-- the first of a row of which P holds, as a number -/
def FirstOf (cnt : Nat) (P : Nat → Prop) (r : Int32) : Prop := (r = -1 ∧ ∀ i, i < cnt → ¬ P i) ∨ ∃ i, i < cnt ∧ r = nI i ∧ P i ∧ ∀ j, j < i → ¬ P j
theorem FirstOf.eq {cnt : Nat} {P : Nat → Prop} {r s : Int32} (h1 : FirstOf cnt P r) (h2 : FirstOf cnt P s) : r = s := by
  rcases h1 with ⟨a, b⟩ | ⟨i, hi, a, b, c⟩ <;> rcases h2 with ⟨d, e⟩ | ⟨j, hj, d, e, f⟩
  · rw [a, d]
  · exact absurd e (b j hj)
  · exact absurd b (e i hi)
  · rcases Nat.lt_trichotomy i j with z | z | z
    · exact absurd b (f i z)
    · rw [a, d, z]
    · exact absurd e (c j z)
theorem firstLiar_ok {cnt : Nat} {wh by1 : Nat → Int32} (hc : cnt ≤ 6) (hw : ∀ i, i < cnt → RN 6 (wh i) ∧ NN 6 (by1 i)) : FirstOf cnt (Liar cnt wh by1) (S_X2_firstLiar cnt by1 wh) := by
  have key := iterD_ind (b := fun k (a : Int32 × Int32) => B_X2_firstLiar_11 by1 wh k a.1 a.2) (N := cnt) (fun j a => (∀ x, x < 6 → (bq a.1 x = true ↔ ∃ i, j ≤ i ∧ i < cnt ∧ wh i = nI x)) ∧ ((a.2 = -1 ∧ ∀ i, j ≤ i → i < cnt → ¬ Liar cnt wh by1 i) ∨ ∃ i, j ≤ i ∧ i < cnt ∧ a.2 = nI i ∧ Liar cnt wh by1 i ∧ ∀ q, j ≤ q → q < i → ¬ Liar cnt wh by1 q)) (fun k a hk hp => by
    obtain ⟨a1, a2⟩ := a
    obtain ⟨p1, p2⟩ := hp
    have p1 : ∀ x, x < 6 → (bq a1 x = true ↔ ∃ i, k + 1 ≤ i ∧ i < cnt ∧ wh i = nI x) := p1
    obtain ⟨⟨w1, w2⟩, w3⟩ := hw k hk
    have hbeh : ∀ x, x < 6 → (bq (a1 ||| (S_X6_bit (wh k))) x = true ↔ ∃ i, k ≤ i ∧ i < cnt ∧ wh i = nI x) := fun x hx => by
      rw [w1, bq_or, bq_bit6 x (by omega), Bool.or_eq_true, decide_eq_true_iff, p1 x hx]
      constructor
      · rintro (⟨i, h1, h2, h3⟩ | e)
        · exact ⟨i, by omega, h2, h3⟩
        · exact ⟨k, Nat.le_refl k, hk, by rw [e]; exact w1⟩
      · rintro ⟨i, h1, h2, h3⟩
        by_cases e : i = k
        · subst e
          exact Or.inr (((nI_eq (by omega) (by omega)).mp (w1.symm.trans h3)).symm)
        · exact Or.inl ⟨i, by omega, h2, h3⟩
    have hno : ¬ Liar cnt wh by1 k → ((a2 = -1 ∧ ∀ i, k ≤ i → i < cnt → ¬ Liar cnt wh by1 i) ∨ ∃ i, k ≤ i ∧ i < cnt ∧ a2 = nI i ∧ Liar cnt wh by1 i ∧ ∀ q, k ≤ q → q < i → ¬ Liar cnt wh by1 q) := fun hn => by
      rcases p2 with ⟨b, c⟩ | ⟨i, h1, h2, h3, h4, h5⟩
      · exact Or.inl ⟨b, fun i h1 h2 => if e : i = k then by rw [e]; exact hn else c i (by omega) h2⟩
      · exact Or.inr ⟨i, by omega, h2, h3, h4, fun q h6 h7 => if e : q = k then by rw [e]; exact hn else h5 q (by omega) h7⟩
    show (∀ x, x < 6 → (bq (B_X2_firstLiar_11 by1 wh k a1 a2).1 x = true ↔ ∃ i, k ≤ i ∧ i < cnt ∧ wh i = nI x)) ∧ (((B_X2_firstLiar_11 by1 wh k a1 a2).2 = -1 ∧ ∀ i, k ≤ i → i < cnt → ¬ Liar cnt wh by1 i) ∨ ∃ i, k ≤ i ∧ i < cnt ∧ (B_X2_firstLiar_11 by1 wh k a1 a2).2 = nI i ∧ Liar cnt wh by1 i ∧ ∀ q, k ≤ q → q < i → ¬ Liar cnt wh by1 q)
    unfold B_X2_firstLiar_11
    by_cases c : by1 k = -1
    · rw [if_pos c]
      exact ⟨hbeh, hno (fun z => z.1 c)⟩
    · rw [if_neg c]
      obtain ⟨k1, k2⟩ := w3.pos c
      have hz := hz6 (s := a1) (k := (by1 k).toNatClampNeg) (by omega)
      rw [← k1] at hz
      by_cases d : bq a1 (by1 k).toNatClampNeg = false
      · rw [if_pos (hz.mpr d)]
        refine ⟨hbeh, Or.inr ⟨k, Nat.le_refl k, hk, rfl, ⟨c, fun i h1 h2 h3 => ?_⟩, fun q h1 h2 => by omega⟩⟩
        have := (p1 _ k2).mpr ⟨i, by omega, h2, h3.trans k1⟩
        rw [d] at this
        cases this
      · rw [if_neg (fun z => d (hz.mp z))]
        refine ⟨hbeh, hno (fun z => ?_)⟩
        obtain ⟨i, h1, h2, h3⟩ := (p1 _ k2).mp (tf.mpr d)
        exact z.2 i (by omega) h2 (h3.trans k1.symm)) cnt ((0 : Int32), (-1 : Int32)) (Nat.le_refl cnt) ⟨fun x hx => by
      show bq 0 x = true ↔ _
      rw [bq_0]
      exact ⟨fun z => absurd z (by decide), fun ⟨i, h1, h2, _⟩ => by omega⟩, Or.inl ⟨rfl, fun i h1 h2 => by omega⟩⟩
  show FirstOf cnt (Liar cnt wh by1) (iterD (fun k (a : Int32 × Int32) => B_X2_firstLiar_11 by1 wh k a.1 a.2) cnt ((0 : Int32), (-1 : Int32))).2
  rcases key.2 with ⟨a, b⟩ | ⟨i, _, h2, h3, h4, h5⟩
  · exact Or.inl ⟨a, fun i hi => b i (Nat.zero_le i) hi⟩
  · exact Or.inr ⟨i, h2, h3, h4, fun j hj => h5 j (Nat.zero_le j) hj⟩
theorem wrong2 {cnt : Nat} {wh by1 : Nat → Int32} (hc : cnt ≤ 6) {ρ : Type} (K : Int32 → ρ) : ∃ r, FirstOf cnt (Liar cnt wh by1) r ∧ outB (fun a => K a) (iterE (fun k a => B_X7_wrong_133 cnt wh by1 k a) cnt 0 (-1)) = K r := by
  have key : ∀ n k, k + n = cnt → (∀ i, i < k → ¬ Liar cnt wh by1 i) → ∃ r, FirstOf cnt (Liar cnt wh by1) r ∧ outB (fun a => K a) (iterE (fun k a => B_X7_wrong_133 cnt wh by1 k a) n k (-1)) = K r := by
    intro n
    induction n with
    | zero => intro k hk hp; exact ⟨-1, Or.inl ⟨rfl, fun i hi => hp i (by omega)⟩, rfl⟩
    | succ n ih =>
      intro k hk hp
      have hz := behind_z (cnt := cnt) (k := k) (wh := wh) (by1 := by1) (by omega)
      show ∃ r, FirstOf cnt (Liar cnt wh by1) r ∧ outB (fun a => K a) (stepE (iterE (fun k a => B_X7_wrong_133 cnt wh by1 k a) n (k + 1)) (B_X7_wrong_133 cnt wh by1 k (-1))) = K r
      by_cases c : Liar cnt wh by1 k
      · have e : B_X7_wrong_133 cnt wh by1 k (-1) = .inl (nI k) := by
          unfold B_X7_wrong_133
          rw [if_neg (by decide), if_pos (hz.mpr c)]
        rw [e]
        refine ⟨nI k, Or.inr ⟨k, by omega, rfl, c, hp⟩, ?_⟩
        show outB (fun a => K a) (iterE (fun k a => B_X7_wrong_133 cnt wh by1 k a) n (k + 1) (nI k)) = K (nI k)
        cases n with
        | zero => rfl
        | succ n =>
          show outB (fun a => K a) (stepE (iterE (fun k a => B_X7_wrong_133 cnt wh by1 k a) n (k + 1 + 1)) (B_X7_wrong_133 cnt wh by1 (k + 1) (nI k))) = K (nI k)
          have e : B_X7_wrong_133 cnt wh by1 (k + 1) (nI k) = .inr (nI k) := by
            unfold B_X7_wrong_133
            rw [if_pos (nI_pos' (by omega))]
          rw [e]
          rfl
      · have e : B_X7_wrong_133 cnt wh by1 k (-1) = .inl (-1) := by
          unfold B_X7_wrong_133
          rw [if_neg (by decide), if_neg (fun z => c (hz.mp z))]
        rw [e]
        exact ih (k + 1) (by omega) (fun i hi => if q : i = k then by rw [q]; exact c else hp i (by omega))
  exact key cnt 0 (by omega) (fun i hi => absurd hi (Nat.not_lt_zero i))
theorem wrong2b {cnt i : Nat} {wh by1 : Nat → Int32} (hi : i < 1000) {ρ : Type} (K : Int32 → ρ) : outB (fun a => K a) (iterE (fun k a => B_X7_wrong_133 cnt wh by1 k a) cnt 0 (nI i)) = K (nI i) := by
  have key : ∀ n k, outB (fun a => K a) (iterE (fun k a => B_X7_wrong_133 cnt wh by1 k a) n k (nI i)) = K (nI i) := by
    intro n k
    cases n with
    | zero => rfl
    | succ n =>
      show outB (fun a => K a) (stepE (iterE (fun k a => B_X7_wrong_133 cnt wh by1 k a) n (k + 1)) (B_X7_wrong_133 cnt wh by1 k (nI i))) = K (nI i)
      have e : B_X7_wrong_133 cnt wh by1 k (nI i) = .inr (nI i) := by
        unfold B_X7_wrong_133
        rw [if_pos (nI_pos' (by omega))]
      rw [e]
      rfl
  exact key cnt 0
/-- one of a row, who is asked at a bridge where those of ovh are over -/
theorem wrong_step {x1 : Int32} {cnt k : Nat} {wh by1 wh' by1' ovh : Nat → Int32} {tc : Int32} (hL : JL br men ox yr fg wt ch ow op fg' wt' ch' ow' op') (h : JD N br men lv dy kn ov nb li al lv' dy' kn' ov' nb' li' al') (hQ : JQ men cnt wh by1 wh' by1') (hb : x1.toNatClampNeg < br) (hk : k < cnt)
    (htc : ∀ j, j < 32 → bq tc j = (bq lv j && !bq (ovh x1.toNatClampNeg) j)) (hsub : ∀ j, bq (ov x1.toNatClampNeg) j = true → bq (ovh x1.toNatClampNeg) j = true) :
    (B_X2_firstEaten_9 x1.toNatClampNeg lv dy ov by1 wh li yr men fg kn wt al k tc = .inr (nI k) ∧ B_X7_wrong_23 x1 yr men lv' dy' wh' by1' kn' wt' li' fg' al' k (-1) ovh = .inl (nI k, upd ovh x1.toNatClampNeg ((ovh x1.toNatClampNeg) ||| ((1 : Int32) <<< ((nI (wh k).toNatClampNeg) &&& 31))))) ∨
    (B_X2_firstEaten_9 x1.toNatClampNeg lv dy ov by1 wh li yr men fg kn wt al k tc = .inl (tc &&& ((S_X6_bit (nI (wh k).toNatClampNeg)) ^^^ (-1 : Int32))) ∧ B_X7_wrong_23 x1 yr men lv' dy' wh' by1' kn' wt' li' fg' al' k (-1) ovh = .inl (-1, upd ovh x1.toNatClampNeg ((ovh x1.toNatClampNeg) ||| ((1 : Int32) <<< ((nI (wh k).toNatClampNeg) &&& 31))))) := by
  obtain ⟨l1, l2, l3, l4, l5, l6, l7⟩ := id hL
  obtain ⟨e1, e2, h1, h2, h3, h4, h5⟩ := id h
  obtain ⟨q1, ⟨q2, q3⟩, q4, q5⟩ := hQ.2 k hk
  obtain ⟨a1, a2, a3, a4, a5⟩ := h5 _ _ hb q3
  unfold B_X2_firstEaten_9 B_X7_wrong_23
  generalize x1.toNatClampNeg = b at *
  rw [if_neg (show ¬ (0 : Int32) ≤ -1 by decide), q1, q4, e1, e2]
  generalize ht : (wh k).toNatClampNeg = t at *
  have hz := hz6 (s := tc) (show t < 31 by omega)
  rw [htc t (by omega)] at hz
  unfold S_X7_canCross S_X7_isLetGo
  rw [(h3 t q3).1]
  by_cases c : bq lv t = false
  · rw [if_pos ((hz7 (by omega)).mpr c), if_pos rfl]
    refine Or.inl ⟨?_, rfl⟩
    rw [if_pos (hz.mpr (by rw [c]; rfl)), if_pos (hz.mpr (by rw [c]; rfl))]
    split <;> rfl
  · rw [if_neg (fun z => c ((hz7 (by omega)).mp z))]
    have c1 := tf.mpr c
    by_cases d : bq (ovh b) t = false
    · have hz2 : ¬ S_X6_has tc (nI t) = 0 := fun z => by have := hz.mp z; rw [c1, d] at this; cases this
      rw [if_pos ((hz7 (by omega)).mpr d), if_neg hz2, if_neg hz2]
      by_cases f : by1 k = -1
      · rw [if_pos f, if_pos f, if_pos f, if_neg (show ¬ (1 : Int32) = 0 by decide), alone_eq (w := wt) (al := al) l2 q3 l4 (fun t ht => (l6 t ht).1) (l6 t q3).2.2 a5]
        by_cases g : S_X0_goesAlone b t wt yr men lv dy al = 0
        · rw [if_pos g, if_pos g]
          exact Or.inl ⟨rfl, rfl⟩
        · rw [if_neg g, if_neg g]
          exact Or.inr ⟨rfl, rfl⟩
      · rw [if_neg f, if_neg f, if_neg f]
        obtain ⟨k1, k2⟩ := q5.pos f
        generalize (by1 k).toNatClampNeg = v at k1 k2
        rw [k1]
        have hy := hz6 (s := (S_X0_helpers b t lv dy li men fg kn wt ov) &&& tc) (show v < 31 by omega)
        rw [bq_and, helpers_b l2 (by omega), htc v (by omega), decide_eq_true k2, Bool.true_and] at hy
        rw [mayName_eq (ov := ovh) (lv := lv) (li := li) (fg := fg) (w := wt) (by omega) (rem_eq a3 (l5 b hb) a4) (l6 t q3).1 (l6 v k2).1 rfl]
        have hmn : (mn b t v lv dy li fg wt ov && (bq lv v && !bq (ovh b) v)) = mn b t v lv dy li fg wt ovh := by
          unfold mn
          have hs := hsub v
          revert hs
          cases bq (ov b) v <;> cases bq (ovh b) v <;> cases bq lv v <;> cases decide (wt t < wt v) <;> cases decide (S_X0_isRemembered b t dy li fg = 0) <;> first | exact fun _ => rfl | exact fun hs => absurd (hs rfl) (by decide)
        rw [Bool.and_assoc, hmn] at hy
        by_cases g : bq (kn t) v = false
        · rw [if_pos ((hz7 (by omega)).mpr g), if_pos rfl, if_pos (hy.mpr (by rw [g]; rfl))]
          exact Or.inl ⟨rfl, rfl⟩
        · rw [if_neg (fun z => g ((hz7 (by omega)).mp z)), if_neg (show ¬ (1 : Int32) = 0 by decide)]
          by_cases r : mn b t v lv dy li fg wt ovh = true
          · rw [if_pos r, if_neg (show ¬ (1 : Int32) = 0 by decide), if_neg (fun z => by have := hy.mp z; rw [tf.mpr g, r] at this; cases this)]
            exact Or.inr ⟨rfl, rfl⟩
          · rw [if_neg r, if_pos rfl, if_pos (hy.mpr (by rw [Bool.eq_false_iff.mpr r, Bool.and_false]))]
            exact Or.inl ⟨rfl, rfl⟩
    · rw [if_neg (fun z => d ((hz7 (by omega)).mp z)), if_pos rfl]
      refine Or.inl ⟨?_, rfl⟩
      rw [if_pos (hz.mpr (by rw [tf.mpr d, Bool.not_true, Bool.and_false])), if_pos (hz.mpr (by rw [tf.mpr d, Bool.not_true, Bool.and_false]))]
      split <;> rfl
theorem wrong_top {x1 : Int32} {cnt : Nat} {wh by1 wh' by1' : Nat → Int32} (hL : JL br men ox yr fg wt ch ow op fg' wt' ch' ow' op') (h : JD N br men lv dy kn ov nb li al lv' dy' kn' ov' nb' li' al') (hQ : JQ men cnt wh by1 wh' by1') {d0 : Int32} {d1 : Nat → Int32} (hd : S_X7_wrong x1 yr br men lv' dy' cnt ov' wh' by1' kn' wt' li' fg' al' = (d0, d1)) : d0 = S_X6_wrong x1 yr br men lv dy ov cnt by1 wh li fg kn wt al ∧ JD N br men lv dy kn ov nb li al lv' dy' kn' d1 nb' li' al' := by
  obtain ⟨l1, l2, l3, l4, l5, l6, l7⟩ := id hL
  obtain ⟨e1, e2, h1, h2, h3, h4, h5⟩ := id h
  obtain ⟨hc6, hq⟩ := id hQ
  unfold S_X7_wrong at hd
  unfold S_X6_wrong
  rw [br_eq (by omega)] at hd
  by_cases c : S_X1_hasBridge x1 br = 0
  · rw [if_pos c] at hd ⊢
    cases hd
    exact ⟨rfl, h⟩
  rw [if_neg c] at hd ⊢
  obtain ⟨f1, f2⟩ := hasBridge_of c (by omega)
  have key : ∀ n k tc ovh, k + n = cnt → (∀ j, j < 32 → bq tc j = (bq lv j && !bq (ovh x1.toNatClampNeg) j)) → (∀ j, bq (ov x1.toNatClampNeg) j = true → bq (ovh x1.toNatClampNeg) j = true) → (∀ b, ¬ b = x1.toNatClampNeg → ovh b = ov' b) →
      ∃ ovh', (∀ b, ¬ b = x1.toNatClampNeg → ovh' b = ov' b) ∧ ((outE (fun a => K_X2_firstEaten_9 a) (iterE (fun k a => B_X2_firstEaten_9 x1.toNatClampNeg lv dy ov by1 wh li yr men fg kn wt al k a) n k tc) = -1 ∧ iterE (fun k (a : Int32 × (Nat → Int32)) => B_X7_wrong_23 x1 yr men lv' dy' wh' by1' kn' wt' li' fg' al' k a.1 a.2) n k ((-1 : Int32), ovh) = .inl ((-1 : Int32), ovh')) ∨
        ∃ i, i < cnt ∧ outE (fun a => K_X2_firstEaten_9 a) (iterE (fun k a => B_X2_firstEaten_9 x1.toNatClampNeg lv dy ov by1 wh li yr men fg kn wt al k a) n k tc) = nI i ∧ (iterE (fun k (a : Int32 × (Nat → Int32)) => B_X7_wrong_23 x1 yr men lv' dy' wh' by1' kn' wt' li' fg' al' k a.1 a.2) n k ((-1 : Int32), ovh) = .inl (nI i, ovh') ∨ iterE (fun k (a : Int32 × (Nat → Int32)) => B_X7_wrong_23 x1 yr men lv' dy' wh' by1' kn' wt' li' fg' al' k a.1 a.2) n k ((-1 : Int32), ovh) = .inr (nI i, ovh'))) := by
    intro n
    induction n with
    | zero => intro k tc ovh hk p1 p2 p3; exact ⟨ovh, p3, Or.inl ⟨rfl, rfl⟩⟩
    | succ n ih =>
      intro k tc ovh hk p1 p2 p3
      have hoff : ∀ b, ¬ b = x1.toNatClampNeg → upd ovh x1.toNatClampNeg ((ovh x1.toNatClampNeg) ||| ((1 : Int32) <<< ((nI (wh k).toNatClampNeg) &&& 31))) b = ov' b := fun b hb => by rw [pk_un hb]; exact p3 b hb
      have w2 : (wh k).toNatClampNeg < 6 := Nat.lt_of_lt_of_le (hq k (by omega)).2.1.2 l2
      have hn1 : iterE (fun k a => B_X2_firstEaten_9 x1.toNatClampNeg lv dy ov by1 wh li yr men fg kn wt al k a) (n + 1) k tc = stepE (iterE (fun k a => B_X2_firstEaten_9 x1.toNatClampNeg lv dy ov by1 wh li yr men fg kn wt al k a) n (k + 1)) (B_X2_firstEaten_9 x1.toNatClampNeg lv dy ov by1 wh li yr men fg kn wt al k tc) := rfl
      have hn2 : iterE (fun k (a : Int32 × (Nat → Int32)) => B_X7_wrong_23 x1 yr men lv' dy' wh' by1' kn' wt' li' fg' al' k a.1 a.2) (n + 1) k ((-1 : Int32), ovh) = stepE (iterE (fun k (a : Int32 × (Nat → Int32)) => B_X7_wrong_23 x1 yr men lv' dy' wh' by1' kn' wt' li' fg' al' k a.1 a.2) n (k + 1)) (B_X7_wrong_23 x1 yr men lv' dy' wh' by1' kn' wt' li' fg' al' k (-1) ovh) := rfl
      rw [hn1, hn2]
      rcases wrong_step (ovh := ovh) (tc := tc) hL h hQ f2 (show k < cnt by omega) p1 p2 with ⟨s1, s2⟩ | ⟨s1, s2⟩
      · rw [s1, s2]
        refine ⟨_, hoff, Or.inr ⟨k, by omega, rfl, ?_⟩⟩
        show iterE (fun k (a : Int32 × (Nat → Int32)) => B_X7_wrong_23 x1 yr men lv' dy' wh' by1' kn' wt' li' fg' al' k a.1 a.2) n (k + 1) (nI k, _) = _ ∨ iterE (fun k (a : Int32 × (Nat → Int32)) => B_X7_wrong_23 x1 yr men lv' dy' wh' by1' kn' wt' li' fg' al' k a.1 a.2) n (k + 1) (nI k, _) = _
        cases n with
        | zero => exact Or.inl rfl
        | succ n =>
          refine Or.inr ?_
          show stepE (iterE (fun k (a : Int32 × (Nat → Int32)) => B_X7_wrong_23 x1 yr men lv' dy' wh' by1' kn' wt' li' fg' al' k a.1 a.2) n (k + 1 + 1)) (B_X7_wrong_23 x1 yr men lv' dy' wh' by1' kn' wt' li' fg' al' (k + 1) (nI k) _) = _
          have e : ∀ o, B_X7_wrong_23 x1 yr men lv' dy' wh' by1' kn' wt' li' fg' al' (k + 1) (nI k) o = .inr (nI k, o) := fun o => by
            unfold B_X7_wrong_23
            rw [if_pos (nI_pos' (by omega))]
          rw [e]
          rfl
      · rw [s1, s2]
        refine ih (k + 1) _ _ (by omega) (fun j hj => ?_) (fun j hj => ?_) hoff
        · rw [bq_wo6 (by omega) hj, pk_us, bq_or, bq_bit j (by omega), p1 j hj]
          cases bq lv j <;> cases bq (ovh x1.toNatClampNeg) j <;> cases decide (j = (wh k).toNatClampNeg) <;> rfl
        · rw [pk_us, bq_or, p2 j hj]; rfl
  obtain ⟨ovh', ho, hr⟩ := key cnt 0 (S_X0_toCome x1.toNatClampNeg lv ov) ov' (by omega) (fun j hj => by rw [coming_b hj, (h4 _ f2).1]) (fun j hj => by rw [(h4 _ f2).1]; exact hj) (fun b _ => rfl)
  have hJ : ∀ r : Int32, (r, upd ovh' x1.toNatClampNeg (ov' x1.toNatClampNeg)) = (d0, d1) → d0 = r ∧ JD N br men lv dy kn ov nb li al lv' dy' kn' d1 nb' li' al' := fun r hrr => by
    cases hrr
    refine ⟨rfl, e1, e2, h1, h2, h3, fun b hb => ?_, h5⟩
    by_cases q : b = x1.toNatClampNeg
    · rw [q, pk_us, ← q]; exact h4 b hb
    · rw [pk_un q, ho b q]; exact h4 b hb
  have hE : S_X2_firstEaten x1.toNatClampNeg lv dy ov cnt by1 wh li yr men fg kn wt al = outE (fun a => K_X2_firstEaten_9 a) (iterE (fun k a => B_X2_firstEaten_9 x1.toNatClampNeg lv dy ov by1 wh li yr men fg kn wt al k a) cnt 0 (S_X0_toCome x1.toNatClampNeg lv ov)) := rfl
  unfold S_X2_firstWrong
  rw [hE]
  have hq' : ∀ (K : Int32 → Int32 × (Nat → Int32)) (r : Int32), outB (fun a => K a) (iterE (fun k a => B_X7_wrong_133 cnt wh' by1' k a) cnt 0 r) = outB (fun a => K a) (iterE (fun k a => B_X7_wrong_133 cnt wh' by1' k a) cnt 0 r) := fun _ _ => rfl
  rcases hr with ⟨r1, r2⟩ | ⟨i, hi, r1, r2⟩
  · rw [r1, if_pos rfl]
    rw [r2] at hd
    have hd : outB (fun a => K_X7_wrong_133 x1 ov' ovh' a) (iterE (fun k a => B_X7_wrong_133 cnt wh' by1' k a) cnt 0 (-1)) = (d0, d1) := hd
    obtain ⟨r, hf, hk⟩ := wrong2 (cnt := cnt) (wh := wh') (by1 := by1') hc6 (fun a => K_X7_wrong_133 x1 ov' ovh' a)
    rw [hk] at hd
    obtain ⟨j1, j2⟩ := hJ r hd
    refine ⟨?_, j2⟩
    rw [j1]
    have hfl := firstLiar_ok (cnt := cnt) (wh := wh) (by1 := by1) hc6 (fun i hi => ⟨⟨(hq i hi).2.1.1, Nat.lt_of_lt_of_le (hq i hi).2.1.2 l2⟩, (hq i hi).2.2.2.up l2⟩)
    have hiff : ∀ k, k < cnt → (Liar cnt wh' by1' k ↔ Liar cnt wh by1 k) := fun k hk => by
      unfold Liar
      rw [(hq k hk).2.2.1]
      refine and_congr_right (fun _ => ⟨fun z i a b => ?_, fun z i a b => ?_⟩)
      · rw [← (hq i b).1]; exact z i a b
      · rw [(hq i b).1]; exact z i a b
    refine FirstOf.eq (cnt := cnt) (P := Liar cnt wh by1) ?_ hfl
    rcases hf with ⟨a, b⟩ | ⟨i, a, b, c, d⟩
    · exact Or.inl ⟨a, fun i hi z => b i hi ((hiff i hi).mpr z)⟩
    · exact Or.inr ⟨i, a, b, (hiff i a).mp c, fun j hj z => d j hj ((hiff j (by omega)).mpr z)⟩
  · have hne : ¬ nI i = (-1 : Int32) := nI_nm1 (by omega)
    rw [r1, if_neg hne]
    have hd : outB (fun a => K_X7_wrong_133 x1 ov' ovh' a) (iterE (fun k a => B_X7_wrong_133 cnt wh' by1' k a) cnt 0 (nI i)) = (d0, d1) := by
      rcases r2 with r2 | r2
      · rw [r2] at hd; exact hd
      · rw [r2] at hd; exact hd
    rw [wrong2b (by omega)] at hd
    exact hJ (nI i) hd
end WRONG
