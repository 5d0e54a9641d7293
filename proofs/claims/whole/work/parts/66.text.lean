/-! class and reference: blanks, words, numbers of the text -/
theorem byte_cases : ∀ c, c < 256 → (c < 128 → (nI c).toInt8.toInt32 = nI c) ∧ (128 ≤ c → (nI c).toInt8.toInt32 < 0) := by decide +kernel
theorem JT.at {n k : Nat} {b1 tx : Nat → Int32} (h : JT n b1 tx) (hk : k < n) : (∃ c, c < 128 ∧ tx k = nI c ∧ b1 k = nI c) ∨ (∃ c, 128 ≤ c ∧ c < 256 ∧ tx k = nI c ∧ b1 k < 0) := by
  obtain ⟨c, c1, c2, c3⟩ := h.2 k hk
  obtain ⟨d1, d2⟩ := byte_cases c c1
  rcases Nat.lt_or_ge c 128 with q | q
  · exact Or.inl ⟨c, q, c2, by rw [c3, d1 q]⟩
  · exact Or.inr ⟨c, q, c1, c2, by rw [c3]; exact d2 q⟩
theorem JT.pos {n k : Nat} {b1 tx : Nat → Int32} (h : JT n b1 tx) (hk : k < n) : ¬ tx k < 0 := by
  obtain ⟨c, c1, c2, _⟩ := h.2 k hk
  rw [c2]; exact nI_pos (by omega)
/-- a sign of the first 128: the byte is it where the text is it -/
theorem JT.sign {n k q : Nat} {b1 tx : Nat → Int32} (h : JT n b1 tx) (hk : k < n) (hq : q < 128) : b1 k = nI q ↔ tx k = nI q := by
  rcases h.at hk with ⟨c, c1, c2, c3⟩ | ⟨c, c1, c2, c3, c4⟩
  · rw [c2, c3]
  · rw [c3]
    constructor
    · intro z; rw [z] at c4; exact absurd c4 (nI_pos (by omega))
    · intro z; have := (nI_eq (by omega) (by omega)).mp z; omega
/-- a sign from lo to hi -/
theorem JT.range {n k lo hi : Nat} {b1 tx : Nat → Int32} (h : JT n b1 tx) (hk : k < n) (hh : hi < 128) : (nI lo ≤ b1 k ∧ b1 k ≤ nI hi ∧ b1 k = tx k ∧ ∃ c, lo ≤ c ∧ c ≤ hi ∧ tx k = nI c ∧ nI lo ≤ tx k ∧ tx k ≤ nI hi) ∨ (¬ (nI lo ≤ b1 k ∧ b1 k ≤ nI hi) ∧ ¬ (nI lo ≤ tx k ∧ tx k ≤ nI hi)) ∨ 128 ≤ lo := by
  by_cases hlo : 128 ≤ lo
  · exact Or.inr (Or.inr hlo)
  rcases h.at hk with ⟨c, c1, c2, c3⟩ | ⟨c, c1, c2, c3, c4⟩
  · rw [c2, c3, nI_leI (by omega) (by omega), nI_leI (by omega) (by omega)]
    by_cases q : lo ≤ c ∧ c ≤ hi
    · exact Or.inl ⟨q.1, q.2, rfl, c, q.1, q.2, rfl, q.1, q.2⟩
    · exact Or.inr (Or.inl ⟨q, q⟩)
  · refine Or.inr (Or.inl ⟨fun z => ?_, fun z => ?_⟩)
    · have h0 : (0 : Int32) ≤ nI lo := nI_pos' (by omega)
      rw [Int32.le_iff_toInt_le] at h0
      rw [Int32.le_iff_toInt_le, Int32.le_iff_toInt_le] at z
      rw [Int32.lt_iff_toInt_lt] at c4
      omega
    · rw [c3] at z
      have := (nI_leI (by omega) (by omega)).mp z.2
      omega
theorem iterE_congr {α ρ : Type} {f g : Nat → α → α ⊕ ρ} : ∀ (n k : Nat) (a : α), (∀ j a, k ≤ j → j < k + n → f j a = g j a) → iterE f n k a = iterE g n k a := by
  intro n
  induction n with
  | zero => intro k a _; rfl
  | succ n ih =>
    intro k a h
    have e : (iterE f n (k + 1)) = (iterE g n (k + 1)) := by
      funext b
      exact ih (k + 1) b (fun j c h1 h2 => h j c (by omega) (by omega))
    show stepE (iterE f n (k + 1)) (f k a) = stepE (iterE g n (k + 1)) (g k a)
    rw [h k a (Nat.le_refl k) (by omega), e]
theorem here_eq {n at0 : Nat} {b1 tx : Nat → Int32} (h : JT n b1 tx) (ha : at0 ≤ n) : S_X7_here n tx at0 = (if n ≤ S_X3_skipBlanks n b1 at0 then (-1 : Int32) else tx (S_X3_skipBlanks n b1 at0), S_X3_skipBlanks n b1 at0) := by
  have e : iterE (fun k (_ : Nat) => B_X7_here_0 tx k) (n - at0) at0 at0 = iterE (fun k (_ : Nat) => B_X3_skipBlanks_0 b1 k) (n - at0) at0 at0 := by
    refine iterE_congr (n - at0) at0 at0 (fun j a h1 h2 => ?_)
    show B_X7_here_0 tx j = B_X3_skipBlanks_0 b1 j
    unfold B_X7_here_0 B_X3_skipBlanks_0
    have hs := h.sign (k := j) (q := 32) (by omega) (by decide)
    rw [show (32 : Int32) = nI 32 from rfl]
    by_cases c : tx j = nI 32
    · rw [if_pos c, if_pos (hs.mpr c)]
    · rw [if_neg c, if_neg (fun z => c (hs.mp z))]
  have hK : ∀ x : Nat ⊕ Nat, outB (fun a => K_X7_here_0 n tx a) x = (if n ≤ outB (fun a => a) x then (-1 : Int32) else tx (outB (fun a => a) x), outB (fun a => a) x) := fun x => by
    cases x with
    | inl a =>
      show K_X7_here_0 n tx a = (if n ≤ a then (-1 : Int32) else tx a, a)
      unfold K_X7_here_0
      split <;> rfl
    | inr a =>
      show K_X7_here_0 n tx a = (if n ≤ a then (-1 : Int32) else tx a, a)
      unfold K_X7_here_0
      split <;> rfl
  show outB (fun a => K_X7_here_0 n tx a) (iterE (fun k (_ : Nat) => B_X7_here_0 tx k) (n - at0) at0 at0) = _
  rw [e, hK]
  rfl
/-- where blanks end: the first that is none -/
theorem skip_first {b1 : Nat → Int32} {n : Nat} : ∀ m a, a + m = n → ∃ r, outB (fun a => a) (iterE (fun k (_ : Nat) => B_X3_skipBlanks_0 b1 k) m a a) = r ∧ a ≤ r ∧ r ≤ n ∧ (r < n → ¬ b1 r = 32) ∧ ∀ j, a ≤ j → j < r → b1 j = 32 := by
  intro m
  induction m with
  | zero => intro a ha; exact ⟨a, rfl, Nat.le_refl a, by omega, fun z => by omega, fun j h1 h2 => by omega⟩
  | succ m ih =>
    intro a ha
    show ∃ r, outB (fun a => a) (stepE (iterE (fun k (_ : Nat) => B_X3_skipBlanks_0 b1 k) m (a + 1)) (B_X3_skipBlanks_0 b1 a)) = r ∧ _
    unfold B_X3_skipBlanks_0
    by_cases c : b1 a = 32
    · rw [if_pos c]
      obtain ⟨r, r1, r2, r3, r4, r5⟩ := ih (a + 1) (by omega)
      exact ⟨r, r1, by omega, r3, r4, fun j h1 h2 => if e : j = a then by rw [e]; exact c else r5 j (by omega) h2⟩
    · rw [if_neg c]
      exact ⟨a, rfl, Nat.le_refl a, by omega, fun _ => c, fun j h1 h2 => by omega⟩
theorem skip_stay {b1 : Nat → Int32} {n a : Nat} (h : a ≤ n) (hb : a < n → ¬ b1 a = 32) : S_X3_skipBlanks n b1 a = a := by
  obtain ⟨r, r1, r2, r3, r4, r5⟩ := skip_first (b1 := b1) (n := n) (n - a) a (by omega)
  have e : S_X3_skipBlanks n b1 a = r := r1
  rw [e]
  rcases Nat.lt_or_ge a r with q | q
  · exact absurd (r5 a (Nat.le_refl a) q) (hb (by omega))
  · omega
theorem skip_skip {b1 : Nat → Int32} {n a : Nat} (h : a ≤ n) : (S_X3_skipBlanks n b1 a < n → ¬ b1 (S_X3_skipBlanks n b1 a) = 32) ∧ a ≤ S_X3_skipBlanks n b1 a ∧ S_X3_skipBlanks n b1 a ≤ n := by
  obtain ⟨r, r1, r2, r3, r4, r5⟩ := skip_first (b1 := b1) (n := n) (n - a) a (by omega)
  have e : S_X3_skipBlanks n b1 a = r := r1
  rw [e]
  exact ⟨r4, r2, r3⟩
/-! numbers -/
theorem fig_eq {n k : Nat} {b1 tx : Nat → Int32} (h : JT n b1 tx) (hk : k < n) : (S_X3_isFigure (b1 k) = 0 ↔ S_X7_in (tx k).toInt64 (48 : Int64) (57 : Int64) = 0) ∧ (¬ S_X3_isFigure (b1 k) = 0 → b1 k = tx k ∧ ∃ c, c ≤ 9 ∧ tx k = nI (48 + c)) := by
  rw [show (48 : Int64) = (nI 48).toInt64 from by decide, show (57 : Int64) = (nI 57).toInt64 from by decide, in_gen]
  unfold S_X3_isFigure
  have e48 : (48 : Int32) = nI 48 := rfl
  have e57 : (57 : Int32) = nI 57 := rfl
  rw [e48, e57]
  rcases h.range (lo := 48) (hi := 57) hk (by decide) with ⟨a, b, c, d, d1, d2, d3, d4, d5⟩ | ⟨a, b⟩ | z
  · rw [if_neg (Int32.not_lt.mpr a), if_neg (Int32.not_lt.mpr b), if_neg (Int32.not_lt.mpr d4), if_neg (Int32.not_lt.mpr d5)]
    exact ⟨Iff.rfl, fun _ => ⟨c, d - 48, by omega, by rw [d3, show 48 + (d - 48) = d by omega]⟩⟩
  · have h1 : (if b1 k < nI 48 then (0 : Int32) else if nI 57 < b1 k then 0 else 1) = 0 := by
      by_cases p : b1 k < nI 48
      · rw [if_pos p]
      · rw [if_neg p]
        by_cases q : nI 57 < b1 k
        · rw [if_pos q]
        · exact absurd ⟨Int32.not_lt.mp p, Int32.not_lt.mp q⟩ a
    have h2 : (if tx k < nI 48 then (0 : Int32) else if nI 57 < tx k then 0 else 1) = 0 := by
      by_cases p : tx k < nI 48
      · rw [if_pos p]
      · rw [if_neg p]
        by_cases q : nI 57 < tx k
        · rw [if_pos q]
        · exact absurd ⟨Int32.not_lt.mp p, Int32.not_lt.mp q⟩ b
    rw [h1, h2]
    exact ⟨Iff.rfl, fun z => absurd rfl z⟩
  · omega
/-- the figures from p on -/
theorem figs_eq {n p : Nat} {b1 tx : Nat → Int32} (h : JT n b1 tx) (hp : p ≤ n) : ∀ m k v w, k + m = n → p ≤ k → (k - p ≤ 3 → v = w ∧ ∃ x, x < 10 ^ (k - p) ∧ v = nI x) →
    ∃ e v2 w2, (iterE (fun k (a : Nat × Int32) => B_X3_number_23 b1 p k a.2) m k (k, v) = .inl (e, v2) ∨ iterE (fun k (a : Nat × Int32) => B_X3_number_23 b1 p k a.2) m k (k, v) = .inr (e, v2)) ∧ (iterE (fun k (a : Nat × Int32) => B_X7_takeNumber_42 tx k a.2) m k (k, w) = .inl (e, w2) ∨ iterE (fun k (a : Nat × Int32) => B_X7_takeNumber_42 tx k a.2) m k (k, w) = .inr (e, w2)) ∧ k ≤ e ∧ e ≤ n ∧ (e - p ≤ 3 → v2 = w2 ∧ ∃ x, x < 10 ^ (e - p) ∧ v2 = nI x) ∧ (k < n → ¬ S_X3_isFigure (b1 k) = 0 → k < e) ∧ (k = n ∨ S_X3_isFigure (b1 k) = 0 → e = k) := by
  intro m
  induction m with
  | zero => intro k v w hk hpk hi; exact ⟨k, v, w, Or.inl rfl, Or.inl rfl, Nat.le_refl k, by omega, hi, fun z => by omega, fun _ => rfl⟩
  | succ m ih =>
    intro k v w hk hpk hi
    obtain ⟨g1, g2⟩ := fig_eq h (show k < n by omega)
    have e1 : iterE (fun k (a : Nat × Int32) => B_X3_number_23 b1 p k a.2) (m + 1) k (k, v) = stepE (iterE (fun k (a : Nat × Int32) => B_X3_number_23 b1 p k a.2) m (k + 1)) (B_X3_number_23 b1 p k v) := rfl
    have e2 : iterE (fun k (a : Nat × Int32) => B_X7_takeNumber_42 tx k a.2) (m + 1) k (k, w) = stepE (iterE (fun k (a : Nat × Int32) => B_X7_takeNumber_42 tx k a.2) m (k + 1)) (B_X7_takeNumber_42 tx k w) := rfl
    rw [e1, e2]
    by_cases c : S_X3_isFigure (b1 k) = 0
    · have f1 : B_X3_number_23 b1 p k v = .inr (k, v) := by unfold B_X3_number_23; rw [if_pos c]
      have f2 : B_X7_takeNumber_42 tx k w = .inr (k, w) := by unfold B_X7_takeNumber_42; rw [if_pos (g1.mp c)]
      rw [f1, f2]
      exact ⟨k, v, w, Or.inr rfl, Or.inr rfl, Nat.le_refl k, by omega, hi, fun _ z => absurd c z, fun _ => rfl⟩
    · obtain ⟨b2, q, q1, q2⟩ := g2 c
      have step : ∃ v' w', B_X3_number_23 b1 p k v = .inl (k + 1, v') ∧ B_X7_takeNumber_42 tx k w = .inl (k + 1, w') ∧ (k + 1 - p ≤ 3 → v' = w' ∧ ∃ x, x < 10 ^ (k + 1 - p) ∧ v' = nI x) := by
        unfold B_X3_number_23 B_X7_takeNumber_42
        rw [if_neg c, if_neg (fun z => c (g1.mpr z))]
        by_cases d : 3 ≤ k - p
        · rw [if_pos d]
          by_cases f : w ≤ 10000
          · rw [if_pos f]; exact ⟨_, _, rfl, rfl, fun z => by omega⟩
          · rw [if_neg f]; exact ⟨_, _, rfl, rfl, fun z => by omega⟩
        · obtain ⟨i1, x, x1, x2⟩ := hi (by omega)
          have hx : x < 1000 := Nat.lt_of_lt_of_le x1 (Nat.le_trans (Nat.pow_le_pow_right (n := 10) (by decide) (show k - p ≤ 3 by omega)) (by decide))
          rw [if_neg d, ← i1, if_pos (show v ≤ 10000 by rw [x2]; exact (nI_leI (b := 10000) (by omega) (by decide)).mpr (by omega)), b2]
          refine ⟨_, _, rfl, rfl, fun _ => ⟨rfl, 10 * x + q, ?_, ?_⟩⟩
          · rw [show k + 1 - p = (k - p) + 1 by omega, Nat.pow_succ]
            omega
          · rw [x2, q2, show (10 : Int32) = nI 10 from rfl, pk_mul, nI_add, show (48 : Int32) = nI 48 from rfl, pk_sub (by omega)]
            congr 1
            omega
      obtain ⟨v', w', s1, s2, s3⟩ := step
      rw [s1, s2]
      obtain ⟨e, v2, w2, r1, r2, r3, r4, r5, r6, r7⟩ := ih (k + 1) v' w' (by omega) (by omega) s3
      exact ⟨e, v2, w2, r1, r2, by omega, r4, r5, fun _ _ => by omega, fun z => by rcases z with z | z; omega; exact absurd z c⟩
theorem num_eq {lo hi fp fp' num0 : Int32} {np np' at0 n : Nat} {b1 tx : Nat → Int32} (h : JT n b1 tx) (ha : at0 ≤ n) {v fn fp2 f num fp2' : Int32} {a p a' p' : Nat} (hc : S_X3_number lo hi 0 n fp at0 np b1 = (v, a, p, fn, fp2)) (hd : S_X7_takeNumber lo hi n fp' at0 num0 np' tx = (f, a', p', num, fp2')) :
    f = fn ∧ ((f = 0 ∧ a' = a ∧ at0 < a ∧ a ≤ n ∧ p' = p ∧ num = v ∧ fp2 = fp ∧ fp2' = fp' ∧ lo ≤ v ∧ v ≤ hi) ∨ ((f = 1 ∨ f = 2) ∧ fp2' = fp2)) := by
  unfold S_X3_number at hc
  rw [if_pos rfl] at hc
  unfold S_X7_takeNumber at hd
  rw [here_eq h ha] at hd
  obtain ⟨k1, k2, k3⟩ := skip_skip (b1 := b1) (n := n) (a := at0) ha
  generalize S_X3_skipBlanks n b1 at0 = s at hc hd k1 k2 k3
  replace hc : K_X3_number_10 lo hi 0 n fp b1 s = (v, a, p, fn, fp2) := hc
  replace hd : K_X7_takeNumber_1 lo hi n fp' num0 np' tx (if n ≤ s then (-1 : Int32) else tx s) s = (f, a', p', num, fp2') := hd
  unfold K_X3_number_10 at hc
  unfold K_X7_takeNumber_1 at hd
  obtain ⟨e, v2, w2, r1, r2, r3, r4, r5, r6, r7⟩ := figs_eq h (show s ≤ n from k3) (n - s) s 0 0 (by omega) (Nat.le_refl s) (fun _ => ⟨rfl, 0, by rw [Nat.sub_self]; decide, rfl⟩)
  replace hc : K_X3_number_23 lo hi 0 fp s e v2 = (v, a, p, fn, fp2) := by
    rcases r1 with z | z
    · rw [z] at hc; exact hc
    · rw [z] at hc; exact hc
  unfold K_X3_number_23 at hc
  by_cases q : e = s
  · -- no figure
    rw [if_pos (by omega)] at hc
    have hz : S_X7_in (if n ≤ s then (-1 : Int32) else tx s).toInt64 (48 : Int64) (57 : Int64) = 0 := by
      by_cases y : n ≤ s
      · rw [if_pos y]; decide
      · rw [if_neg y]
        refine (fig_eq h (show s < n by omega)).1.mp (Classical.byContradiction (fun w => ?_))
        have := r6 (by omega) w
        omega
    rw [if_pos hz] at hd
    replace hc : ((0 : Int32), e, s, (1 : Int32), nI s) = (v, a, p, fn, fp2) := hc
    replace hd : ((1 : Int32), s, np', num0, nI s) = (f, a', p', num, fp2') := hd
    cases hc; cases hd
    exact ⟨rfl, Or.inr ⟨Or.inl rfl, rfl⟩⟩
  · have hsn : s < n := by omega
    have hfig : ¬ S_X3_isFigure (b1 s) = 0 := fun z => q (r7 (Or.inr z))
    have hz : ¬ S_X7_in (if n ≤ s then (-1 : Int32) else tx s).toInt64 (48 : Int64) (57 : Int64) = 0 := by
      rw [if_neg (show ¬ n ≤ s by omega)]
      exact fun z => hfig ((fig_eq h hsn).1.mpr z)
    rw [if_neg (by omega)] at hc
    rw [if_neg hz] at hd
    replace hd : K_X7_takeNumber_42 lo hi fp' s e w2 = (f, a', p', num, fp2') := by
      rcases r2 with z | z
      · rw [z] at hd; exact hd
      · rw [z] at hd; exact hd
    unfold K_X7_takeNumber_42 at hd
    by_cases y : 3 < e - s
    · rw [if_pos y] at hc hd
      replace hc : ((0 : Int32), e, s, (2 : Int32), nI s) = (v, a, p, fn, fp2) := hc
      replace hd : ((2 : Int32), e, s, w2, nI s) = (f, a', p', num, fp2') := hd
      cases hc; cases hd
      exact ⟨rfl, Or.inr ⟨Or.inr rfl, rfl⟩⟩
    · rw [if_neg y] at hc hd
      obtain ⟨i1, x, x1, x2⟩ := r5 (by omega)
      rw [in_gen, ← i1] at hd
      by_cases u : v2 < lo
      · rw [if_pos u] at hc
        rw [if_pos u, if_pos rfl] at hd
        replace hc : ((0 : Int32), e, s, (2 : Int32), nI s) = (v, a, p, fn, fp2) := hc
        replace hd : ((2 : Int32), e, s, v2, nI s) = (f, a', p', num, fp2') := hd
        cases hc; cases hd
        exact ⟨rfl, Or.inr ⟨Or.inr rfl, rfl⟩⟩
      · rw [if_neg u] at hc hd
        by_cases t : v2 ≤ hi
        · rw [if_pos t, if_pos rfl] at hc
          rw [if_neg (Int32.not_lt.mpr t), if_neg (show ¬ (1 : Int32) = 0 by decide)] at hd
          cases hc; cases hd
          exact ⟨rfl, Or.inl ⟨rfl, rfl, by omega, r4, rfl, rfl, rfl, rfl, Int32.not_lt.mp u, t⟩⟩
        · rw [if_neg t] at hc
          rw [if_pos (Int32.not_le.mp t), if_pos rfl] at hd
          replace hc : ((0 : Int32), e, s, (2 : Int32), nI s) = (v, a, p, fn, fp2) := hc
          replace hd : ((2 : Int32), e, s, v2, nI s) = (f, a', p', num, fp2') := hd
          cases hc; cases hd
          exact ⟨rfl, Or.inr ⟨Or.inr rfl, rfl⟩⟩
