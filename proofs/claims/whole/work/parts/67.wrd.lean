/-! class and reference: words of the text -/
def sv (f : Nat → Nat) : Nat → Nat
  | 0 => 0
  | k + 1 => if sv f k ≤ 100000000000000 then 27 * sv f k + f k else 200000000000000
theorem sv_bd {f : Nat → Nat} : ∀ m, (∀ j, j < m → 1 ≤ f j ∧ f j ≤ 26) → sv f m ≤ 2700000000000026 := by
  intro m
  cases m with
  | zero => intro _; exact Nat.zero_le _
  | succ m =>
    intro h
    have := h m (by omega)
    show (if sv f m ≤ 100000000000000 then 27 * sv f m + f m else 200000000000000) ≤ 2700000000000026
    by_cases c : sv f m ≤ 100000000000000
    · rw [if_pos c]; omega
    · rw [if_neg c]; decide
theorem sv_inj {f w : Nat → Nat} : ∀ {l : Nat}, (∀ k, k ≤ l → sv w k ≤ 1000000000000) → (∀ j, j < l → 1 ≤ w j ∧ w j ≤ 26) → ∀ {m}, (∀ j, j < m → 1 ≤ f j ∧ f j ≤ 26) → (sv f m = sv w l ↔ m = l ∧ ∀ j, j < l → f j = w j) := by
  intro l
  induction l with
  | zero =>
    intro hb hw m hf
    cases m with
    | zero => exact ⟨fun _ => ⟨rfl, fun j hj => absurd hj (Nat.not_lt_zero j)⟩, fun _ => rfl⟩
    | succ m =>
      have := hf m (by omega)
      constructor
      · intro z
        replace z : (if sv f m ≤ 100000000000000 then 27 * sv f m + f m else 200000000000000) = 0 := z
        by_cases c : sv f m ≤ 100000000000000
        · rw [if_pos c] at z; omega
        · rw [if_neg c] at z; omega
      · intro z; exact absurd z.1 (by omega)
  | succ l ih =>
    intro hb hw m hf
    have b1 := hb l (by omega)
    have b2 : (if sv w l ≤ 100000000000000 then 27 * sv w l + w l else 200000000000000) ≤ 1000000000000 := hb (l + 1) (Nat.le_refl _)
    rw [if_pos (by omega)] at b2
    have w1 := hw l (by omega)
    have ew : sv w (l + 1) = 27 * sv w l + w l := by
      show (if sv w l ≤ 100000000000000 then 27 * sv w l + w l else 200000000000000) = _
      rw [if_pos (by omega)]
    rw [ew]
    cases m with
    | zero =>
      constructor
      · intro z
        replace z : 0 = 27 * sv w l + w l := z
        omega
      · intro z; exact absurd z.1 (by omega)
    | succ m =>
      have f1 := hf m (by omega)
      have ih := ih (fun k hk => hb k (by omega)) (fun j hj => hw j (by omega)) (m := m) (fun j hj => hf j (by omega))
      have ef : sv f (m + 1) = if sv f m ≤ 100000000000000 then 27 * sv f m + f m else 200000000000000 := rfl
      rw [ef]
      by_cases c : sv f m ≤ 100000000000000
      · rw [if_pos c]
        constructor
        · intro z
          obtain ⟨i1, i2⟩ := ih.mp (by omega)
          refine ⟨by omega, fun j hj => ?_⟩
          by_cases e : j = l
          · subst e; rw [i1] at z f1; omega
          · exact i2 j (by omega)
        · intro z
          have e1 : m = l := by omega
          have := ih.mpr ⟨e1, fun j hj => z.2 j (by omega)⟩
          have t := z.2 l (by omega)
          rw [e1, t]
          rw [e1] at this
          omega
      · rw [if_neg c]
        constructor
        · intro z; omega
        · intro z
          have e1 : m = l := by omega
          have := ih.mpr ⟨e1, fun j hj => z.2 j (by omega)⟩
          omega
/-- what a letter is worth -/
def lv (tx : Nat → Int32) (at0 : Nat) (j : Nat) : Nat := (tx (at0 + j)).toNatClampNeg - 96
theorem letter_eq {n k : Nat} {b1 tx : Nat → Int32} (h : JT n b1 tx) (hk : k < n) : (B_X3_endOfWord_5 b1 k = .inr k ∧ S_X7_in (tx k).toInt64 (97 : Int64) (122 : Int64) = 0) ∨ (B_X3_endOfWord_5 b1 k = .inl (k + 1) ∧ ¬ S_X7_in (tx k).toInt64 (97 : Int64) (122 : Int64) = 0 ∧ b1 k = tx k ∧ ∃ c, 1 ≤ c ∧ c ≤ 26 ∧ tx k = nI (96 + c)) := by
  rw [show (97 : Int64) = (nI 97).toInt64 from by decide, show (122 : Int64) = (nI 122).toInt64 from by decide, in_gen]
  unfold B_X3_endOfWord_5
  have e48 : (97 : Int32) = nI 97 := rfl
  have e57 : (122 : Int32) = nI 122 := rfl
  rw [e48, e57]
  rcases h.range (lo := 97) (hi := 122) hk (by decide) with ⟨a, b, c, d, d1, d2, d3, d4, d5⟩ | ⟨a, b⟩ | z
  · rw [if_neg (Int32.not_lt.mpr a), if_neg (Int32.not_lt.mpr b), if_neg (Int32.not_lt.mpr d4), if_neg (Int32.not_lt.mpr d5)]
    exact Or.inr ⟨rfl, by decide, c, d - 96, by omega, by omega, by rw [d3, show 96 + (d - 96) = d by omega]⟩
  · left
    constructor
    · by_cases p : b1 k < nI 97
      · rw [if_pos p]
      · rw [if_neg p]
        by_cases q : nI 122 < b1 k
        · rw [if_pos q]
        · exact absurd ⟨Int32.not_lt.mp p, Int32.not_lt.mp q⟩ a
    · by_cases p : tx k < nI 97
      · rw [if_pos p]
      · rw [if_neg p]
        by_cases q : nI 122 < tx k
        · rw [if_pos q]
        · exact absurd ⟨Int32.not_lt.mp p, Int32.not_lt.mp q⟩ b
  · omega
theorem sv_lN {s c : Nat} (hs : s ≤ 100000000000000) (h1 : 1 ≤ c) (h2 : c ≤ 26) : (((27 : Int64) * lN s) + (nI (96 + c)).toInt64) - (96 : Int64) = lN (27 * s + c) := by
  have e : ∀ c, c ≤ 26 → (nI (96 + c)).toInt64 = lN (96 + c) := by decide +kernel
  rw [e c h2, show (27 : Int64) = lN 27 from rfl, lN_mul, lN_add, show (96 : Int64) = lN 96 from rfl, lN_sub (by omega)]
  congr 1
  omega
theorem lN_big {a b : Nat} (ha : a < 9000000000000000000) (hb : b < 9000000000000000000) : lN a = lN b ↔ a = b := by
  constructor
  · intro z
    have e1 : (lN a).toInt = (a : Int) := lg_ofNat_toInt (by omega)
    have e2 : (lN b).toInt = (b : Int) := lg_ofNat_toInt (by omega)
    rw [z, e2] at e1
    omega
  · intro z; rw [z]
theorem word_loop {n at0 : Nat} {b1 tx : Nat → Int32} (h : JT n b1 tx) : ∀ m k, k + m = n → at0 ≤ k → (∀ j, j < k - at0 → b1 (at0 + j) = tx (at0 + j) ∧ 1 ≤ lv tx at0 j ∧ lv tx at0 j ≤ 26 ∧ tx (at0 + j) = nI (96 + lv tx at0 j)) →
    ∃ e, k ≤ e ∧ e ≤ n ∧ (iterE (fun k (_ : Nat) => B_X3_endOfWord_5 b1 k) m k k = .inl e ∨ iterE (fun k (_ : Nat) => B_X3_endOfWord_5 b1 k) m k k = .inr e) ∧ (iterE (fun k (a : Nat × Int64) => B_X7_readWord_18 tx k a.2) m k (k, lN (sv (lv tx at0) (k - at0))) = .inl (e, lN (sv (lv tx at0) (e - at0))) ∨ iterE (fun k (a : Nat × Int64) => B_X7_readWord_18 tx k a.2) m k (k, lN (sv (lv tx at0) (k - at0))) = .inr (e, lN (sv (lv tx at0) (e - at0)))) ∧ (∀ j, j < e - at0 → b1 (at0 + j) = tx (at0 + j) ∧ 1 ≤ lv tx at0 j ∧ lv tx at0 j ≤ 26 ∧ tx (at0 + j) = nI (96 + lv tx at0 j)) := by
  intro m
  induction m with
  | zero => intro k hk hp hi; exact ⟨k, Nat.le_refl k, by omega, Or.inl rfl, Or.inl rfl, hi⟩
  | succ m ih =>
    intro k hk hp hi
    have e1 : iterE (fun k (_ : Nat) => B_X3_endOfWord_5 b1 k) (m + 1) k k = stepE (iterE (fun k (_ : Nat) => B_X3_endOfWord_5 b1 k) m (k + 1)) (B_X3_endOfWord_5 b1 k) := rfl
    have e2 : iterE (fun k (a : Nat × Int64) => B_X7_readWord_18 tx k a.2) (m + 1) k (k, lN (sv (lv tx at0) (k - at0))) = stepE (iterE (fun k (a : Nat × Int64) => B_X7_readWord_18 tx k a.2) m (k + 1)) (B_X7_readWord_18 tx k (lN (sv (lv tx at0) (k - at0)))) := rfl
    rw [e1, e2]
    rcases letter_eq h (show k < n by omega) with ⟨a, b⟩ | ⟨a, b, c, q, q1, q2, q3⟩
    · have f2 : B_X7_readWord_18 tx k (lN (sv (lv tx at0) (k - at0))) = .inr (k, lN (sv (lv tx at0) (k - at0))) := by unfold B_X7_readWord_18; rw [if_pos b]
      rw [a, f2]
      exact ⟨k, Nat.le_refl k, by omega, Or.inr rfl, Or.inr rfl, hi⟩
    · have ek : at0 + (k - at0) = k := by omega
      have elv : lv tx at0 (k - at0) = q := by
        unfold lv
        rw [ek, q3, nI_clamp (by omega)]
        omega
      have hi2 : ∀ j, j < k + 1 - at0 → b1 (at0 + j) = tx (at0 + j) ∧ 1 ≤ lv tx at0 j ∧ lv tx at0 j ≤ 26 ∧ tx (at0 + j) = nI (96 + lv tx at0 j) := by
        intro j hj
        by_cases e : j = k - at0
        · rw [e, elv, ek]; exact ⟨c, q1, q2, q3⟩
        · exact hi j (by omega)
      have f2 : B_X7_readWord_18 tx k (lN (sv (lv tx at0) (k - at0))) = .inl (k + 1, lN (sv (lv tx at0) (k + 1 - at0))) := by
        unfold B_X7_readWord_18
        rw [if_neg b]
        have bd := sv_bd (f := lv tx at0) (k - at0) (fun j hj => ⟨(hi j hj).2.1, (hi j hj).2.2.1⟩)
        have es : sv (lv tx at0) (k + 1 - at0) = if sv (lv tx at0) (k - at0) ≤ 100000000000000 then 27 * sv (lv tx at0) (k - at0) + lv tx at0 (k - at0) else 200000000000000 := by
          rw [show k + 1 - at0 = (k - at0) + 1 by omega]; rfl
        have ec : lg_cmp (lN (sv (lv tx at0) (k - at0))) (100000000000000 : Int64) ≤ 0 ↔ sv (lv tx at0) (k - at0) ≤ 100000000000000 := by
          rw [lg_cmp_le, Int64.le_iff_toInt_le, show (lN (sv (lv tx at0) (k - at0))).toInt = ((sv (lv tx at0) (k - at0) : Nat) : Int) from lg_ofNat_toInt (by omega), show (100000000000000 : Int64).toInt = 100000000000000 from by decide]
          omega
        rw [es]
        by_cases d : sv (lv tx at0) (k - at0) ≤ 100000000000000
        · rw [if_pos (ec.mpr d), if_pos d, q3, elv, sv_lN d q1 q2]
        · rw [if_neg (fun z => d (ec.mp z)), if_neg d]
          rfl
      rw [a, f2]
      obtain ⟨e, r1, r2, r3, r4, r5⟩ := ih (k + 1) (by omega) (by omega) hi2
      exact ⟨e, by omega, r2, r3, r4, r5⟩
theorem word_eq {n at0 : Nat} {b1 tx : Nat → Int32} (h : JT n b1 tx) (ha : at0 < n) (hs : ¬ b1 at0 = 32) : ∃ e, S_X3_endOfWord at0 n b1 = e ∧ at0 ≤ e ∧ e ≤ n ∧ S_X7_readWord n at0 tx = (at0, lN (sv (lv tx at0) (e - at0)), e) ∧ ∀ j, j < e - at0 → b1 (at0 + j) = tx (at0 + j) ∧ 1 ≤ lv tx at0 j ∧ lv tx at0 j ≤ 26 ∧ tx (at0 + j) = nI (96 + lv tx at0 j) := by
  obtain ⟨e, r1, r2, r3, r4, r5⟩ := word_loop h (at0 := at0) (n - at0) at0 (by omega) (Nat.le_refl at0) (fun j hj => by omega)
  rw [show sv (lv tx at0) (at0 - at0) = 0 by rw [Nat.sub_self]; rfl] at r4
  refine ⟨e, ?_, r1, r2, ?_, r5⟩
  · unfold S_X3_endOfWord
    rcases r3 with z | z
    · exact (congrArg (outB (fun a => K_X3_endOfWord_5 a)) z).trans rfl
    · exact (congrArg (outB (fun a => K_X3_endOfWord_5 a)) z).trans rfl
  · unfold S_X7_readWord
    rw [here_eq h (by omega), skip_stay (by omega) (fun _ => hs)]
    show K_X7_readWord_1 n tx (if n ≤ at0 then (-1 : Int32) else tx at0) at0 = _
    unfold K_X7_readWord_1
    rcases r4 with z | z
    · exact (congrArg (outB (fun a => K_X7_readWord_18 at0 a.1 a.2)) z).trans rfl
    · exact (congrArg (outB (fun a => K_X7_readWord_18 at0 a.1 a.2)) z).trans rfl
def wv (i j : Nat) : Nat := ((SB.getD i []).getD j 0).toNatClampNeg - 96
theorem wv_ok : ∀ i, i < 5 → (∀ j, j < SL.getD i 0 → 1 ≤ wv i j ∧ wv i j ≤ 26 ∧ (SB.getD i []).getD j 0 = nI (96 + wv i j)) := by decide +kernel
theorem sv_w : ∀ i, i < 5 → ∀ k, k < SL.getD i 0 + 1 → sv (wv i) k ≤ 1000000000000 := by decide +kernel
theorem isw_loop {i at0 : Nat} {b1 : Nat → Int32} : ∀ m k, (outE (fun _ => K_X3_isWord_27) (iterE (fun k (_ : Unit) => B_X3_isWord_27 i at0 b1 k) m k ()) = 0 ∧ ¬ ∀ j, k ≤ j → j < k + m → b1 (at0 + j) = (SB.getD i []).getD j 0) ∨ (outE (fun _ => K_X3_isWord_27) (iterE (fun k (_ : Unit) => B_X3_isWord_27 i at0 b1 k) m k ()) = 1 ∧ ∀ j, k ≤ j → j < k + m → b1 (at0 + j) = (SB.getD i []).getD j 0) := by
  intro m
  induction m with
  | zero => intro k; exact Or.inr ⟨rfl, fun j h1 h2 => by omega⟩
  | succ m ih =>
    intro k
    have e1 : iterE (fun k (_ : Unit) => B_X3_isWord_27 i at0 b1 k) (m + 1) k () = stepE (iterE (fun k (_ : Unit) => B_X3_isWord_27 i at0 b1 k) m (k + 1)) (B_X3_isWord_27 i at0 b1 k) := rfl
    rw [e1]
    unfold B_X3_isWord_27
    by_cases c : b1 (at0 + k) = (SB.getD i []).getD k 0
    · rw [if_pos c]
      rcases ih (k + 1) with ⟨a, b⟩ | ⟨a, b⟩
      · exact Or.inl ⟨a, fun z => b (fun j h1 h2 => z j (by omega) (by omega))⟩
      · refine Or.inr ⟨a, fun j h1 h2 => ?_⟩
        by_cases e : j = k
        · rw [e]; exact c
        · exact b j (by omega) (by omega)
    · rw [if_neg c]
      exact Or.inl ⟨rfl, fun z => c (z k (Nat.le_refl k) (by omega))⟩
/-- a word: by its letters, by its number -/
theorem isw_eq {n at0 e : Nat} {b1 tx : Nat → Int32} (hae : at0 ≤ e) (he : e ≤ n) (hl : ∀ j, j < e - at0 → b1 (at0 + j) = tx (at0 + j) ∧ 1 ≤ lv tx at0 j ∧ lv tx at0 j ≤ 26 ∧ tx (at0 + j) = nI (96 + lv tx at0 j)) {i : Nat} (hi : i < 5) : S_X3_isWord i at0 e n b1 = 0 ↔ ¬ lg_cmp (lN (sv (lv tx at0) (e - at0))) (lN (sv (wv i) (SL.getD i 0))) = 0 := by
  have w1 := wv_ok i hi
  have w2 := sv_w i hi
  rw [lg_cmp_eq, lN_big (Nat.lt_of_le_of_lt (sv_bd _ (fun j hj => ⟨(hl j hj).2.1, (hl j hj).2.2.1⟩)) (by decide)) (Nat.lt_of_le_of_lt (w2 _ (by omega)) (by decide)), sv_inj (fun k hk => w2 k (by omega)) (fun j hj => ⟨(w1 j hj).1, (w1 j hj).2.1⟩) (fun j hj => ⟨(hl j hj).2.1, (hl j hj).2.2.1⟩)]
  unfold S_X3_isWord
  by_cases c : e - at0 = SL.getD i 0
  · rw [if_pos c, if_pos he]
    have k2 : ∀ j, j < SL.getD i 0 → (b1 (at0 + j) = (SB.getD i []).getD j 0 ↔ lv tx at0 j = wv i j) := by
      intro j hj
      obtain ⟨a1, a2, a3, a4⟩ := hl j (by omega)
      obtain ⟨b1, b2, b3⟩ := w1 j hj
      rw [a1, a4, b3, nI_eq (by omega) (by omega)]
      omega
    rcases isw_loop (i := i) (at0 := at0) (b1 := b1) (SL.getD i 0) 0 with ⟨a, b⟩ | ⟨a, b⟩
    · refine ⟨fun _ z => b (fun j _ h2 => (k2 j (by omega)).mpr (z.2 j (by omega))), fun _ => a⟩
    · refine ⟨fun z => absurd (a.symm.trans z) (by decide), fun z => absurd ⟨c, fun j hj => (k2 j hj).mp (b j (Nat.zero_le j) (by omega))⟩ z⟩
  · rw [if_neg c]
    exact ⟨fun _ z => c z.1, fun _ => rfl⟩
theorem code0 : S_X7_more (S_X7_code (121 : Int32) (101 : Int32) (97 : Int32)) (114 : Int32) = lN (sv (wv 0) (SL.getD 0 0)) := by decide +kernel
theorem code1 : S_X7_more (S_X7_more (S_X7_more (S_X7_code (98 : Int32) (114 : Int32) (105 : Int32)) (100 : Int32)) (103 : Int32)) (101 : Int32) = lN (sv (wv 1) (SL.getD 1 0)) := by decide +kernel
theorem code2 : S_X7_code (109 : Int32) (97 : Int32) (110 : Int32) = lN (sv (wv 2) (SL.getD 2 0)) := by decide +kernel
theorem code3 : S_X7_more (S_X7_more (S_X7_code (107 : Int32) (110 : Int32) (111 : Int32)) (119 : Int32)) (115 : Int32) = lN (sv (wv 3) (SL.getD 3 0)) := by decide +kernel
theorem code4 : S_X7_code (96 : Int32) (111 : Int32) (120 : Int32) = lN (sv (wv 4) (SL.getD 4 0)) := by decide +kernel
