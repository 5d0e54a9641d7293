/-! sets as bits; what loops over sets give -/
def bq (s : Int32) (k : Nat) : Bool := s.toBitVec.getLsbD k
theorem bq_and (a b : Int32) (k : Nat) : bq (a &&& b) k = (bq a k && bq b k) := by
  unfold bq
  rw [Int32.toBitVec_and, BitVec.getLsbD_and]
theorem bq_or (a b : Int32) (k : Nat) : bq (a ||| b) k = (bq a k || bq b k) := by
  unfold bq
  rw [Int32.toBitVec_or, BitVec.getLsbD_or]
theorem bq_not (a : Int32) {k : Nat} (h : k < 32) : bq (a ^^^ (-1 : Int32)) k = !bq a k := by
  unfold bq
  rw [Int32.toBitVec_xor, BitVec.getLsbD_xor, show ((-1 : Int32).toBitVec) = BitVec.allOnes 32 from by decide, BitVec.getLsbD_allOnes, decide_eq_true h, Bool.xor_true]
theorem bq_hi (a : Int32) {k : Nat} (h : 32 ≤ k) : bq a k = false := BitVec.getLsbD_of_ge _ _ h
theorem bq_nI (n k : Nat) : bq (nI n) k = (decide (k < 32) && n.testBit k) := BitVec.getLsbD_ofNat 32 n k
theorem bq_0 (k : Nat) : bq 0 k = false := by
  unfold bq
  rw [Int32.toBitVec_zero, BitVec.getLsbD_zero]
theorem bq_ext {a b : Int32} (h : ∀ k, k < 32 → bq a k = bq b k) : a = b := Int32.toBitVec_inj.mp (BitVec.eq_of_getLsbD_eq h)
theorem bq_bit {j : Nat} (k : Nat) (h : j < 31) : bq ((1 : Int32) <<< ((nI j) &&& 31)) k = decide (k = j) := by
  rw [shl_nat h, bq_nI, Nat.testBit_two_pow]
  by_cases e : k = j
  · subst e
    rw [decide_eq_true (show k < 32 by omega), decide_eq_true rfl]; rfl
  · rw [decide_eq_false e, decide_eq_false (fun z : j = k => e z.symm), Bool.and_false]
theorem bq_bit6 {j : Nat} (k : Nat) (h : j < 31) : bq (S_X6_bit (nI j)) k = decide (k = j) := bq_bit k h
/-- without the bit of k -/
theorem bq_wo {s : Int32} {j k : Nat} (hj : j < 31) (hk : k < 32) : bq (s &&& (((1 : Int32) <<< ((nI j) &&& 31)) ^^^ (-1 : Int32))) k = (bq s k && !decide (k = j)) := by
  rw [bq_and, bq_not _ hk, bq_bit k hj]
theorem bq_wo6 {s : Int32} {j k : Nat} (hj : j < 31) (hk : k < 32) : bq (s &&& ((S_X6_bit (nI j)) ^^^ (-1 : Int32))) k = (bq s k && !decide (k = j)) := bq_wo hj hk
theorem bq_z {a : Int32} : a = 0 ↔ ∀ k, k < 32 → bq a k = false :=
  ⟨fun h k _ => by rw [h]; exact bq_0 k, fun h => bq_ext (fun k hk => by rw [h k hk, bq_0])⟩
theorem has6 (s : Int32) {k : Nat} (h : k < 31) : S_X6_has s (nI k) = if bq s k = true then (1 : Int32) else 0 := by
  have e : (s &&& (S_X6_bit (nI k))) = 0 ↔ bq s k = false := by
    rw [bq_z]
    constructor
    · intro z
      have := z k (by omega)
      rw [bq_and, bq_bit6 k h, decide_eq_true rfl, Bool.and_true] at this
      exact this
    · intro z j hj
      rw [bq_and, bq_bit6 j h]
      by_cases e : j = k
      · subst e; rw [z]; rfl
      · rw [decide_eq_false e, Bool.and_false]
  unfold S_X6_has
  by_cases c : bq s k = true
  · rw [if_pos c, if_neg (fun z => by rw [e.mp z] at c; cases c)]
  · rw [if_neg c, if_pos (e.mpr (Bool.eq_false_iff.mpr c))]
theorem sh31 : ∀ k, k < 31 → ((nI k &&& 31).toBitVec.smod 32).toNat = k := by decide +kernel
theorem bq_shr (s : Int32) {k : Nat} (h : k < 31) : bq (s >>> ((nI k) &&& 31)) 0 = bq s k := by
  unfold bq
  rw [Int32.toBitVec_shiftRight, BitVec.getLsbD_sshiftRight', sh31 k h, if_pos (by omega)]
  rfl
theorem and1 (x : Int32) : x &&& (1 : Int32) = if bq x 0 = true then (1 : Int32) else 0 := by
  apply bq_ext
  intro k hk
  have h1 : ∀ k, k < 32 → bq (1 : Int32) k = decide (k = 0) := by decide +kernel
  rw [bq_and, h1 k hk]
  by_cases e : k = 0
  · subst e
    by_cases c : bq x 0 = true
    · rw [if_pos c, c]; rfl
    · rw [if_neg c, Bool.eq_false_iff.mpr c]; rfl
  · rw [decide_eq_false e, Bool.and_false]
    by_cases c : bq x 0 = true
    · rw [if_pos c, h1 k hk, decide_eq_false e]
    · rw [if_neg c, bq_0]
theorem shr1 (s : Int32) {k : Nat} (h : k < 31) : ((s >>> ((nI k) &&& 31)) &&& (1 : Int32)) = if bq s k = true then (1 : Int32) else 0 := by
  rw [and1, bq_shr s h]
theorem has7 (s : Int32) {k : Nat} (h : k < 31) : S_X7_has s (nI k) = if bq s k = true then (1 : Int32) else 0 := by
  unfold S_X7_has
  rw [shr1 s h]
  by_cases c : bq s k = true
  · rw [if_pos c, if_pos rfl]
  · rw [if_neg c, if_neg (by decide)]
theorem has67 (s : Int32) {k : Nat} (h : k < 31) : S_X6_has s (nI k) = S_X7_has s (nI k) := (has6 s h).trans (has7 s h).symm
theorem hz6 {s : Int32} {k : Nat} (h : k < 31) : S_X6_has s (nI k) = 0 ↔ bq s k = false := by
  rw [has6 s h]
  by_cases c : bq s k = true
  · rw [if_pos c, c]; exact ⟨fun z => absurd z (by decide), fun z => by cases z⟩
  · rw [if_neg c, Bool.eq_false_iff.mpr c]; exact ⟨fun _ => rfl, fun _ => rfl⟩
theorem hz7 {s : Int32} {k : Nat} (h : k < 31) : S_X7_has s (nI k) = 0 ↔ bq s k = false := by
  rw [← has67 s h]; exact hz6 h
/-- bits below n alone -/
def SBn (n : Nat) (s : Int32) : Prop := ∀ k, n ≤ k → bq s k = false
theorem SBn.zero {n : Nat} : SBn n 0 := fun k _ => bq_0 k
theorem SBn.and {n : Nat} {a b : Int32} (h : SBn n a) : SBn n (a &&& b) := fun k hk => by rw [bq_and, h k hk, Bool.false_and]
theorem SBn.or {n : Nat} {a b : Int32} (h : SBn n a) (h2 : SBn n b) : SBn n (a ||| b) := fun k hk => by rw [bq_or, h k hk, h2 k hk]; rfl
theorem SBn.bit {n j : Nat} (h : j < n) (hj : j < 31) : SBn n ((1 : Int32) <<< ((nI j) &&& 31)) := fun k hk => by rw [bq_bit k hj, decide_eq_false (by omega)]
theorem SBn.ext {n : Nat} {a b : Int32} (ha : SBn n a) (hb : SBn n b) (h : ∀ k, k < n → bq a k = bq b k) : a = b := bq_ext (fun k _ => by
  rcases Nat.lt_or_ge k n with q | q
  · exact h k q
  · rw [ha k q, hb k q])
theorem SBn.up {n m : Nat} {a : Int32} (h : SBn n a) (hm : n ≤ m) : SBn m a := fun k hk => h k (Nat.le_trans hm hk)
/-! loops -/
theorem iter_congr {α : Type} {f g : Nat → α → α} : ∀ (n k : Nat) (a : α), (∀ j a, k ≤ j → j < k + n → f j a = g j a) → iter f n k a = iter g n k a := by
  intro n
  induction n with
  | zero => intro k a _; rfl
  | succ n ih =>
    intro k a h
    show iter f n (k + 1) (f k a) = iter g n (k + 1) (g k a)
    rw [h k a (Nat.le_refl _) (by omega)]
    exact ih (k + 1) (g k a) (fun j b h1 h2 => h j b (by omega) (by omega))
theorem iter_eq {α : Type} {f g : Nat → α → α} {n : Nat} {a : α} (h : ∀ j a, j < n → f j a = g j a) : iter f n 0 a = iter g n 0 a := iter_congr n 0 a (fun j b _ h2 => h j b (by omega))
theorem iter_rel {α β : Type} {f : Nat → α → α} {g : Nat → β → β} {N : Nat} (P : Nat → α → β → Prop) (h : ∀ k a b, k < N → P k a b → P (k + 1) (f k a) (g k b)) : ∀ (n k : Nat) (a : α) (b : β), k + n = N → P k a b → P N (iter f n k a) (iter g n k b) := by
  intro n
  induction n with
  | zero => intro k a b hk hp; rw [show N = k from by omega]; exact hp
  | succ n ih => intro k a b hk hp; exact ih (k + 1) (f k a) (g k b) (by omega) (h k a b (by omega) hp)
theorem iter_set {n : Nat} (hn : n ≤ 31) {f : Nat → Int32 → Int32} (P : Nat → Bool) (a : Int32) (hf : ∀ k a, k < n → f k a = if P k = true then a ||| ((1 : Int32) <<< ((nI k) &&& 31)) else a) (j : Nat) : bq (iter f n 0 a) j = (bq a j || (decide (j < n) && P j)) := by
  have key : ∀ m, m ≤ n → bq (iter f m 0 a) j = (bq a j || (decide (j < m) && P j)) := by
    intro m
    induction m with
    | zero =>
      intro _
      show bq a j = _
      rw [decide_eq_false (Nat.not_lt_zero j), Bool.false_and, Bool.or_false]
    | succ m ih =>
      intro hm
      rw [iter_last, hf m _ (by omega)]
      have ih := ih (by omega)
      by_cases c : P m = true
      · rw [if_pos c, bq_or, ih, bq_bit j (by omega)]
        by_cases e : j = m
        · subst e
          rw [decide_eq_true rfl, decide_eq_true (Nat.lt_succ_self j), c, Bool.or_true]
          cases bq a j <;> rfl
        · rw [decide_eq_false e, Bool.or_false]
          by_cases l : j < m
          · rw [decide_eq_true l, decide_eq_true (show j < m + 1 by omega)]
          · rw [decide_eq_false l, decide_eq_false (show ¬ j < m + 1 by omega)]
      · rw [if_neg c, ih]
        by_cases e : j = m
        · subst e
          rw [Bool.eq_false_iff.mpr c, Bool.and_false, Bool.and_false]
        · by_cases l : j < m
          · rw [decide_eq_true l, decide_eq_true (show j < m + 1 by omega)]
          · rw [decide_eq_false l, decide_eq_false (show ¬ j < m + 1 by omega)]
  exact key n (Nat.le_refl n)
theorem iter_all {n : Nat} {f : Nat → Int32 → Int32} (P : Nat → Prop) (h0 : ∀ k, k < n → f k 0 = 0) (h1 : ∀ k, k < n → P k → f k 1 = 1) (h2 : ∀ k, k < n → ¬ P k → f k 1 = 0) {a : Int32} (ha : a = 0 ∨ a = 1) : (iter f n 0 a = 1 ∧ a = 1 ∧ ∀ k, k < n → P k) ∨ (iter f n 0 a = 0 ∧ ¬ (a = 1 ∧ ∀ k, k < n → P k)) := by
  have key : ∀ m, m ≤ n → (iter f m 0 a = 1 ∧ a = 1 ∧ ∀ k, k < m → P k) ∨ (iter f m 0 a = 0 ∧ ¬ (a = 1 ∧ ∀ k, k < m → P k)) := by
    intro m
    induction m with
    | zero =>
      intro _
      rcases ha with h | h
      · exact Or.inr ⟨h, fun z => absurd (h.symm.trans z.1) (by decide)⟩
      · exact Or.inl ⟨h, h, fun k hk => absurd hk (Nat.not_lt_zero k)⟩
    | succ m ih =>
      intro hm
      rw [iter_last]
      rcases ih (by omega) with ⟨e, e1, e2⟩ | ⟨e, e1⟩
      · rw [e]
        by_cases c : P m
        · exact Or.inl ⟨h1 m (by omega) c, e1, fun k hk => if q : k = m then by rw [q]; exact c else e2 k (by omega)⟩
        · exact Or.inr ⟨h2 m (by omega) c, fun z => c (z.2 m (Nat.lt_succ_self m))⟩
      · rw [e]
        exact Or.inr ⟨h0 m (by omega), fun z => e1 ⟨z.1, fun k hk => z.2 k (by omega)⟩⟩
  exact key n (Nat.le_refl n)
theorem iter_any {n : Nat} {f : Nat → Int32 → Int32} (P : Nat → Prop) (h0 : ∀ k, k < n → f k 1 = 1) (h1 : ∀ k, k < n → P k → f k 0 = 1) (h2 : ∀ k, k < n → ¬ P k → f k 0 = 0) {a : Int32} (ha : a = 0 ∨ a = 1) : (iter f n 0 a = 1 ∧ (a = 1 ∨ ∃ k, k < n ∧ P k)) ∨ (iter f n 0 a = 0 ∧ a = 0 ∧ ∀ k, k < n → ¬ P k) := by
  have key : ∀ m, m ≤ n → (iter f m 0 a = 1 ∧ (a = 1 ∨ ∃ k, k < m ∧ P k)) ∨ (iter f m 0 a = 0 ∧ a = 0 ∧ ∀ k, k < m → ¬ P k) := by
    intro m
    induction m with
    | zero =>
      intro _
      rcases ha with h | h
      · exact Or.inr ⟨h, h, fun k hk => absurd hk (Nat.not_lt_zero k)⟩
      · exact Or.inl ⟨h, Or.inl h⟩
    | succ m ih =>
      intro hm
      rw [iter_last]
      rcases ih (by omega) with ⟨e, e1⟩ | ⟨e, e1, e2⟩
      · rw [e]
        exact Or.inl ⟨h0 m (by omega), e1.imp id (fun ⟨k, hk, hp⟩ => ⟨k, by omega, hp⟩)⟩
      · rw [e]
        by_cases c : P m
        · exact Or.inl ⟨h1 m (by omega) c, Or.inr ⟨m, Nat.lt_succ_self m, c⟩⟩
        · exact Or.inr ⟨h2 m (by omega) c, e1, fun k hk => if q : k = m then by rw [q]; exact c else e2 k (by omega)⟩
  exact key n (Nat.le_refl n)
theorem b01 {a b : Int32} (ha : a = 0 ∨ a = 1) (hb : b = 0 ∨ b = 1) (h : a = 0 ↔ b = 0) : a = b := by
  rcases ha with e | e <;> rcases hb with q | q
  · rw [e, q]
  · exact absurd ((h.mp e).symm.trans q) (by decide)
  · exact absurd ((h.mpr q).symm.trans e) (by decide)
  · rw [e, q]
theorem tf {b : Bool} : b = true ↔ ¬ b = false := by cases b <;> decide
