/-! what holds of a loop's function -/
theorem iter_ind {α : Type} {b : Nat → α → α} {N : Nat} (P : Nat → α → Prop) (h : ∀ k a, k < N → P k a → P (k + 1) (b k a)) : ∀ (n k : Nat) (a : α), k + n = N → P k a → P N (iter b n k a) := by
  intro n
  induction n with
  | zero => intro k a hk hp; rw [show N = k from by omega]; exact hp
  | succ n ih => intro k a hk hp; exact ih (k + 1) (b k a) (by omega) (h k a (by omega) hp)
theorem iterE_ind {α ρ : Type} {b : Nat → α → α ⊕ ρ} {N : Nat} (P : Nat → α → Prop) (R : ρ → Prop) (h1 : ∀ k a a', k < N → P k a → b k a = .inl a' → P (k + 1) a') (h2 : ∀ k a r, k < N → P k a → b k a = .inr r → R r) : ∀ (n k : Nat) (a : α), k + n = N → P k a → (∃ a', iterE b n k a = .inl a' ∧ P N a') ∨ (∃ r, iterE b n k a = .inr r ∧ R r) := by
  intro n
  induction n with
  | zero => intro k a hk hp; exact Or.inl ⟨a, rfl, by rw [show N = k from by omega]; exact hp⟩
  | succ n ih =>
    intro k a hk hp
    cases hb : b k a with
    | inl a' =>
      have e : iterE b (n + 1) k a = iterE b n (k + 1) a' := by show stepE _ (b k a) = _; rw [hb]; rfl
      rw [e]
      exact ih (k + 1) a' (by omega) (h1 k a a' (by omega) hp hb)
    | inr r =>
      have e : iterE b (n + 1) k a = .inr r := by show stepE _ (b k a) = _; rw [hb]; rfl
      exact Or.inr ⟨r, e, h2 k a r (by omega) hp hb⟩
theorem rg_le {x : Int32} {n : Nat} (h0 : ¬ x < 1) (h1 : x ≤ nI n) (hn : n ≤ 1000) : x = nI x.toNatClampNeg ∧ x.toNatClampNeg ≤ n ∧ 1 ≤ x.toNatClampNeg := by
  have h00 : ¬ x < 0 := fun z => h0 (by
    rw [Int32.lt_iff_toInt_lt] at z ⊢
    have e0 : (0 : Int32).toInt = 0 := by decide
    have e1 : (1 : Int32).toInt = 1 := by decide
    omega)
  obtain ⟨j, hj, rfl⟩ := nI_of h00
  rw [nI_clamp hj]
  have h2 : j ≤ n := (nI_leI hj (by omega)).mp h1
  refine ⟨rfl, h2, ?_⟩
  rcases Nat.eq_zero_or_pos j with h | h
  · subst h; exact absurd (by decide) h0
  · exact h
theorem NN.up {a b : Nat} {v : Int32} (h : NN a v) (hab : a ≤ b) : NN b v := h.imp id (fun z => ⟨z.1, Nat.lt_of_lt_of_le z.2 hab⟩)
def iterW {α ρ : Type} (b : α → α ⊕ ρ) : Nat → α → α ⊕ ρ
  | 0, a => .inl a
  | n + 1, a => stepE (iterW b n) (b a)
def outEB {α ρ : Type} (f : α → ρ) : α ⊕ (α ⊕ ρ) → ρ
  | .inl a => f a
  | .inr (.inl a) => f a
  | .inr (.inr r) => r
/-- a loop's function, by its last step -/
theorem iter_snoc {α : Type} (b : Nat → α → α) : ∀ (n k : Nat) (a : α), iter b (n + 1) k a = b (k + n) (iter b n k a) := by
  intro n
  induction n with
  | zero => intro k a; rfl
  | succ n ih =>
    intro k a
    show iter b (n + 1) (k + 1) (b k a) = _
    rw [ih (k + 1) (b k a), show k + 1 + n = k + (n + 1) from by omega]
    rfl
theorem iter_last {α : Type} (b : Nat → α → α) (n : Nat) (a : α) : iter b (n + 1) 0 a = b n (iter b n 0 a) := by
  rw [iter_snoc, Nat.zero_add]
theorem iterW_ind {α ρ : Type} {b : α → α ⊕ ρ} (P : α → Prop) (R : ρ → Prop) (h1 : ∀ a a', P a → b a = .inl a' → P a') (h2 : ∀ a r, P a → b a = .inr r → R r) : ∀ (n : Nat) (a : α), P a → (∃ a', iterW b n a = .inl a' ∧ P a') ∨ (∃ r, iterW b n a = .inr r ∧ R r) := by
  intro n
  induction n with
  | zero => intro a hp; exact Or.inl ⟨a, rfl, hp⟩
  | succ n ih =>
    intro a hp
    cases hb : b a with
    | inl a' =>
      have e : iterW b (n + 1) a = iterW b n a' := by show stepE _ (b a) = _; rw [hb]; rfl
      rw [e]
      exact ih a' (h1 a a' hp hb)
    | inr r =>
      have e : iterW b (n + 1) a = .inr r := by show stepE _ (b a) = _; rw [hb]; rfl
      exact Or.inr ⟨r, e, h2 a r hp hb⟩
