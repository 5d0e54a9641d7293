/-! orders of some of six, and their places -/
def ordL : Nat → Nat → List (List Nat)
  | 0, _ => [[]]
  | n + 1, s => (List.range 6).flatMap (fun j => if s.testBit j = true then (ordL n (wo s j)).map (fun l => j :: l) else [])
def cO (A : Nat → Nat → Bool) : Nat → Nat → Nat
  | 0, _ => 1
  | n + 1, s => ((List.range 6).map (fun j => if (s.testBit j && A j (wo s j)) = true then cO A n (wo s j) else 0)).sum
def validA (A : Nat → Nat → Bool) : Nat → List Nat → Bool
  | _, [] => true
  | s, j :: l => A j (wo s j) && validA A (wo s j) l
def plc : List Nat → Nat → Nat
  | [], _ => 0
  | j :: l, t => if j = t then l.length else plc l t
theorem cO_eq (A : Nat → Nat → Bool) : ∀ n s, (ordL n s).countP (validA A s) = cO A n s := by
  intro n
  induction n with
  | zero => intro s; rfl
  | succ n ih =>
    intro s
    show ((List.range 6).flatMap (fun j => if s.testBit j = true then (ordL n (wo s j)).map (fun l => j :: l) else [])).countP (validA A s) = ((List.range 6).map (fun j => if (s.testBit j && A j (wo s j)) = true then cO A n (wo s j) else 0)).sum
    rw [List.countP_flatMap]
    refine congrArg List.sum (List.map_congr_left (fun j _ => ?_))
    show (if s.testBit j = true then (ordL n (wo s j)).map (fun l => j :: l) else []).countP (validA A s) = _
    by_cases c : s.testBit j = true
    · rw [if_pos c, List.countP_map, c, Bool.true_and]
      by_cases d : A j (wo s j) = true
      · rw [if_pos d, ← ih (wo s j)]
        refine List.countP_congr (fun l _ => ?_)
        show (A j (wo s j) && validA A (wo s j) l) = true ↔ _
        rw [d, Bool.true_and]
      · rw [if_neg d]
        refine List.countP_eq_zero.mpr (fun l _ => ?_)
        show ¬ (A j (wo s j) && validA A (wo s j) l) = true
        rw [Bool.eq_false_iff.mpr d, Bool.false_and]
        decide
    · rw [if_neg c, Bool.eq_false_iff.mpr c, Bool.false_and, if_neg (by decide)]
      rfl
theorem ordL_mem {n s : Nat} {l : List Nat} (h : l ∈ ordL (n + 1) s) : ∃ j, j < 6 ∧ s.testBit j = true ∧ ∃ l', l' ∈ ordL n (wo s j) ∧ l = j :: l' := by
  obtain ⟨j, hj, hl⟩ := List.mem_flatMap.mp h
  by_cases c : s.testBit j = true
  · rw [if_pos c] at hl
    obtain ⟨l', h1, h2⟩ := List.mem_map.mp hl
    exact ⟨j, List.mem_range.mp hj, c, l', h1, h2.symm⟩
  · rw [if_neg c] at hl
    cases hl
theorem wo64 {s j : Nat} (h : s < 64) : wo s j < 64 := Nat.lt_of_le_of_lt (wo_le s j) h
theorem plc_h {j : Nat} {l : List Nat} : plc (j :: l) j = l.length := if_pos rfl
theorem plc_t {j t : Nat} {l : List Nat} (h : ¬ t = j) : plc (j :: l) t = plc l t := if_neg (fun z => h z.symm)
theorem ord_places : ∀ n s l, s < 64 → l ∈ ordL n s → pc s = n → l.length = n ∧ (∀ t, t < 6 → s.testBit t = true → plc l t < n) ∧ (∀ t u, t < 6 → u < 6 → s.testBit t = true → s.testBit u = true → plc l t = plc l u → t = u) := by
  intro n
  induction n with
  | zero =>
    intro s l hs hl hp
    have hl : l = [] := List.mem_singleton.mp hl
    have h0 : ∀ s, s < 64 → pc s = 0 → ∀ t, t < 6 → s.testBit t = false := by decide +kernel
    have h0 := h0 s hs hp
    subst hl
    exact ⟨rfl, fun t ht hb => absurd ((h0 t ht).symm.trans hb) (by decide), fun t u ht _ hb => absurd ((h0 t ht).symm.trans hb) (by decide)⟩
  | succ n ih =>
    intro s l hs hl hp
    obtain ⟨j, hj, hb, l', hl', rfl⟩ := ordL_mem hl
    have hp2 := pc_wo s hs j hj hb
    obtain ⟨i1, i2, i3⟩ := ih (wo s j) l' (wo64 hs) hl' (by omega)
    have hw : ∀ t, t < 6 → s.testBit t = true → ¬ t = j → (wo s j).testBit t = true := fun t ht hbt hne => by
      rw [wo_bit s hs j hj t ht, hbt, beq_eq_false_iff_ne.mpr hne]; rfl
    refine ⟨by rw [List.length_cons, i1], fun t ht hbt => ?_, fun t u ht hu hbt hbu he => ?_⟩
    · by_cases e : t = j
      · rw [e, plc_h, i1]; omega
      · rw [plc_t e]
        have := i2 t ht (hw t ht hbt e)
        omega
    · by_cases e : t = j
      · by_cases f : u = j
        · rw [e, f]
        · rw [e, plc_h, i1, plc_t f] at he
          have := i2 u hu (hw u hu hbu f)
          omega
      · by_cases f : u = j
        · rw [f, plc_h, i1, plc_t e] at he
          have := i2 t ht (hw t ht hbt e)
          omega
        · rw [plc_t e, plc_t f] at he
          exact i3 t u ht hu (hw t ht hbt e) (hw u hu hbu f) he
theorem ord_valid {A : Nat → Nat → Bool} {rel : Nat → Nat → Prop} (hA : ∀ j r, j < 6 → r < 64 → (A j r = true ↔ ∀ x, rel x j → x < 6 ∧ r.testBit x = true)) : ∀ n s l, s < 64 → l ∈ ordL n s → pc s = n → (validA A s l = true ↔ ∀ y, y < 6 → s.testBit y = true → ∀ x, rel x y → x < 6 ∧ s.testBit x = true ∧ plc l x < plc l y) := by
  intro n
  induction n with
  | zero =>
    intro s l hs hl hp
    have hl : l = [] := List.mem_singleton.mp hl
    have h0 : ∀ s, s < 64 → pc s = 0 → ∀ t, t < 6 → s.testBit t = false := by decide +kernel
    have h0 := h0 s hs hp
    subst hl
    exact ⟨fun _ y hy hb => absurd ((h0 y hy).symm.trans hb) (by decide), fun _ => rfl⟩
  | succ n ih =>
    intro s l hs hl hp
    obtain ⟨j, hj, hb, l', hl', rfl⟩ := ordL_mem hl
    have hp2 := pc_wo s hs j hj hb
    obtain ⟨i1, i2, _⟩ := ord_places n (wo s j) l' (wo64 hs) hl' (by omega)
    have ih := ih (wo s j) l' (wo64 hs) hl' (by omega)
    have hw : ∀ t, t < 6 → ((wo s j).testBit t = true ↔ (s.testBit t = true ∧ ¬ t = j)) := fun t ht => by
      rw [wo_bit s hs j hj t ht, Bool.and_eq_true, Bool.not_eq_true', beq_eq_false_iff_ne]
    show (A j (wo s j) && validA A (wo s j) l') = true ↔ _
    rw [Bool.and_eq_true, ih, hA j (wo s j) hj (wo64 hs)]
    constructor
    · rintro ⟨a, c⟩ y hy hby x hr
      by_cases e : y = j
      · subst e
        obtain ⟨hx, hx2⟩ := a x hr
        obtain ⟨q1, q2⟩ := (hw x hx).mp hx2
        refine ⟨hx, q1, ?_⟩
        rw [plc_h, plc_t q2, i1]
        exact i2 x hx hx2
      · obtain ⟨hx, hx2, hx3⟩ := c y hy ((hw y hy).mpr ⟨hby, e⟩) x hr
        obtain ⟨q1, q2⟩ := (hw x hx).mp hx2
        refine ⟨hx, q1, ?_⟩
        rw [plc_t q2, plc_t e]
        exact hx3
    · intro a
      constructor
      · intro x hr
        obtain ⟨hx, hx2, hx3⟩ := a j hj hb x hr
        refine ⟨hx, (hw x hx).mpr ⟨hx2, fun e => ?_⟩⟩
        rw [e] at hx3
        exact Nat.lt_irrefl _ hx3
      · intro y hy hby x hr
        obtain ⟨q1, q2⟩ := (hw y hy).mp hby
        obtain ⟨hx, hx2, hx3⟩ := a y hy q1 x hr
        have hne : ¬ x = j := fun e => by
          rw [e, plc_h, i1, plc_t q2] at hx3
          have := i2 y hy hby
          omega
        rw [plc_t hne, plc_t q2] at hx3
        exact ⟨hx, (hw x hx).mpr ⟨hx2, hne⟩, hx3⟩
/-! codes: the place of each, as figures of a number -/
def dg (m c t : Nat) : Nat := c / m ^ t % m
def had (m c : Nat) : Nat → Nat
  | 0 => 0
  | t + 1 => had m c t ||| 2 ^ dg m c t
def permB (m c : Nat) : Bool := had m c m == 2 ^ m - 1
def pcodes (m : Nat) : Nat → Nat → List Nat
  | 0, _ => []
  | n + 1, k => match permB m k with
    | true => k :: pcodes m n (k + 1)
    | false => pcodes m n (k + 1)
def codeOf (m : Nat) (l : List Nat) : Nat → Nat
  | 0 => 0
  | t + 1 => codeOf m l t + plc l t * m ^ t
theorem codes_ok0 : (pcodes 0 (0 ^ 0) 0).isPerm ((ordL 0 (2 ^ 0 - 1)).map (fun l => codeOf 0 l 0)) = true := by decide +kernel
theorem codes_ok1 : (pcodes 1 (1 ^ 1) 0).isPerm ((ordL 1 (2 ^ 1 - 1)).map (fun l => codeOf 1 l 1)) = true := by decide +kernel
theorem codes_ok2 : (pcodes 2 (2 ^ 2) 0).isPerm ((ordL 2 (2 ^ 2 - 1)).map (fun l => codeOf 2 l 2)) = true := by decide +kernel
theorem codes_ok3 : (pcodes 3 (3 ^ 3) 0).isPerm ((ordL 3 (2 ^ 3 - 1)).map (fun l => codeOf 3 l 3)) = true := by decide +kernel
theorem codes_ok4 : (pcodes 4 (4 ^ 4) 0).isPerm ((ordL 4 (2 ^ 4 - 1)).map (fun l => codeOf 4 l 4)) = true := by decide +kernel
theorem codes_ok5 : (pcodes 5 (5 ^ 5) 0).isPerm ((ordL 5 (2 ^ 5 - 1)).map (fun l => codeOf 5 l 5)) = true := by decide +kernel
theorem codes_ok6 : (pcodes 6 (6 ^ 6) 0).isPerm ((ordL 6 (2 ^ 6 - 1)).map (fun l => codeOf 6 l 6)) = true := by decide +kernel
theorem codes_ok {m : Nat} (h : m ≤ 6) : (pcodes m (m ^ m) 0).Perm ((ordL m (2 ^ m - 1)).map (fun l => codeOf m l m)) := by
  rcases (show m = 0 ∨ m = 1 ∨ m = 2 ∨ m = 3 ∨ m = 4 ∨ m = 5 ∨ m = 6 by omega) with rfl | rfl | rfl | rfl | rfl | rfl | rfl
  · exact List.isPerm_iff.mp codes_ok0
  · exact List.isPerm_iff.mp codes_ok1
  · exact List.isPerm_iff.mp codes_ok2
  · exact List.isPerm_iff.mp codes_ok3
  · exact List.isPerm_iff.mp codes_ok4
  · exact List.isPerm_iff.mp codes_ok5
  · exact List.isPerm_iff.mp codes_ok6
theorem digits_ok : ∀ m, m < 7 → ((ordL m (2 ^ m - 1)).all (fun l => (List.range m).all (fun t => dg m (codeOf m l m) t == plc l t))) = true := by decide +kernel
theorem dg_code {m t : Nat} {l : List Nat} (h : m ≤ 6) (hl : l ∈ ordL m (2 ^ m - 1)) (ht : t < m) : dg m (codeOf m l m) t = plc l t := by
  have h1 := List.all_eq_true.mp (digits_ok m (by omega)) l hl
  have h2 := List.all_eq_true.mp h1 t (List.mem_range.mpr ht)
  exact eq_of_beq h2
theorem full_ok : ∀ m, m < 7 → 2 ^ m - 1 < 64 ∧ pc (2 ^ m - 1) = m ∧ ∀ t, t < 6 → ((2 ^ m - 1).testBit t = decide (t < m)) := by decide +kernel
