/-! class and reference: what they ask of one, of one at a bridge -/
theorem in_gen {x l g : Int32} : S_X7_in x.toInt64 l.toInt64 g.toInt64 = if x < l then (0 : Int32) else (if g < x then (0 : Int32) else (1 : Int32)) := by
  unfold S_X7_in
  have a1 : lg_cmp x.toInt64 l.toInt64 < 0 ↔ x < l := by
    rw [lg_cmp_lt, Int64.lt_iff_toInt_lt, w64, w64, Int32.lt_iff_toInt_lt]
  have a2 : 0 < lg_cmp x.toInt64 g.toInt64 ↔ g < x := by
    rw [lg_cmp_gt, Int64.lt_iff_toInt_lt, w64, w64, Int32.lt_iff_toInt_lt]
  by_cases c : x < l
  · rw [if_pos (a1.mpr c), if_pos c]
  · rw [if_neg (fun z => c (a1.mp z)), if_neg c]
    by_cases d : g < x
    · rw [if_pos (a2.mpr d), if_pos d]
    · rw [if_neg (fun z => d (a2.mp z)), if_neg d]
theorem inB_z {x : Int32} {n : Nat} (hn : n ≤ 1000) : S_X7_in x.toInt64 (0 : Int64) ((nI n) - (1 : Int32)).toInt64 = if x < 0 then (0 : Int32) else (if (nI n) ≤ x then (0 : Int32) else (1 : Int32)) := by
  rw [show (0 : Int64) = (0 : Int32).toInt64 from by decide, in_gen]
  have e : ((nI n) - (1 : Int32)) < x ↔ nI n ≤ x := by
    rw [Int32.lt_iff_toInt_lt, Int32.le_iff_toInt_le, nI_toInt (by omega), show ((nI n) - (1 : Int32)).toInt = (n : Int) - 1 from pk_sub_toInt (a := n) (b := 1) (by omega) (by decide)]
    omega
  by_cases c : x < 0
  · rw [if_pos c, if_pos c]
  · rw [if_neg c, if_neg c]
    by_cases d : nI n ≤ x
    · rw [if_pos d, if_pos (e.mpr d)]
    · rw [if_neg d, if_neg (fun z => d (e.mp z))]
theorem br_eq {x : Int32} {n : Nat} (hn : n ≤ 1000) : S_X7_isBridge x n = S_X1_hasBridge x n := inB_z hn
theorem man_eq {x : Int32} {n : Nat} (hn : n ≤ 1000) : S_X7_isMan x n = S_X1_hasMan x n := inB_z hn
theorem man01 {x : Int32} {n : Nat} : S_X1_hasMan x n = 0 ∨ S_X1_hasMan x n = 1 := by
  unfold S_X1_hasMan
  split
  · exact Or.inl rfl
  · split
    · exact Or.inl rfl
    · exact Or.inr rfl
theorem rem_eq {b t : Nat} {dy : Int32} {li fg li' fg' : Nat → Int32} (hl : li' (6 * b + t) = li (b * 6 + t)) (hf : fg' b = fg b) (h0 : li (b * 6 + t) = -1 ∨ ¬ li (b * 6 + t) < 0) : S_X7_isRemembered b t li' fg' dy = S_X0_isRemembered b t dy li fg := by
  unfold S_X0_isRemembered S_X7_isRemembered S_X6_slot
  rw [hl, hf]
  rcases h0 with h | h
  · rw [if_pos h, if_pos (by rw [h]; decide)]
  · rw [if_neg h, if_neg (fun z : li (b * 6 + t) = -1 => h (by rw [z]; decide))]
theorem rem01 {b t : Nat} {dy : Int32} {li fg : Nat → Int32} : S_X0_isRemembered b t dy li fg = 0 ∨ S_X0_isRemembered b t dy li fg = 1 := by
  unfold S_X0_isRemembered
  split
  · exact Or.inl rfl
  · split
    · exact Or.inr rfl
    · split
      · exact Or.inl rfl
      · exact Or.inr rfl
theorem heavier_b {x : Int32} {men : Nat} {w : Nat → Int32} (hm : men ≤ 6) (j : Nat) : bq (S_X1_heavierThan x men w) j = (decide (j < men) && decide (x < w j)) := by
  show bq (iter (fun k a => B_X1_heavierThan_4 x w k a) men 0 0) j = _
  rw [iter_set (n := men) (by omega) (fun k => decide (x < w k)) 0 (fun k a hk => by
    show B_X1_heavierThan_4 x w k a = _
    unfold B_X1_heavierThan_4
    by_cases c : w k ≤ x
    · rw [if_pos c, if_neg (fun z => Int32.not_le.mpr (of_decide_eq_true z) c)]
    · rw [if_neg c, if_pos (decide_eq_true (Int32.not_le.mp c))]; rfl) j, bq_0, Bool.false_or]
theorem wlt {w : Nat → Int32} {t : Nat} {x : Int32} (h : ∃ m, m < 999 ∧ w t = nI (m + 1)) : (w t - (1 : Int32)) < x ↔ w t ≤ x := by
  obtain ⟨m, hm, e⟩ := h
  rw [e, nI_pred, Int32.lt_iff_toInt_lt, Int32.le_iff_toInt_le, nI_toInt (by omega), nI_toInt (by omega)]
  omega
theorem year_eq {dy yr : Int32} (hy : 1 ≤ yr) : S_X1_yearOf dy yr = dy / yr := by
  unfold S_X1_yearOf
  rw [if_pos hy]
theorem alone_eq {b t men : Nat} {w w' al al' : Nat → Int32} {yr lv dy : Int32} (hm : men ≤ 6) (ht : t < men) (hy : 1 ≤ yr) (hw : ∀ t, t < men → w' t = w t) (hw1 : ∃ m, m < 999 ∧ w t = nI (m + 1)) (ha : al' (6 * b + t) = al (b * 6 + t)) : S_X7_mayAlone b t al' dy yr men lv w' = S_X0_goesAlone b t w yr men lv dy al := by
  have hset : (((S_X1_heavierThan ((w t) - (1 : Int32)) men w) &&& ((S_X6_bit (nI t)) ^^^ (-1 : Int32))) &&& lv) = 0 ↔ ∀ u, u < men → u = t ∨ bq lv u = false ∨ w u < w t := by
    rw [bq_z]
    constructor
    · intro z u hu
      by_cases e : u = t
      · exact Or.inl e
      · by_cases hl : bq lv u = false
        · exact Or.inr (Or.inl hl)
        · have q := z u (by omega)
          rw [bq_and, bq_wo6 (by omega) (by omega), heavier_b hm, decide_eq_true hu, decide_eq_false e, tf.mpr hl, Bool.true_and, Bool.not_false, Bool.and_true, Bool.and_true] at q
          exact Or.inr (Or.inr (Int32.not_le.mp (fun z => of_decide_eq_false q ((wlt hw1).mpr z))))
    · intro z u hu
      rw [bq_and, bq_wo6 (by omega) (by omega), heavier_b hm]
      by_cases hu : u < men
      · rcases z u hu with e | e | e
        · rw [decide_eq_true e, Bool.not_true, Bool.and_false, Bool.false_and]
        · rw [e, Bool.and_false]
        · rw [decide_eq_false (fun z => Int32.not_le.mpr e ((wlt hw1).mp z)), Bool.and_false, Bool.false_and, Bool.false_and]
      · rw [decide_eq_false hu, Bool.false_and, Bool.false_and, Bool.false_and]
  have hI := fun (a : Int32) (ha : a = 0 ∨ a = 1) => iter_all (n := men) (f := fun k a => B_X7_mayAlone_32 t lv w' k a) (fun u => u = t ∨ bq lv u = false ∨ w u < w t) (fun k hk => by
      show B_X7_mayAlone_32 t lv w' k 0 = 0
      unfold B_X7_mayAlone_32
      rw [if_pos rfl]) (fun k hk hp => by
      show B_X7_mayAlone_32 t lv w' k 1 = 1
      unfold B_X7_mayAlone_32
      rw [if_neg (by decide)]
      by_cases e : k = t
      · rw [if_pos e]
      · rw [if_neg e]
        by_cases hl : bq lv k = false
        · rw [if_pos ((hz7 (by omega)).mpr hl)]
        · rw [if_neg (fun z => hl ((hz7 (by omega)).mp z)), hw t ht, hw k hk, if_neg]
          exact Int32.not_le.mpr (by rcases hp with q | q | q; exact absurd q e; exact absurd q hl; exact q)) (fun k hk hp => by
      show B_X7_mayAlone_32 t lv w' k 1 = 0
      unfold B_X7_mayAlone_32
      rw [if_neg (by decide), if_neg (fun z => hp (Or.inl z)), if_neg (fun z => hp (Or.inr (Or.inl ((hz7 (by omega)).mp z)))), hw t ht, hw k hk, if_pos]
      exact Int32.not_lt.mp (fun z => hp (Or.inr (Or.inr z)))) ha
  unfold S_X0_goesAlone S_X7_mayAlone S_X6_slot
  rw [ha, year_eq hy]
  by_cases c : al (b * 6 + t) = dy / yr
  · rw [if_pos c, if_pos c]
    rcases hI 0 (Or.inl rfl) with ⟨_, e, _⟩ | ⟨e, _⟩
    · exact absurd e (by decide)
    · show iter (fun k a => B_X7_mayAlone_32 t lv w' k a) men 0 0 = _
      rw [e]
      split <;> rfl
  · rw [if_neg c, if_neg c]
    show iter (fun k a => B_X7_mayAlone_32 t lv w' k a) men 0 1 = _
    rcases hI 1 (Or.inr rfl) with ⟨e, _, e2⟩ | ⟨e, e2⟩
    · rw [e, if_pos (hset.mpr e2)]
    · rw [e, if_neg (fun z => e2 ⟨rfl, hset.mp z⟩)]
theorem alone01 {b t men : Nat} {w al : Nat → Int32} {yr lv dy : Int32} : S_X0_goesAlone b t w yr men lv dy al = 0 ∨ S_X0_goesAlone b t w yr men lv dy al = 1 := by
  unfold S_X0_goesAlone
  split
  · split
    · exact Or.inl rfl
    · exact Or.inr rfl
  · exact Or.inl rfl
theorem coming_b {b : Nat} {lv : Int32} {ov : Nat → Int32} {k : Nat} (hk : k < 32) : bq (S_X0_toCome b lv ov) k = (bq lv k && !bq (ov b) k) := by
  unfold S_X0_toCome
  rw [bq_and, bq_not _ hk]
/-- whom one who knows of him may name -/
def mn (b t u : Nat) (lv dy : Int32) (li fg w ov : Nat → Int32) : Bool := decide (w t < w u) && bq lv u && !bq (ov b) u && decide (S_X0_isRemembered b t dy li fg = 0)
theorem mayName_eq {b t u : Nat} {lv dy : Int32} {li fg w ov li' fg' w' ov' : Nat → Int32} (hu : u < 6) (hr : S_X7_isRemembered b t li' fg' dy = S_X0_isRemembered b t dy li fg) (h1 : w' t = w t) (h2 : w' u = w u) (ho : ov' b = ov b) : S_X7_mayName b t u w' lv dy ov' li' fg' = if mn b t u lv dy li fg w ov = true then (1 : Int32) else 0 := by
  unfold S_X7_mayName mn
  rw [hr, h1, h2, ho]
  by_cases c : w u ≤ w t
  · rw [if_pos c, decide_eq_false (fun z => Int32.not_le.mpr z c), Bool.false_and, Bool.false_and, Bool.false_and, if_neg (by decide)]
  · rw [if_neg c, decide_eq_true (Int32.not_le.mp c), Bool.true_and]
    by_cases d : bq lv u = false
    · rw [if_pos ((hz7 (by omega)).mpr d), d, Bool.false_and, Bool.false_and, if_neg (by decide)]
    · rw [if_neg (fun z => d ((hz7 (by omega)).mp z)), tf.mpr d, Bool.true_and]
      by_cases f : bq (ov b) u = false
      · rw [if_pos ((hz7 (by omega)).mpr f), f, Bool.not_false, Bool.true_and]
        by_cases g : S_X0_isRemembered b t dy li fg = 0
        · rw [if_pos g, if_pos (decide_eq_true g)]
        · rw [if_neg g, if_neg (fun z => g (of_decide_eq_true z))]
      · rw [if_neg (fun z => f ((hz7 (by omega)).mp z)), tf.mpr f, Bool.not_true, Bool.false_and, if_neg (by decide)]
theorem helpers_b {b t men : Nat} {lv dy : Int32} {li fg kn w ov : Nat → Int32} (hm : men ≤ 6) {j : Nat} (hj : j < 32) : bq (S_X0_helpers b t lv dy li men fg kn w ov) j = (decide (j < men) && bq (kn t) j && mn b t j lv dy li fg w ov) := by
  unfold S_X0_helpers mn
  by_cases g : S_X0_isRemembered b t dy li fg = 0
  · rw [if_pos g, bq_and, bq_and, heavier_b hm, coming_b hj, decide_eq_true g, Bool.and_true]
    cases bq (kn t) j <;> cases decide (j < men) <;> cases decide (w t < w j) <;> cases bq lv j <;> cases bq (ov b) j <;> rfl
  · rw [if_neg g, bq_0, decide_eq_false g, Bool.and_false, Bool.and_false]
theorem supports_b {b t men : Nat} {lv dy left : Int32} {li fg kn w ov li' fg' kn' w' ov' : Nat → Int32} (hm : men ≤ 6) (ht : t < men) (hr : S_X7_isRemembered b t li' fg' dy = S_X0_isRemembered b t dy li fg) (hw : ∀ t, t < men → w' t = w t) (hk : kn' t = kn t) (ho : ov' b = ov b) (j : Nat) : bq (S_X7_supports b t left men lv dy kn' w' ov' li' fg') j = (decide (j < men) && (bq left j && bq (kn t) j && mn b t j lv dy li fg w ov)) := by
  show bq (iter (fun k a => B_X7_supports_6 b t left lv dy kn' w' ov' li' fg' k a) men 0 0) j = _
  rw [iter_set (n := men) (by omega) (fun k => bq left k && bq (kn t) k && mn b t k lv dy li fg w ov) 0 (fun k a hk2 => by
    show B_X7_supports_6 b t left lv dy kn' w' ov' li' fg' k a = _
    unfold B_X7_supports_6
    rw [mayName_eq (by omega) hr (hw t ht) (hw k hk2) ho, hk, Int32.or_zero]
    by_cases c : bq left k = false
    · rw [if_pos ((hz7 (by omega)).mpr c), c, Bool.false_and, Bool.false_and, if_neg (by decide)]
    · rw [if_neg (fun z => c ((hz7 (by omega)).mp z)), tf.mpr c, Bool.true_and]
      by_cases d : bq (kn t) k = false
      · rw [if_pos ((hz7 (by omega)).mpr d), d, Bool.false_and, if_neg (by decide)]
      · rw [if_neg (fun z => d ((hz7 (by omega)).mp z)), tf.mpr d, Bool.true_and]
        by_cases f : mn b t k lv dy li fg w ov = true
        · rw [if_pos f, if_neg (by decide), if_pos f]
        · rw [if_neg f, if_pos rfl, if_neg f]) j, bq_0, Bool.false_or]
