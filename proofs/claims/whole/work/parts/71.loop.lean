/-! class and reference: a text of hills -/
abbrev HTc : Type := Int32 × Nat × Nat × Nat × Nat × Int32 × Int32 × Nat × Int32 × Int32 × Int32 × (Nat → Int32) × (Nat → Int32) × (Nat → Int32) × (Nat → Int32) × (Nat → Int32) × (Nat → Int32)
abbrev HTm : Type := Int32 × Int32 × Nat × Int64 × Nat × Int32 × Nat × Int32 × Int32 × Nat × Nat × Int32 × Nat × (Nat → Int32) × (Nat → Int32) × (Nat → Int32) × (Nat → Int32) × (Nat → Int32) × (Nat → Int32)
abbrev HCB (n : Nat) (b1 : Nat → Int32) : Nat → HTc → HTc ⊕ HTc := fun k a => B_X3_readInto_40 n b1 k a.1 a.2.1 a.2.2.1 a.2.2.2.1 a.2.2.2.2.1 a.2.2.2.2.2.1 a.2.2.2.2.2.2.1 a.2.2.2.2.2.2.2.1 a.2.2.2.2.2.2.2.2.1 a.2.2.2.2.2.2.2.2.2.1 a.2.2.2.2.2.2.2.2.2.2.1 a.2.2.2.2.2.2.2.2.2.2.2.1 a.2.2.2.2.2.2.2.2.2.2.2.2.1 a.2.2.2.2.2.2.2.2.2.2.2.2.2.1 a.2.2.2.2.2.2.2.2.2.2.2.2.2.2.1 a.2.2.2.2.2.2.2.2.2.2.2.2.2.2.2.1 a.2.2.2.2.2.2.2.2.2.2.2.2.2.2.2.2
abbrev HMB (n : Nat) (tx : Nat → Int32) : HTm → HTm ⊕ HTm := fun a => B_X7_hills_42 n tx a.1 a.2.1 a.2.2.1 a.2.2.2.1 a.2.2.2.2.1 a.2.2.2.2.2.1 a.2.2.2.2.2.2.1 a.2.2.2.2.2.2.2.1 a.2.2.2.2.2.2.2.2.1 a.2.2.2.2.2.2.2.2.2.1 a.2.2.2.2.2.2.2.2.2.2.1 a.2.2.2.2.2.2.2.2.2.2.2.1 a.2.2.2.2.2.2.2.2.2.2.2.2.1 a.2.2.2.2.2.2.2.2.2.2.2.2.2.1 a.2.2.2.2.2.2.2.2.2.2.2.2.2.2.1 a.2.2.2.2.2.2.2.2.2.2.2.2.2.2.2.1 a.2.2.2.2.2.2.2.2.2.2.2.2.2.2.2.2.1 a.2.2.2.2.2.2.2.2.2.2.2.2.2.2.2.2.2.1 a.2.2.2.2.2.2.2.2.2.2.2.2.2.2.2.2.2.2
def HF (fp fp' : Int32) : HTc → HTm → Prop
  | (yr, br, men, ox, _, f, fn, _, yc, kc, oc, fg, wt, ch, kf, ow, op), (v1, g, _, _, _, _, _, rY, rC, rB, rN, rM, rO, rOx, rPr, rK, rW, rCh, rFg) =>
    (fn = 0 ∧ v1 = 0 ∧ f = fp ∧ g = fp' ∧ rB = br ∧ rN = men ∧ rO = ox ∧ PC yc kc oc yr br men ox fg wt ch kf ow op rY rC rM rFg rW rCh rK rOx rPr) ∨ (¬ fn = 0 ∧ v1 = fn ∧ ¬ v1 ≤ 0 ∧ g = f)
theorem hc_stop {n : Nat} {b1 : Nat → Int32} {S : HTc} (h : ¬ S.2.2.2.2.2.2.1 = 0 ∨ n ≤ S.2.2.2.2.1) : ∀ m k, iterE (HCB n b1) m k S = .inl S ∨ iterE (HCB n b1) m k S = .inr S := by
  intro m k
  obtain ⟨yr, br, men, ox, c, fp, fn, np, yc, kc, oc, fg, wt, ch, kf, ow, op⟩ := S
  cases m with
  | zero => exact Or.inl rfl
  | succ m =>
    right
    have e : HCB n b1 k (yr, br, men, ox, c, fp, fn, np, yc, kc, oc, fg, wt, ch, kf, ow, op) = .inr (yr, br, men, ox, c, fp, fn, np, yc, kc, oc, fg, wt, ch, kf, ow, op) := by
      show B_X3_readInto_40 n b1 k yr br men ox c fp fn np yc kc oc fg wt ch kf ow op = _
      unfold B_X3_readInto_40
      by_cases q : n ≤ c
      · rw [if_pos q]
      · rw [if_neg q]
        rcases h with z | z
        · rw [if_neg z]
        · exact absurd z q
    show stepE (iterE (HCB n b1) m (k + 1)) (HCB n b1 k (yr, br, men, ox, c, fp, fn, np, yc, kc, oc, fg, wt, ch, kf, ow, op)) = _
    rw [e]
    rfl
theorem hm_stop {n : Nat} {tx : Nat → Int32} {S : HTm} (h : ¬ S.1 = 0) : ∀ w, iterW (HMB n tx) w S = .inl S ∨ iterW (HMB n tx) w S = .inr S := by
  intro w
  obtain ⟨v1, fp, at0, sd, we, num, nA, rY, rC, br, men, rM, ox, rOx, rPr, rK, rW, rCh, rFg⟩ := S
  cases w with
  | zero => exact Or.inl rfl
  | succ w =>
    right
    have e : HMB n tx (v1, fp, at0, sd, we, num, nA, rY, rC, br, men, rM, ox, rOx, rPr, rK, rW, rCh, rFg) = .inr (v1, fp, at0, sd, we, num, nA, rY, rC, br, men, rM, ox, rOx, rPr, rK, rW, rCh, rFg) := by
      show B_X7_hills_42 n tx v1 fp at0 sd we num nA rY rC br men rM ox rOx rPr rK rW rCh rFg = _
      unfold B_X7_hills_42
      rw [if_neg h]
    show stepE (iterW (HMB n tx) w) (HMB n tx (v1, fp, at0, sd, we, num, nA, rY, rC, br, men, rM, ox, rOx, rPr, rK, rW, rCh, rFg)) = _
    rw [e]
    rfl
theorem hl_step {n at0 c k : Nat} {b1 tx : Nat → Int32} {np : Nat} {yc kc oc yr rY rC rM fp fp' num : Int32} {br men ox : Nat} {fg wt ch kf ow op rFg rW rCh rK rOx rPr : Nat → Int32} {sd : Int64} {we nA : Nat} (h : JT n b1 tx) (ha : at0 ≤ n) (hc : S_X3_skipBlanks n b1 at0 = c) (hp : PC yc kc oc yr br men ox fg wt ch kf ow op rY rC rM rFg rW rCh rK rOx rPr) :
    (n ≤ c ∧ ∃ M, HMB n tx (0, fp', at0, sd, we, num, nA, rY, rC, br, men, rM, ox, rOx, rPr, rK, rW, rCh, rFg) = .inr M ∧ HF fp fp' (yr, br, men, ox, c, fp, 0, np, yc, kc, oc, fg, wt, ch, kf, ow, op) M) ∨
    (c < n ∧ ∃ (S : HTc) (M : HTm), HCB n b1 k (yr, br, men, ox, c, fp, 0, np, yc, kc, oc, fg, wt, ch, kf, ow, op) = .inl S ∧ HMB n tx (0, fp', at0, sd, we, num, nA, rY, rC, br, men, rM, ox, rOx, rPr, rK, rW, rCh, rFg) = .inl M ∧
      ((∃ (np2 : Nat) (yc2 kc2 oc2 yr2 rY2 rC2 rM2 num2 : Int32) (br2 men2 ox2 at2 : Nat) (fg2 wt2 ch2 kf2 ow2 op2 rFg2 rW2 rCh2 rK2 rOx2 rPr2 : Nat → Int32) (sd2 : Int64) (we2 nA2 : Nat), c < at2 ∧ at2 ≤ n ∧ S = (yr2, br2, men2, ox2, S_X3_skipBlanks n b1 at2, fp, 0, np2, yc2, kc2, oc2, fg2, wt2, ch2, kf2, ow2, op2) ∧ M = (0, fp', at2, sd2, we2, num2, nA2, rY2, rC2, br2, men2, rM2, ox2, rOx2, rPr2, rK2, rW2, rCh2, rFg2) ∧ PC yc2 kc2 oc2 yr2 br2 men2 ox2 fg2 wt2 ch2 kf2 ow2 op2 rY2 rC2 rM2 rFg2 rW2 rCh2 rK2 rOx2 rPr2) ∨ (¬ S.2.2.2.2.2.2.1 = 0 ∧ ¬ M.1 = 0 ∧ HF fp fp' S M))) := by
  obtain ⟨k1, k2, k3⟩ := skip_skip (b1 := b1) (n := n) (a := at0) ha
  rw [hc] at k1 k2 k3
  have hh := here_eq h ha
  rw [hc] at hh
  have e2 : HMB n tx (0, fp', at0, sd, we, num, nA, rY, rC, br, men, rM, ox, rOx, rPr, rK, rW, rCh, rFg) = K_X7_hills_47 n tx 0 fp' sd we num nA rY rC br men rM ox rOx rPr rK rW rCh rFg (if n ≤ c then (-1 : Int32) else tx c) c := by
    show B_X7_hills_42 n tx 0 fp' at0 sd we num nA rY rC br men rM ox rOx rPr rK rW rCh rFg = _
    unfold B_X7_hills_42
    rw [if_pos rfl, hh]
  by_cases q : n ≤ c
  · refine Or.inl ⟨q, (0, fp', c, sd, we, num, nA, rY, rC, br, men, rM, ox, rOx, rPr, rK, rW, rCh, rFg), ?_, Or.inl ⟨rfl, rfl, rfl, rfl, rfl, rfl, rfl, hp⟩⟩
    rw [e2]
    unfold K_X7_hills_47
    rw [if_pos q, if_pos (show (-1 : Int32) < 0 by decide)]
  · have hq : c < n := by omega
    refine Or.inr ⟨hq, ?_⟩
    rcases hC : S_X3_readClause c n fp 0 np yc kc oc b1 yr br men ox fg wt ch kf ow op with ⟨at2, yc2, np2, fn, fp2, yr2, oc2, fg2, br2, wt2, ch2, kf2, men2, kc2, ow2, op2, ox2⟩
    rcases hM : S_X7_takeClause n fp' c num nA rY rC br men rM ox tx rOx rPr rK rW rCh rFg with ⟨f, at3, sd2, we2, fp3, rC2, rox2, nA2, num2, rOx2, rPr2, rM2, rK2, rMen2, rW2, rCh2, rBr2, rFg2, rY2⟩
    obtain ⟨f1, f2⟩ := clause_eq h hq (k1 hq) hp hC hM
    have e1 : HCB n b1 k (yr, br, men, ox, c, fp, 0, np, yc, kc, oc, fg, wt, ch, kf, ow, op) = .inl (yr2, br2, men2, ox2, S_X3_skipBlanks n b1 at2, fp2, fn, np2, yc2, kc2, oc2, fg2, wt2, ch2, kf2, ow2, op2) := by
      show B_X3_readInto_40 n b1 k yr br men ox c fp 0 np yc kc oc fg wt ch kf ow op = _
      unfold B_X3_readInto_40
      rw [if_neg q, if_pos rfl, hC]
      rfl
    have e3 : HMB n tx (0, fp', at0, sd, we, num, nA, rY, rC, br, men, rM, ox, rOx, rPr, rK, rW, rCh, rFg) = .inl (f, fp3, at3, sd2, we2, num2, nA2, rY2, rC2, rBr2, rMen2, rM2, rox2, rOx2, rPr2, rK2, rW2, rCh2, rFg2) := by
      rw [e2]
      unfold K_X7_hills_47
      rw [if_neg q, if_neg (h.pos hq), hM]
      rfl
    refine ⟨_, _, e1, e3, ?_⟩
    rcases f2 with ⟨g0, g1, g2, g3, g4, g5, g6, g7, g8, g9⟩ | ⟨g0, g1, g2⟩
    · subst g0 g1 g4 g5 g6 g7 g8
      subst f1
      exact Or.inl ⟨_, _, _, _, _, _, _, _, _, _, _, _, _, _, _, _, _, _, _, _, _, _, _, _, _, _, _, _, g2, g3, rfl, rfl, g9⟩
    · exact Or.inr ⟨by rw [← f1]; exact g0, g0, Or.inr ⟨by rw [← f1]; exact g0, f1, g1, g2⟩⟩
theorem hl_loop {n : Nat} {b1 tx : Nat → Int32} {fp fp' : Int32} (h : JT n b1 tx) : ∀ d k m w at0 {np : Nat} {yc kc oc yr rY rC rM num : Int32} {br men ox : Nat} {fg wt ch kf ow op rFg rW rCh rK rOx rPr : Nat → Int32} {sd : Int64} {we nA : Nat}, n - at0 ≤ d → at0 ≤ n → n - S_X3_skipBlanks n b1 at0 ≤ m → n - at0 + 1 ≤ w → PC yc kc oc yr br men ox fg wt ch kf ow op rY rC rM rFg rW rCh rK rOx rPr →
    ∃ S M, (iterE (HCB n b1) m k (yr, br, men, ox, S_X3_skipBlanks n b1 at0, fp, 0, np, yc, kc, oc, fg, wt, ch, kf, ow, op) = .inl S ∨ iterE (HCB n b1) m k (yr, br, men, ox, S_X3_skipBlanks n b1 at0, fp, 0, np, yc, kc, oc, fg, wt, ch, kf, ow, op) = .inr S) ∧ (iterW (HMB n tx) w (0, fp', at0, sd, we, num, nA, rY, rC, br, men, rM, ox, rOx, rPr, rK, rW, rCh, rFg) = .inl M ∨ iterW (HMB n tx) w (0, fp', at0, sd, we, num, nA, rY, rC, br, men, rM, ox, rOx, rPr, rK, rW, rCh, rFg) = .inr M) ∧ HF fp fp' S M := by
  intro d
  induction d with
  | zero =>
    intro k m w at0 np yc kc oc yr rY rC rM num br men ox fg wt ch kf ow op rFg rW rCh rK rOx rPr sd we nA hd ha hm hw hp
    obtain ⟨w, rfl⟩ : ∃ w', w = w' + 1 := ⟨w - 1, by omega⟩
    have i2 : iterW (HMB n tx) (w + 1) (0, fp', at0, sd, we, num, nA, rY, rC, br, men, rM, ox, rOx, rPr, rK, rW, rCh, rFg) = stepE (iterW (HMB n tx) w) (HMB n tx (0, fp', at0, sd, we, num, nA, rY, rC, br, men, rM, ox, rOx, rPr, rK, rW, rCh, rFg)) := rfl
    rw [i2]
    obtain ⟨_, k2, _⟩ := skip_skip (b1 := b1) (n := n) (a := at0) ha
    rcases hl_step (k := k) (np := np) (fp := fp) (fp' := fp') (num := num) (sd := sd) (we := we) (nA := nA) h ha rfl hp with ⟨q, M, z1, z2⟩ | ⟨q, _⟩
    · rw [z1]
      exact ⟨_, M, hc_stop (Or.inr q) m k, Or.inr rfl, z2⟩
    · omega
  | succ d ih =>
    intro k m w at0 np yc kc oc yr rY rC rM num br men ox fg wt ch kf ow op rFg rW rCh rK rOx rPr sd we nA hd ha hm hw hp
    obtain ⟨w, rfl⟩ : ∃ w', w = w' + 1 := ⟨w - 1, by omega⟩
    have i2 : iterW (HMB n tx) (w + 1) (0, fp', at0, sd, we, num, nA, rY, rC, br, men, rM, ox, rOx, rPr, rK, rW, rCh, rFg) = stepE (iterW (HMB n tx) w) (HMB n tx (0, fp', at0, sd, we, num, nA, rY, rC, br, men, rM, ox, rOx, rPr, rK, rW, rCh, rFg)) := rfl
    rw [i2]
    obtain ⟨_, k2, k3⟩ := skip_skip (b1 := b1) (n := n) (a := at0) ha
    rcases hl_step (k := k) (np := np) (fp := fp) (fp' := fp') (num := num) (sd := sd) (we := we) (nA := nA) h ha rfl hp with ⟨q, M, z1, z2⟩ | ⟨q, S, M, z1, z2, z3⟩
    · rw [z1]
      exact ⟨_, M, hc_stop (Or.inr q) m k, Or.inr rfl, z2⟩
    · obtain ⟨m, rfl⟩ : ∃ m', m = m' + 1 := ⟨m - 1, by omega⟩
      have i1 : iterE (HCB n b1) (m + 1) k (yr, br, men, ox, S_X3_skipBlanks n b1 at0, fp, 0, np, yc, kc, oc, fg, wt, ch, kf, ow, op) = stepE (iterE (HCB n b1) m (k + 1)) (HCB n b1 k (yr, br, men, ox, S_X3_skipBlanks n b1 at0, fp, 0, np, yc, kc, oc, fg, wt, ch, kf, ow, op)) := rfl
      rw [i1, z1, z2]
      rcases z3 with ⟨np2, yc2, kc2, oc2, yr2, rY2, rC2, rM2, num2, br2, men2, ox2, at2, fg2, wt2, ch2, kf2, ow2, op2, rFg2, rW2, rCh2, rK2, rOx2, rPr2, sd2, we2, nA2, l1, l2, s1, s2, hp2⟩ | ⟨s1, s2, s3⟩
      · rw [s1, s2]
        obtain ⟨_, j2, j3⟩ := skip_skip (b1 := b1) (n := n) (a := at2) l2
        exact ih (k + 1) m w at2 (by omega) l2 (by omega) (by omega) hp2
      · exact ⟨S, M, hc_stop (Or.inl s1) m (k + 1), hm_stop s2 w, s3⟩
