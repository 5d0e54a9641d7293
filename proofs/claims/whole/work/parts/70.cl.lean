/-! class and reference: a clause -/
theorem cof {n s : Nat} {b1 tx : Nat → Int32} (h : JT n b1 tx) (ha : s < n) (hs : ¬ b1 s = 32) : ∃ e w, S_X3_endOfWord s n b1 = e ∧ s ≤ e ∧ e ≤ n ∧ S_X7_readWord n s tx = (s, w, e) ∧
    ((S_X3_clauseOf s e n b1 = 1 ∧ lg_cmp w (lN (sv (wv 0) (SL.getD 0 0))) = 0) ∨
     (S_X3_clauseOf s e n b1 = 2 ∧ ¬ lg_cmp w (lN (sv (wv 0) (SL.getD 0 0))) = 0 ∧ lg_cmp w (lN (sv (wv 1) (SL.getD 1 0))) = 0) ∨
     (S_X3_clauseOf s e n b1 = 3 ∧ ¬ lg_cmp w (lN (sv (wv 0) (SL.getD 0 0))) = 0 ∧ ¬ lg_cmp w (lN (sv (wv 1) (SL.getD 1 0))) = 0 ∧ lg_cmp w (lN (sv (wv 2) (SL.getD 2 0))) = 0) ∨
     (S_X3_clauseOf s e n b1 = 4 ∧ ¬ lg_cmp w (lN (sv (wv 0) (SL.getD 0 0))) = 0 ∧ ¬ lg_cmp w (lN (sv (wv 1) (SL.getD 1 0))) = 0 ∧ ¬ lg_cmp w (lN (sv (wv 2) (SL.getD 2 0))) = 0 ∧ lg_cmp w (lN (sv (wv 3) (SL.getD 3 0))) = 0) ∨
     (S_X3_clauseOf s e n b1 = 5 ∧ ¬ lg_cmp w (lN (sv (wv 0) (SL.getD 0 0))) = 0 ∧ ¬ lg_cmp w (lN (sv (wv 1) (SL.getD 1 0))) = 0 ∧ ¬ lg_cmp w (lN (sv (wv 2) (SL.getD 2 0))) = 0 ∧ ¬ lg_cmp w (lN (sv (wv 3) (SL.getD 3 0))) = 0 ∧ lg_cmp w (lN (sv (wv 4) (SL.getD 4 0))) = 0) ∨
     (S_X3_clauseOf s e n b1 = 0 ∧ ¬ lg_cmp w (lN (sv (wv 0) (SL.getD 0 0))) = 0 ∧ ¬ lg_cmp w (lN (sv (wv 1) (SL.getD 1 0))) = 0 ∧ ¬ lg_cmp w (lN (sv (wv 2) (SL.getD 2 0))) = 0 ∧ ¬ lg_cmp w (lN (sv (wv 3) (SL.getD 3 0))) = 0 ∧ ¬ lg_cmp w (lN (sv (wv 4) (SL.getD 4 0))) = 0)) := by
  obtain ⟨e, h1, h2, h3, h4, h5⟩ := word_eq h ha hs
  refine ⟨e, _, h1, h2, h3, h4, ?_⟩
  have i0 := isw_eq h2 h3 h5 (show 0 < 5 by decide)
  have i1 := isw_eq h2 h3 h5 (show 1 < 5 by decide)
  have i2 := isw_eq h2 h3 h5 (show 2 < 5 by decide)
  have i3 := isw_eq h2 h3 h5 (show 3 < 5 by decide)
  have i4 := isw_eq h2 h3 h5 (show 4 < 5 by decide)
  generalize lN (sv (lv tx s) (e - s)) = w at i0 i1 i2 i3 i4
  unfold S_X3_clauseOf
  by_cases c0 : S_X3_isWord 0 s e n b1 = 0
  · rw [if_pos c0]
    have d0 := i0.mp c0
    by_cases c1 : S_X3_isWord 1 s e n b1 = 0
    · rw [if_pos c1]
      have d1 := i1.mp c1
      by_cases c2 : S_X3_isWord 2 s e n b1 = 0
      · rw [if_pos c2]
        have d2 := i2.mp c2
        by_cases c3 : S_X3_isWord 3 s e n b1 = 0
        · rw [if_pos c3]
          have d3 := i3.mp c3
          by_cases c4 : S_X3_isWord 4 s e n b1 = 0
          · rw [if_pos c4]
            exact Or.inr (Or.inr (Or.inr (Or.inr (Or.inr ⟨rfl, d0, d1, d2, d3, i4.mp c4⟩))))
          · rw [if_neg c4]
            exact Or.inr (Or.inr (Or.inr (Or.inr (Or.inl ⟨rfl, d0, d1, d2, d3, Classical.byContradiction (fun z => c4 (i4.mpr z))⟩))))
        · rw [if_neg c3]
          exact Or.inr (Or.inr (Or.inr (Or.inl ⟨rfl, d0, d1, d2, Classical.byContradiction (fun z => c3 (i3.mpr z))⟩)))
      · rw [if_neg c2]
        exact Or.inr (Or.inr (Or.inl ⟨rfl, d0, d1, Classical.byContradiction (fun z => c2 (i2.mpr z))⟩))
    · rw [if_neg c1]
      exact Or.inr (Or.inl ⟨rfl, d0, Classical.byContradiction (fun z => c1 (i1.mpr z))⟩)
  · rw [if_neg c0]
    exact Or.inl ⟨rfl, Classical.byContradiction (fun z => c0 (i0.mpr z))⟩
section WHY
variable {oc yc kc : Int32} {br men ox : Nat}
theorem why_1 : S_X3_whyNot 1 oc yc kc br men ox = if oc ≤ 0 then S_X3_overMost yc 1 else 1 := by
  unfold S_X3_whyNot
  rw [if_pos rfl]
theorem why_2 : S_X3_whyNot 2 oc yc kc br men ox = S_X3_overMost (nI br) 5 := by
  unfold S_X3_whyNot
  rw [if_neg (show ¬ (2 : Int32) = 1 by decide), if_pos rfl]
theorem why_3 : S_X3_whyNot 3 oc yc kc br men ox = S_X3_overMost (nI men) 6 := by
  unfold S_X3_whyNot
  rw [if_neg (show ¬ (3 : Int32) = 1 by decide), if_neg (show ¬ (3 : Int32) = 2 by decide), if_pos rfl]
theorem why_4 : S_X3_whyNot 4 oc yc kc br men ox = S_X3_overMost kc 12 := by
  unfold S_X3_whyNot
  rw [if_neg (show ¬ (4 : Int32) = 1 by decide), if_neg (show ¬ (4 : Int32) = 2 by decide), if_neg (show ¬ (4 : Int32) = 3 by decide), if_pos rfl]
theorem why_5 : S_X3_whyNot 5 oc yc kc br men ox = S_X3_overMost (nI ox) 5 := by
  unfold S_X3_whyNot
  rw [if_neg (show ¬ (5 : Int32) = 1 by decide), if_neg (show ¬ (5 : Int32) = 2 by decide), if_neg (show ¬ (5 : Int32) = 3 by decide), if_neg (show ¬ (5 : Int32) = 4 by decide), if_pos rfl]
theorem why_0 : S_X3_whyNot 0 oc yc kc br men ox = 1 := by
  unfold S_X3_whyNot
  rw [if_neg (show ¬ (0 : Int32) = 1 by decide), if_neg (show ¬ (0 : Int32) = 2 by decide), if_neg (show ¬ (0 : Int32) = 3 by decide), if_neg (show ¬ (0 : Int32) = 4 by decide), if_neg (show ¬ (0 : Int32) = 5 by decide)]
end WHY
theorem over_lt {x m : Nat} (hx : x < m) (hm : m ≤ 1000) : S_X3_overMost (nI x) (nI m) = 0 := by
  unfold S_X3_overMost
  rw [if_neg (fun z => by have := (nI_leI (by omega) (by omega)).mp z; omega)]
def PC (yc kc oc yr : Int32) (br men ox : Nat) (fg wt ch kf ow op : Nat → Int32) (rY rC rM : Int32) (rFg rW rCh rK rOx rPr : Nat → Int32) : Prop :=
  JL br men ox yr fg wt ch ow op rFg rW rCh rOx rPr ∧ ((yc = 0 ∧ rY = 0 ∧ yr = 10) ∨ (yc = 1 ∧ rY = yr ∧ ¬ rY ≤ 0)) ∧ (∃ km, km ≤ 12 ∧ kc = nI km ∧ rM = nI km ∧ oc = nI (br + men + ox + km) ∧ rC = nI (br + men + ox + km)) ∧ PK men kf rK
theorem nI_s {a b : Nat} (h : a + 1 = b) : nI a + 1 = nI b := by
  rw [← h]; exact nI_add a 1
theorem v_1 {v : Int32} {m : Nat} (hm : m ≤ 1000) (h0 : 1 ≤ v) (h1 : v ≤ nI m) : ∃ j, j < m ∧ v = nI (j + 1) := by
  rw [Int32.le_iff_toInt_le] at h0 h1
  have e1 : (1 : Int32).toInt = 1 := by decide
  have e0 : (0 : Int32).toInt = 0 := by decide
  have hx : ¬ v < 0 := fun z => by rw [Int32.lt_iff_toInt_lt] at z; omega
  obtain ⟨j, hj, rfl⟩ := nI_of hx
  rw [nI_toInt hj] at h0
  rw [nI_toInt hj, nI_toInt (by omega)] at h1
  exact ⟨j - 1, by omega, by rw [show j - 1 + 1 = j by omega]⟩
theorem v_0 {v : Int32} {m : Nat} (hm : m ≤ 1000) (h0 : 0 ≤ v) (h1 : v ≤ nI m) : ∃ j, j ≤ m ∧ v = nI j := by
  rw [Int32.le_iff_toInt_le] at h0 h1
  have hx : ¬ v < 0 := fun z => by rw [Int32.lt_iff_toInt_lt] at z; omega
  obtain ⟨j, hj, rfl⟩ := nI_of hx
  rw [nI_toInt hj, nI_toInt (by omega)] at h1
  exact ⟨j, by omega, rfl⟩
theorem up_s (f : Nat → Int32) (k : Nat) (v : Int32) : upd f k v k = v := if_pos rfl
theorem up_n (f : Nat → Int32) {k t : Nat} (v : Int32) (h : ¬ t = k) : upd f k v t = f t := if_neg h
theorem PC.year {yc kc oc yr rY rC rM : Int32} {br men ox : Nat} {fg wt ch kf ow op rFg rW rCh rK rOx rPr : Nat → Int32} (h : PC yc kc oc yr br men ox fg wt ch kf ow op rY rC rM rFg rW rCh rK rOx rPr) (h0 : yc = 0) {v : Int32} (hv : 1 ≤ v) : PC (yc + 1) kc oc v br men ox fg wt ch kf ow op v (rC + 0) rM rFg rW rCh rK rOx rPr := by
  obtain ⟨⟨b5, m6, o5, y1, jf, jw, jo⟩, hy, ⟨km, k1, k2, k3, k4, k5⟩, hk⟩ := h
  refine ⟨⟨b5, m6, o5, hv, jf, jw, jo⟩, Or.inr ⟨by rw [h0]; rfl, rfl, fun z => ?_⟩, ⟨km, k1, k2, k3, k4, by rw [k5]; exact nI_add _ 0⟩, hk⟩
  rw [Int32.le_iff_toInt_le] at hv z
  have e1 : (1 : Int32).toInt = 1 := by decide
  have e0 : (0 : Int32).toInt = 0 := by decide
  omega
theorem PC.bridge {yc kc oc yr rY rC rM : Int32} {br men ox : Nat} {fg wt ch kf ow op rFg rW rCh rK rOx rPr : Nat → Int32} (h : PC yc kc oc yr br men ox fg wt ch kf ow op rY rC rM rFg rW rCh rK rOx rPr) (hb : br < 5) {v : Int32} : PC yc kc (oc + 1) yr (br + 1) men ox (upd fg br v) wt ch kf ow op rY (rC + 1) rM (upd rFg br v) rW rCh rK rOx rPr := by
  obtain ⟨⟨b5, m6, o5, y1, jf, jw, jo⟩, hy, ⟨km, k1, k2, k3, k4, k5⟩, hk⟩ := h
  refine ⟨⟨by omega, m6, o5, y1, fun b hb2 => ?_, jw, jo⟩, hy, ⟨km, k1, k2, k3, by rw [k4]; exact nI_s (by omega), by rw [k5]; exact nI_s (by omega)⟩, hk⟩
  by_cases e : b = br
  · rw [e, up_s, up_s]
  · rw [up_n _ _ e, up_n _ _ e]; exact jf b (by omega)
theorem PC.man {yc kc oc yr rY rC rM : Int32} {br men ox : Nat} {fg wt ch kf ow op rFg rW rCh rK rOx rPr : Nat → Int32} (h : PC yc kc oc yr br men ox fg wt ch kf ow op rY rC rM rFg rW rCh rK rOx rPr) (hb : men < 6) {v w : Int32} (h1 : 1 ≤ v) (h2 : v ≤ 999) : PC yc kc (oc + 1) yr br (men + 1) ox fg (upd wt men v) (upd ch men w) (upd kf men 0) ow op rY (rC + 1) rM rFg (upd rW men v) (upd rCh men w) (upd rK men 0) rOx rPr := by
  obtain ⟨⟨b5, m6, o5, y1, jf, jw, jo⟩, hy, ⟨km, k1, k2, k3, k4, k5⟩, hk⟩ := h
  refine ⟨⟨b5, by omega, o5, y1, jf, fun b hb2 => ?_, jo⟩, hy, ⟨km, k1, k2, k3, by rw [k4]; exact nI_s (by omega), by rw [k5]; exact nI_s (by omega)⟩, fun b hb2 => ?_⟩
  · by_cases e : b = men
    · rw [e, up_s, up_s, up_s, up_s]; exact ⟨rfl, rfl, v_1 (m := 999) (by decide) h1 h2⟩
    · rw [up_n _ _ e, up_n _ _ e, up_n _ _ e, up_n _ _ e]; exact jw b (by omega)
  · by_cases e : b = men
    · rw [e, up_s, up_s]; exact ⟨rfl, SBn.zero⟩
    · rw [up_n _ _ e, up_n _ _ e]; exact ⟨(hk b (by omega)).1, (hk b (by omega)).2.up (by omega)⟩
theorem PC.ox {yc kc oc yr rY rC rM : Int32} {br men ox : Nat} {fg wt ch kf ow op rFg rW rCh rK rOx rPr : Nat → Int32} (h : PC yc kc oc yr br men ox fg wt ch kf ow op rY rC rM rFg rW rCh rK rOx rPr) (hb : ox < 5) {v w : Int32} (h1 : 0 ≤ w) (h2 : w ≤ 999) : PC yc kc (oc + 1) yr br men (ox + 1) fg wt ch kf (upd ow ox v) (upd op ox w) rY (rC + 1) rM rFg rW rCh rK (upd rOx ox v) (upd rPr ox w) := by
  obtain ⟨⟨b5, m6, o5, y1, jf, jw, jo⟩, hy, ⟨km, k1, k2, k3, k4, k5⟩, hk⟩ := h
  refine ⟨⟨b5, m6, by omega, y1, jf, jw, fun b hb2 => ?_⟩, hy, ⟨km, k1, k2, k3, by rw [k4]; exact nI_s (by omega), by rw [k5]; exact nI_s (by omega)⟩, hk⟩
  by_cases e : b = ox
  · rw [e, up_s, up_s, up_s, up_s]; exact ⟨rfl, rfl, v_0 (m := 999) (by decide) h1 h2⟩
  · rw [up_n _ _ e, up_n _ _ e, up_n _ _ e, up_n _ _ e]; exact jo b (by omega)
theorem PC.knows {yc kc oc yr rY rC rM : Int32} {br men ox : Nat} {fg wt ch kf ow op rFg rW rCh rK rOx rPr : Nat → Int32} (h : PC yc kc oc yr br men ox fg wt ch kf ow op rY rC rM rFg rW rCh rK rOx rPr) (hb : ¬ rM = 12) {kf2 rK2 : Nat → Int32} (hk2 : PK men kf2 rK2) : PC yc (kc + 1) (oc + 1) yr br men ox fg wt ch kf2 ow op rY (rC + 1) (rM + 1) rFg rW rCh rK2 rOx rPr := by
  obtain ⟨jl, hy, ⟨km, k1, k2, k3, k4, k5⟩, hk⟩ := h
  have : ¬ km = 12 := fun z => hb (by rw [k3, z]; rfl)
  exact ⟨jl, hy, ⟨km + 1, by omega, by rw [k2]; exact nI_s rfl, by rw [k3]; exact nI_s rfl, by rw [k4]; exact nI_s (by omega), by rw [k5]; exact nI_s (by omega)⟩, hk2⟩
theorem clause_eq {n s np nA : Nat} {fp fp' num yc kc oc yr rY rC rM : Int32} {br men ox : Nat} {b1 tx fg wt ch kf ow op rFg rW rCh rK rOx rPr : Nat → Int32} (h : JT n b1 tx) (ha : s < n) (hs : ¬ b1 s = 32) (hp : PC yc kc oc yr br men ox fg wt ch kf ow op rY rC rM rFg rW rCh rK rOx rPr)
    {at2 np2 br2 men2 ox2 : Nat} {yc2 fn fp2 yr2 oc2 kc2 : Int32} {fg2 wt2 ch2 kf2 ow2 op2 : Nat → Int32} (hc : S_X3_readClause s n fp 0 np yc kc oc b1 yr br men ox fg wt ch kf ow op = (at2, yc2, np2, fn, fp2, yr2, oc2, fg2, br2, wt2, ch2, kf2, men2, kc2, ow2, op2, ox2))
    {f fp3 rC2 num2 rM2 rY2 : Int32} {at3 we rox2 nA2 rMen2 rBr2 : Nat} {sd : Int64} {rOx2 rPr2 rK2 rW2 rCh2 rFg2 : Nat → Int32} (hd : S_X7_takeClause n fp' s num nA rY rC br men rM ox tx rOx rPr rK rW rCh rFg = (f, at3, sd, we, fp3, rC2, rox2, nA2, num2, rOx2, rPr2, rM2, rK2, rMen2, rW2, rCh2, rBr2, rFg2, rY2)) :
    f = fn ∧ ((f = 0 ∧ at3 = at2 ∧ s < at2 ∧ at2 ≤ n ∧ fp2 = fp ∧ fp3 = fp' ∧ rBr2 = br2 ∧ rMen2 = men2 ∧ rox2 = ox2 ∧ PC yc2 kc2 oc2 yr2 br2 men2 ox2 fg2 wt2 ch2 kf2 ow2 op2 rY2 rC2 rM2 rFg2 rW2 rCh2 rK2 rOx2 rPr2) ∨ (¬ f = 0 ∧ ¬ f ≤ 0 ∧ fp3 = fp2)) := by
  obtain ⟨e, w, e1, e2, e3, e4, e5⟩ := cof h ha hs
  have hp0 := hp
  obtain ⟨⟨b5, m6, o5, y1, jf, jw, jo⟩, hy, ⟨km, k1, k2, k3, k4, k5⟩, hk⟩ := hp0
  unfold S_X3_readClause at hc
  unfold S_X7_takeClause at hd
  rw [e1] at hc
  rw [e4] at hd
  dsimp only at hd
  unfold K_X7_takeClause_1 at hd
  rw [code0, code1, code2, code3, code4] at hd
  have fin : ∀ (q : Int32), ¬ q = 0 → ¬ q ≤ 0 → fn = q → fp2 = nI s → f = q → fp3 = nI s → f = fn ∧ ((f = 0 ∧ at3 = at2 ∧ s < at2 ∧ at2 ≤ n ∧ fp2 = fp ∧ fp3 = fp' ∧ rBr2 = br2 ∧ rMen2 = men2 ∧ rox2 = ox2 ∧ PC yc2 kc2 oc2 yr2 br2 men2 ox2 fg2 wt2 ch2 kf2 ow2 op2 rY2 rC2 rM2 rFg2 rW2 rCh2 rK2 rOx2 rPr2) ∨ (¬ f = 0 ∧ ¬ f ≤ 0 ∧ fp3 = fp2)) :=
    fun q q1 q2 q3 q4 q5 q6 => ⟨q5.trans q3.symm, Or.inr ⟨by rw [q5]; exact q1, by rw [q5]; exact q2, q6.trans q4.symm⟩⟩
  rcases e5 with ⟨cl, l0⟩ | ⟨cl, l0, l1⟩ | ⟨cl, l0, l1, l2⟩ | ⟨cl, l0, l1, l2, l3⟩ | ⟨cl, l0, l1, l2, l3, l4⟩ | ⟨cl, l0, l1, l2, l3, l4⟩
  · rw [if_pos l0] at hd
    rw [cl, why_1] at hc
    have h45 : rC = oc := k5.trans k4.symm
    by_cases o0 : oc ≤ 0
    · rw [if_pos (by rw [h45]; exact o0)] at hd
      rw [if_pos o0] at hc
      rcases hy with ⟨y0, y2, y3⟩ | ⟨y0, y2, y3⟩
      · rw [if_pos (by rw [y2]; decide)] at hd
        have ov : S_X3_overMost yc 1 = 0 := by rw [y0]; decide
        rw [ov, if_pos rfl, if_pos (show (1 : Int32) = 1 from rfl)] at hc
        rcases hR : S_X3_readYear yc n fp 0 e np b1 with ⟨x1, x2, x3, x4, x5, x6⟩
        rcases hT : S_X7_takeYear n fp' e num nA tx with ⟨t1, t2, t3, t4, t5, t6⟩
        rw [hR] at hc
        rw [hT] at hd
        dsimp only at hc hd
        unfold K_X3_readClause_78 at hc
        unfold K_X7_takeClause_319 at hd
        simp only [Prod.mk.injEq] at hc
        obtain ⟨c1, c2, c3, c4, c5, c6, c7, c8, c9, c10, c11, c12, c13, c14, c15, c16, c17⟩ := hc
        subst c1 c2 c3 c4 c5 c6 c7 c8 c9 c10 c11 c12 c13 c14 c15 c16 c17
        rcases (k_year h e3 hR hT).imp id (fun z => (⟨(f12 z.1).1, (f12 z.1).2, z.2⟩ : ¬ t1 = 0 ∧ ¬ t1 ≤ 0 ∧ x4 = t1 ∧ t5 = x5)) with ⟨g0, g1, g2, g3, g4, ga, gf, gE⟩ | ⟨b1, b2, b3, b4⟩
        · subst g0 g1 g2
          obtain ⟨s2, r, u1, u2, u3, u4⟩ := end_eq (fp := fp) h ga
          rw [if_pos rfl, u3] at hd
          dsimp only at hd
          unfold K_X7_takeClause_373_4 at hd
          rcases u4 with ⟨v1, v2, v3⟩ | ⟨v1, v2⟩
          · rw [if_pos v3] at hd
            rw [v1] at gE
            simp only [Prod.mk.injEq] at hd gE
            obtain ⟨d1, d2, d3, d4, d5, d6, d7, d8, d9, d10, d11, d12, d13, d14, d15, d16, d17, d18, d19⟩ := hd
            subst d1 d2 d3 d4 d5 d6 d7 d8 d9 d10 d11 d12 d13 d14 d15 d16 d17 d18 d19
            obtain ⟨E1, E2, E3⟩ := gE
            exact ⟨E2, Or.inl ⟨rfl, E1, by omega, by omega, E3.symm, gf, rfl, rfl, rfl, hp.year y0 g3⟩⟩
          · rw [if_neg v2] at hd
            unfold S_X7_fails at hd
            dsimp only at hd
            unfold K_X7_takeClause_387_4 at hd
            rw [v1] at gE
            simp only [Prod.mk.injEq] at hd gE
            obtain ⟨d1, d2, d3, d4, d5, d6, d7, d8, d9, d10, d11, d12, d13, d14, d15, d16, d17, d18, d19⟩ := hd
            subst d1 d2 d3 d4 d5 d6 d7 d8 d9 d10 d11 d12 d13 d14 d15 d16 d17 d18 d19
            obtain ⟨E1, E2, E3⟩ := gE
            exact ⟨E2, Or.inr ⟨by decide, by decide, E3⟩⟩
        · rw [if_neg b1] at hd
          simp only [Prod.mk.injEq] at hd
          obtain ⟨d1, d2, d3, d4, d5, d6, d7, d8, d9, d10, d11, d12, d13, d14, d15, d16, d17, d18, d19⟩ := hd
          subst d1 d2 d3 d4 d5 d6 d7 d8 d9 d10 d11 d12 d13 d14 d15 d16 d17 d18 d19
          exact ⟨b3.symm, Or.inr ⟨b1, b2, b4⟩⟩
      · rw [if_neg y3] at hd
        have ov : S_X3_overMost yc 1 = 3 := by rw [y0]; decide
        rw [ov, if_neg (show ¬ (3 : Int32) = 0 by decide)] at hc
        have c4 := congrArg (fun u => u.2.2.2.1) hc
        have c5 := congrArg (fun u => u.2.2.2.2.1) hc
        have d1 := congrArg (fun u => u.1) hd
        have d5 := congrArg (fun u => u.2.2.2.2.1) hd
        exact fin 3 (by decide) (by decide) c4.symm c5.symm d1.symm d5.symm
    · rw [if_neg (by rw [h45]; exact o0)] at hd
      rw [if_neg o0, if_neg (show ¬ (1 : Int32) = 0 by decide)] at hc
      have c4 := congrArg (fun u => u.2.2.2.1) hc
      have c5 := congrArg (fun u => u.2.2.2.2.1) hc
      have d1 := congrArg (fun u => u.1) hd
      have d5 := congrArg (fun u => u.2.2.2.2.1) hd
      exact fin 1 (by decide) (by decide) c4.symm c5.symm d1.symm d5.symm
  · rw [if_neg l0, if_pos l1] at hd
    rw [cl, why_2] at hc
    by_cases full : br = 5
    · rw [if_pos full] at hd
      rw [full, show S_X3_overMost (nI 5) 5 = 3 by decide, if_neg (show ¬ (3 : Int32) = 0 by decide)] at hc
      have c4 := congrArg (fun u => u.2.2.2.1) hc
      have c5 := congrArg (fun u => u.2.2.2.2.1) hc
      have d1 := congrArg (fun u => u.1) hd
      have d5 := congrArg (fun u => u.2.2.2.2.1) hd
      exact fin 3 (by decide) (by decide) c4.symm c5.symm d1.symm d5.symm
    · rw [if_neg full] at hd
      have lt : br < 5 := by omega
      rw [show S_X3_overMost (nI br) 5 = 0 from over_lt lt (by decide), if_pos rfl, if_neg (show ¬ (2 : Int32) = 1 by decide), if_pos (show (2 : Int32) = 2 from rfl)] at hc
      rcases hR : S_X3_readBridge oc n fp 0 e np b1 br fg with ⟨x1, x2, x3, x4, x5, x6, x7⟩
      rcases hT : S_X7_takeBridge br n fp' e num nA tx rFg with ⟨t1, t2, t3, t4, t5, t6, t7⟩
      rw [hR] at hc
      rw [hT] at hd
      dsimp only at hc hd
      unfold K_X3_readClause_86 at hc
      unfold K_X7_takeClause_331 at hd
      simp only [Prod.mk.injEq] at hc
      obtain ⟨c1, c2, c3, c4, c5, c6, c7, c8, c9, c10, c11, c12, c13, c14, c15, c16, c17⟩ := hc
      subst c1 c2 c3 c4 c5 c6 c7 c8 c9 c10 c11 c12 c13 c14 c15 c16 c17
      rcases (k_bridge h e3 lt hR hT).imp id (fun z => (⟨(f12 z.1).1, (f12 z.1).2, z.2⟩ : ¬ t1 = 0 ∧ ¬ t1 ≤ 0 ∧ x4 = t1 ∧ t6 = x5)) with ⟨g0, g1, g2, g3, ⟨v, gv1, gv2⟩, g4, ga, gf, gE⟩ | ⟨b1, b2, b3, b4⟩
      · subst g0 g1 g2 g3 gv1 gv2
        obtain ⟨s2, r, u1, u2, u3, u4⟩ := end_eq (fp := fp) h ga
        rw [if_pos rfl, u3] at hd
        dsimp only at hd
        unfold K_X7_takeClause_373_3 at hd
        rcases u4 with ⟨v1, v2, v3⟩ | ⟨v1, v2⟩
        · rw [if_pos v3] at hd
          rw [v1] at gE
          simp only [Prod.mk.injEq] at hd gE
          obtain ⟨d1, d2, d3, d4, d5, d6, d7, d8, d9, d10, d11, d12, d13, d14, d15, d16, d17, d18, d19⟩ := hd
          subst d1 d2 d3 d4 d5 d6 d7 d8 d9 d10 d11 d12 d13 d14 d15 d16 d17 d18 d19
          obtain ⟨E1, E2, E3⟩ := gE
          exact ⟨E2, Or.inl ⟨rfl, E1, by omega, by omega, E3.symm, gf, rfl, rfl, rfl, hp.bridge lt⟩⟩
        · rw [if_neg v2] at hd
          unfold S_X7_fails at hd
          dsimp only at hd
          unfold K_X7_takeClause_387_3 at hd
          rw [v1] at gE
          simp only [Prod.mk.injEq] at hd gE
          obtain ⟨d1, d2, d3, d4, d5, d6, d7, d8, d9, d10, d11, d12, d13, d14, d15, d16, d17, d18, d19⟩ := hd
          subst d1 d2 d3 d4 d5 d6 d7 d8 d9 d10 d11 d12 d13 d14 d15 d16 d17 d18 d19
          obtain ⟨E1, E2, E3⟩ := gE
          exact ⟨E2, Or.inr ⟨by decide, by decide, E3⟩⟩
      · rw [if_neg b1] at hd
        simp only [Prod.mk.injEq] at hd
        obtain ⟨d1, d2, d3, d4, d5, d6, d7, d8, d9, d10, d11, d12, d13, d14, d15, d16, d17, d18, d19⟩ := hd
        subst d1 d2 d3 d4 d5 d6 d7 d8 d9 d10 d11 d12 d13 d14 d15 d16 d17 d18 d19
        exact ⟨b3.symm, Or.inr ⟨b1, b2, b4⟩⟩
  · rw [if_neg l0, if_neg l1, if_pos l2] at hd
    rw [cl, why_3] at hc
    by_cases full : men = 6
    · rw [if_pos full] at hd
      rw [full, show S_X3_overMost (nI 6) 6 = 3 by decide, if_neg (show ¬ (3 : Int32) = 0 by decide)] at hc
      have c4 := congrArg (fun u => u.2.2.2.1) hc
      have c5 := congrArg (fun u => u.2.2.2.2.1) hc
      have d1 := congrArg (fun u => u.1) hd
      have d5 := congrArg (fun u => u.2.2.2.2.1) hd
      exact fin 3 (by decide) (by decide) c4.symm c5.symm d1.symm d5.symm
    · rw [if_neg full] at hd
      have lt : men < 6 := by omega
      rw [show S_X3_overMost (nI men) 6 = 0 from over_lt lt (by decide), if_pos rfl, if_neg (show ¬ (3 : Int32) = 1 by decide), if_neg (show ¬ (3 : Int32) = 2 by decide), if_pos (show (3 : Int32) = 3 from rfl)] at hc
      rcases hR : S_X3_readMan oc n fp 0 e np b1 men wt ch kf with ⟨x1, x2, x3, x4, x5, x6, x7, x8, x9⟩
      rcases hT : S_X7_takeMan men n fp' e num nA rK tx rW rCh with ⟨t1, t2, t3, t4, t5, t6, t7, t8, t9⟩
      rw [hR] at hc
      rw [hT] at hd
      dsimp only at hc hd
      unfold K_X3_readClause_94 at hc
      unfold K_X7_takeClause_343 at hd
      simp only [Prod.mk.injEq] at hc
      obtain ⟨c1, c2, c3, c4, c5, c6, c7, c8, c9, c10, c11, c12, c13, c14, c15, c16, c17⟩ := hc
      subst c1 c2 c3 c4 c5 c6 c7 c8 c9 c10 c11 c12 c13 c14 c15 c16 c17
      rcases (k_man h e3 lt hR hT).imp id (fun z => (⟨(f12 z.1).1, (f12 z.1).2, z.2⟩ : ¬ t1 = 0 ∧ ¬ t1 ≤ 0 ∧ x4 = t1 ∧ t7 = x5)) with ⟨g0, g1, g2, g3, ⟨gk, gk2⟩, ⟨v, w2, gv1, gv2, gv3, gv4, gw1, gw2, gw3, gw4⟩, g4, ga, gf, gE⟩ | ⟨b1, b2, b3, b4⟩
      · subst g0 g1 g2 g3 gk gk2 gw1 gw2 gw3 gw4
        obtain ⟨s2, r, u1, u2, u3, u4⟩ := end_eq (fp := fp) h ga
        rw [if_pos rfl, u3] at hd
        dsimp only at hd
        unfold K_X7_takeClause_373_2 at hd
        rcases u4 with ⟨v1, v2, v3⟩ | ⟨v1, v2⟩
        · rw [if_pos v3] at hd
          rw [v1] at gE
          simp only [Prod.mk.injEq] at hd gE
          obtain ⟨d1, d2, d3, d4, d5, d6, d7, d8, d9, d10, d11, d12, d13, d14, d15, d16, d17, d18, d19⟩ := hd
          subst d1 d2 d3 d4 d5 d6 d7 d8 d9 d10 d11 d12 d13 d14 d15 d16 d17 d18 d19
          obtain ⟨E1, E2, E3⟩ := gE
          exact ⟨E2, Or.inl ⟨rfl, E1, by omega, by omega, E3.symm, gf, rfl, rfl, rfl, hp.man lt gv1 gv2⟩⟩
        · rw [if_neg v2] at hd
          unfold S_X7_fails at hd
          dsimp only at hd
          unfold K_X7_takeClause_387_2 at hd
          rw [v1] at gE
          simp only [Prod.mk.injEq] at hd gE
          obtain ⟨d1, d2, d3, d4, d5, d6, d7, d8, d9, d10, d11, d12, d13, d14, d15, d16, d17, d18, d19⟩ := hd
          subst d1 d2 d3 d4 d5 d6 d7 d8 d9 d10 d11 d12 d13 d14 d15 d16 d17 d18 d19
          obtain ⟨E1, E2, E3⟩ := gE
          exact ⟨E2, Or.inr ⟨by decide, by decide, E3⟩⟩
      · rw [if_neg b1] at hd
        simp only [Prod.mk.injEq] at hd
        obtain ⟨d1, d2, d3, d4, d5, d6, d7, d8, d9, d10, d11, d12, d13, d14, d15, d16, d17, d18, d19⟩ := hd
        subst d1 d2 d3 d4 d5 d6 d7 d8 d9 d10 d11 d12 d13 d14 d15 d16 d17 d18 d19
        exact ⟨b3.symm, Or.inr ⟨b1, b2, b4⟩⟩
  · rw [if_neg l0, if_neg l1, if_neg l2, if_pos l3] at hd
    rw [cl, why_4] at hc
    by_cases full : rM = 12
    · rw [if_pos full] at hd
      rw [show kc = rM from k2.trans k3.symm, full, show S_X3_overMost 12 12 = 3 by decide, if_neg (show ¬ (3 : Int32) = 0 by decide)] at hc
      have c4 := congrArg (fun u => u.2.2.2.1) hc
      have c5 := congrArg (fun u => u.2.2.2.2.1) hc
      have d1 := congrArg (fun u => u.1) hd
      have d5 := congrArg (fun u => u.2.2.2.2.1) hd
      exact fin 3 (by decide) (by decide) c4.symm c5.symm d1.symm d5.symm
    · rw [if_neg full] at hd
      have lt : km < 12 := by
        have : ¬ km = 12 := fun z => full (by rw [k3, z]; rfl)
        omega
      have ov : S_X3_overMost kc 12 = 0 := by rw [k2]; exact over_lt lt (by decide)
      rw [ov, if_pos rfl, if_neg (show ¬ (4 : Int32) = 1 by decide), if_neg (show ¬ (4 : Int32) = 2 by decide), if_neg (show ¬ (4 : Int32) = 3 by decide), if_pos (show (4 : Int32) = 4 from rfl)] at hc
      rcases hR : S_X3_readKnows oc n fp 0 e np kc men b1 kf with ⟨x1, x2, x3, x4, x5, x6, x7⟩
      rcases hT : S_X7_takeKnows rM n fp' e num nA men tx rK with ⟨t1, t2, t3, t4, t5, t6, t7⟩
      rw [hR] at hc
      rw [hT] at hd
      dsimp only at hc hd
      unfold K_X3_readClause_102 at hc
      unfold K_X7_takeClause_355 at hd
      simp only [Prod.mk.injEq] at hc
      obtain ⟨c1, c2, c3, c4, c5, c6, c7, c8, c9, c10, c11, c12, c13, c14, c15, c16, c17⟩ := hc
      subst c1 c2 c3 c4 c5 c6 c7 c8 c9 c10 c11 c12 c13 c14 c15 c16 c17
      rcases k_knows h e3 m6 hk hR hT with ⟨g0, g1, g2, g3, gk, g4, ga, gf, gE⟩ | ⟨b1, b2, b3, b4⟩
      · subst g0 g1 g2 g3
        obtain ⟨s2, r, u1, u2, u3, u4⟩ := end_eq (fp := fp) h ga
        rw [if_pos rfl, u3] at hd
        dsimp only at hd
        unfold K_X7_takeClause_373_1 at hd
        rcases u4 with ⟨v1, v2, v3⟩ | ⟨v1, v2⟩
        · rw [if_pos v3] at hd
          rw [v1] at gE
          simp only [Prod.mk.injEq] at hd gE
          obtain ⟨d1, d2, d3, d4, d5, d6, d7, d8, d9, d10, d11, d12, d13, d14, d15, d16, d17, d18, d19⟩ := hd
          subst d1 d2 d3 d4 d5 d6 d7 d8 d9 d10 d11 d12 d13 d14 d15 d16 d17 d18 d19
          obtain ⟨E1, E2, E3⟩ := gE
          exact ⟨E2, Or.inl ⟨rfl, E1, by omega, by omega, E3.symm, gf, rfl, rfl, rfl, hp.knows full gk⟩⟩
        · rw [if_neg v2] at hd
          unfold S_X7_fails at hd
          dsimp only at hd
          unfold K_X7_takeClause_387_1 at hd
          rw [v1] at gE
          simp only [Prod.mk.injEq] at hd gE
          obtain ⟨d1, d2, d3, d4, d5, d6, d7, d8, d9, d10, d11, d12, d13, d14, d15, d16, d17, d18, d19⟩ := hd
          subst d1 d2 d3 d4 d5 d6 d7 d8 d9 d10 d11 d12 d13 d14 d15 d16 d17 d18 d19
          obtain ⟨E1, E2, E3⟩ := gE
          exact ⟨E2, Or.inr ⟨by decide, by decide, E3⟩⟩
      · rw [if_neg b1] at hd
        simp only [Prod.mk.injEq] at hd
        obtain ⟨d1, d2, d3, d4, d5, d6, d7, d8, d9, d10, d11, d12, d13, d14, d15, d16, d17, d18, d19⟩ := hd
        subst d1 d2 d3 d4 d5 d6 d7 d8 d9 d10 d11 d12 d13 d14 d15 d16 d17 d18 d19
        exact ⟨b3.symm, Or.inr ⟨b1, b2, b4⟩⟩
  · rw [if_neg l0, if_neg l1, if_neg l2, if_neg l3, if_pos l4] at hd
    rw [cl, why_5] at hc
    by_cases full : ox = 5
    · rw [if_pos full] at hd
      rw [full, show S_X3_overMost (nI 5) 5 = 3 by decide, if_neg (show ¬ (3 : Int32) = 0 by decide)] at hc
      have c4 := congrArg (fun u => u.2.2.2.1) hc
      have c5 := congrArg (fun u => u.2.2.2.2.1) hc
      have d1 := congrArg (fun u => u.1) hd
      have d5 := congrArg (fun u => u.2.2.2.2.1) hd
      exact fin 3 (by decide) (by decide) c4.symm c5.symm d1.symm d5.symm
    · rw [if_neg full] at hd
      have lt : ox < 5 := by omega
      rw [show S_X3_overMost (nI ox) 5 = 0 from over_lt lt (by decide), if_pos rfl, if_neg (show ¬ (5 : Int32) = 1 by decide), if_neg (show ¬ (5 : Int32) = 2 by decide), if_neg (show ¬ (5 : Int32) = 3 by decide), if_neg (show ¬ (5 : Int32) = 4 by decide)] at hc
      rcases hR : S_X3_readOx oc n fp 0 e np b1 ox ow op with ⟨x1, x2, x3, x4, x5, x6, x7, x8⟩
      rcases hT : S_X7_takeOx ox n fp' e num nA tx rOx rPr with ⟨t1, t2, t3, t4, t5, t6, t7, t8⟩
      rw [hR] at hc
      rw [hT] at hd
      dsimp only at hc hd
      unfold K_X3_readClause_110 at hc
      unfold K_X7_takeClause_362 at hd
      simp only [Prod.mk.injEq] at hc
      obtain ⟨c1, c2, c3, c4, c5, c6, c7, c8, c9, c10, c11, c12, c13, c14, c15, c16, c17⟩ := hc
      subst c1 c2 c3 c4 c5 c6 c7 c8 c9 c10 c11 c12 c13 c14 c15 c16 c17
      rcases (k_ox h e3 lt hR hT).imp id (fun z => (⟨(f12 z.1).1, (f12 z.1).2, z.2⟩ : ¬ t1 = 0 ∧ ¬ t1 ≤ 0 ∧ x4 = t1 ∧ t6 = x5)) with ⟨g0, g1, g2, g3, ⟨v, w2, gv1, gv2, gv3, gv4, gw1, gw2, gw3, gw4⟩, g4, ga, gf, gE⟩ | ⟨b1, b2, b3, b4⟩
      · subst g0 g1 g2 g3 gw1 gw2 gw3 gw4
        obtain ⟨s2, r, u1, u2, u3, u4⟩ := end_eq (fp := fp) h ga
        rw [if_pos rfl, u3] at hd
        dsimp only at hd
        unfold K_X7_takeClause_373 at hd
        rcases u4 with ⟨v1, v2, v3⟩ | ⟨v1, v2⟩
        · rw [if_pos v3] at hd
          rw [v1] at gE
          simp only [Prod.mk.injEq] at hd gE
          obtain ⟨d1, d2, d3, d4, d5, d6, d7, d8, d9, d10, d11, d12, d13, d14, d15, d16, d17, d18, d19⟩ := hd
          subst d1 d2 d3 d4 d5 d6 d7 d8 d9 d10 d11 d12 d13 d14 d15 d16 d17 d18 d19
          obtain ⟨E1, E2, E3⟩ := gE
          exact ⟨E2, Or.inl ⟨rfl, E1, by omega, by omega, E3.symm, gf, rfl, rfl, rfl, hp.ox lt gv3 gv4⟩⟩
        · rw [if_neg v2] at hd
          unfold S_X7_fails at hd
          dsimp only at hd
          unfold K_X7_takeClause_387 at hd
          rw [v1] at gE
          simp only [Prod.mk.injEq] at hd gE
          obtain ⟨d1, d2, d3, d4, d5, d6, d7, d8, d9, d10, d11, d12, d13, d14, d15, d16, d17, d18, d19⟩ := hd
          subst d1 d2 d3 d4 d5 d6 d7 d8 d9 d10 d11 d12 d13 d14 d15 d16 d17 d18 d19
          obtain ⟨E1, E2, E3⟩ := gE
          exact ⟨E2, Or.inr ⟨by decide, by decide, E3⟩⟩
      · rw [if_neg b1] at hd
        simp only [Prod.mk.injEq] at hd
        obtain ⟨d1, d2, d3, d4, d5, d6, d7, d8, d9, d10, d11, d12, d13, d14, d15, d16, d17, d18, d19⟩ := hd
        subst d1 d2 d3 d4 d5 d6 d7 d8 d9 d10 d11 d12 d13 d14 d15 d16 d17 d18 d19
        exact ⟨b3.symm, Or.inr ⟨b1, b2, b4⟩⟩
  · rw [if_neg l0, if_neg l1, if_neg l2, if_neg l3, if_neg l4] at hd
    rw [cl, why_0, if_neg (show ¬ (1 : Int32) = 0 by decide)] at hc
    have c4 := congrArg (fun u => u.2.2.2.1) hc
    have c5 := congrArg (fun u => u.2.2.2.2.1) hc
    have d1 := congrArg (fun u => u.1) hd
    have d5 := congrArg (fun u => u.2.2.2.2.1) hd
    exact fin 1 (by decide) (by decide) c4.symm c5.symm d1.symm d5.symm
