/-! class and reference: the ends of clauses; clauses but for knows -/
theorem takes_eq {n a q : Nat} {b1 tx : Nat → Int32} (h : JT n b1 tx) (ha : a ≤ n) (hq : q < 128) : ∃ s r, a ≤ s ∧ s ≤ n ∧ S_X7_here n tx a = (r, s) ∧ ((S_X3_takes (nI q) 0 n a b1 = (1, s + 1) ∧ s < n ∧ r = nI q) ∨ (S_X3_takes (nI q) 0 n a b1 = (0, s) ∧ ¬ r = nI q)) := by
  obtain ⟨k1, k2, k3⟩ := skip_skip (b1 := b1) (n := n) (a := a) ha
  refine ⟨_, _, k2, k3, here_eq h ha, ?_⟩
  unfold S_X3_takes
  rw [if_pos rfl]
  show (K_X3_takes_10 (nI q) n b1 (S_X3_skipBlanks n b1 a) = (1, S_X3_skipBlanks n b1 a + 1) ∧ _) ∨ (K_X3_takes_10 (nI q) n b1 (S_X3_skipBlanks n b1 a) = (0, S_X3_skipBlanks n b1 a) ∧ _)
  generalize S_X3_skipBlanks n b1 a = s at k1 k2 k3
  unfold K_X3_takes_10
  by_cases c : n ≤ s
  · rw [if_pos c, if_pos c]
    refine Or.inr ⟨rfl, fun z => ?_⟩
    have t : ¬ (nI q < 0) := nI_pos (by omega)
    rw [← z] at t
    exact t (by decide)
  · rw [if_neg c, if_neg c]
    by_cases d : b1 s = nI q
    · rw [if_pos d]
      exact Or.inl ⟨rfl, by omega, (h.sign (by omega) hq).mp d⟩
    · rw [if_neg d]
      exact Or.inr ⟨rfl, fun z => d ((h.sign (by omega) hq).mpr z)⟩
theorem end_eq {n a : Nat} {fp : Int32} {b1 tx : Nat → Int32} (h : JT n b1 tx) (ha : a ≤ n) : ∃ s r, a ≤ s ∧ s ≤ n ∧ S_X7_here n tx a = (r, s) ∧ ((S_X3_endClause 0 n fp a b1 = (s + 1, 0, fp) ∧ s < n ∧ r = 59) ∨ (S_X3_endClause 0 n fp a b1 = (s, 1, nI s) ∧ ¬ r = 59)) := by
  obtain ⟨s, r, s1, s2, s3, s4⟩ := takes_eq h ha (show 59 < 128 by decide)
  refine ⟨s, r, s1, s2, s3, ?_⟩
  unfold S_X3_endClause
  rw [if_pos rfl, show (59 : Int32) = nI 59 from rfl]
  rcases s4 with ⟨a1, a2, a3⟩ | ⟨a1, a2⟩
  · left
    rw [a1]
    refine ⟨?_, a2, a3⟩
    show K_X3_endClause_10 0 fp 1 (s + 1) = _
    unfold K_X3_endClause_10
    rw [if_neg (by decide)]
  · right
    rw [a1]
    refine ⟨?_, a2⟩
    show K_X3_endClause_10 0 fp 0 s = _
    unfold K_X3_endClause_10
    rw [if_pos rfl]
    rfl
theorem end_bad {n a : Nat} {fn fp : Int32} {b1 : Nat → Int32} (h : ¬ fn = 0) : S_X3_endClause fn n fp a b1 = (a, fn, fp) := by
  unfold S_X3_endClause
  rw [if_neg h]
theorem num_bad {lo hi fn fp : Int32} {n a np : Nat} {b1 : Nat → Int32} (h : ¬ fn = 0) : S_X3_number lo hi fn n fp a np b1 = (0, a, np, fn, fp) := by
  unfold S_X3_number
  rw [if_neg h]
theorem f12 {f : Int32} (h : f = 1 ∨ f = 2) : ¬ f = 0 ∧ ¬ f ≤ 0 := by
  rcases h with rfl | rfl
  · exact ⟨by decide, by decide⟩
  · exact ⟨by decide, by decide⟩
theorem k_year {n e np nA : Nat} {fp fp' yc num : Int32} {b1 tx : Nat → Int32} (h : JT n b1 tx) (he : e ≤ n) {yc2 fn fp2 yr2 f num2 fp3 rY2 : Int32} {at2 np2 a3 nA2 : Nat} (hc : S_X3_readYear yc n fp 0 e np b1 = (yc2, at2, np2, fn, fp2, yr2)) (hd : S_X7_takeYear n fp' e num nA tx = (f, a3, nA2, num2, fp3, rY2)) :
    (f = 0 ∧ yc2 = yc + 1 ∧ rY2 = yr2 ∧ 1 ≤ yr2 ∧ e < a3 ∧ a3 ≤ n ∧ fp3 = fp' ∧ S_X3_endClause 0 n fp a3 b1 = (at2, fn, fp2)) ∨ ((f = 1 ∨ f = 2) ∧ fn = f ∧ fp3 = fp2) := by
  rcases hn : S_X3_number 1 99 0 n fp e np b1 with ⟨v, a, p, f1, fp1⟩
  rcases hm : S_X7_takeNumber 1 99 n fp' e num nA tx with ⟨g, a', p', num1, fpm⟩
  obtain ⟨q1, q2⟩ := num_eq h he hn hm
  unfold S_X3_readYear at hc
  unfold S_X7_takeYear at hd
  rw [hn] at hc
  rw [hm] at hd
  dsimp only at hc hd
  unfold K_X3_readYear_14 at hc
  unfold K_X7_takeYear_4 at hd
  rcases hE : S_X3_endClause f1 n fp1 a b1 with ⟨x, y, z⟩
  rw [hE] at hc
  dsimp only at hc
  unfold K_X3_readYear_19 at hc
  simp only [Prod.mk.injEq] at hc hd
  obtain ⟨c1, c2, c3, c4, c5, c6⟩ := hc
  obtain ⟨d1, d2, d3, d4, d5, d6⟩ := hd
  subst c1 c2 c3 c4 c5 c6 d1 d2 d3 d4 d5 d6
  subst q1
  rcases q2 with ⟨g0, r1, r2, r3, r4, r5, r6, r7, r8, r9⟩ | ⟨b, b2⟩
  · subst g0 r1 r5 r6 r7
    exact Or.inl ⟨rfl, rfl, rfl, r8, r2, r3, rfl, hE⟩
  · rw [end_bad (f12 b).1] at hE
    simp only [Prod.mk.injEq] at hE
    exact Or.inr ⟨b, hE.2.1.symm, b2.trans hE.2.2⟩
theorem k_bridge {n e np nA br : Nat} {fp fp' oc num : Int32} {b1 tx fg rFg : Nat → Int32} (h : JT n b1 tx) (he : e ≤ n) (hb : br < 5) {oc2 fn fp2 f num2 fp3 : Int32} {at2 np2 a3 nA2 br2 rb2 : Nat} {fg2 rFg2 : Nat → Int32} (hc : S_X3_readBridge oc n fp 0 e np b1 br fg = (oc2, at2, np2, fn, fp2, fg2, br2)) (hd : S_X7_takeBridge br n fp' e num nA tx rFg = (f, rb2, a3, nA2, num2, fp3, rFg2)) :
    (f = 0 ∧ oc2 = oc + 1 ∧ br2 = br + 1 ∧ rb2 = br + 1 ∧ (∃ v, fg2 = upd fg br v ∧ rFg2 = upd rFg br v) ∧ e < a3 ∧ a3 ≤ n ∧ fp3 = fp' ∧ S_X3_endClause 0 n fp a3 b1 = (at2, fn, fp2)) ∨ ((f = 1 ∨ f = 2) ∧ fn = f ∧ fp3 = fp2) := by
  rcases hn : S_X3_number 0 9 0 n fp e np b1 with ⟨v, a, p, f1, fp1⟩
  rcases hm : S_X7_takeNumber 0 9 n fp' e num nA tx with ⟨g, a', p', num1, fpm⟩
  obtain ⟨q1, q2⟩ := num_eq h he hn hm
  unfold S_X3_readBridge at hc
  unfold S_X7_takeBridge S_X7_into5 at hd
  rw [hn] at hc
  rw [hm] at hd
  dsimp only at hc hd
  unfold K_X3_readBridge_14 at hc
  unfold K_X7_into5_4 K_X7_takeBridge_24 at hd
  rcases hE : S_X3_endClause f1 n fp1 a b1 with ⟨x, y, z⟩
  rw [hE] at hc
  dsimp only at hc hd
  unfold K_X3_readBridge_19 S_X1_addBridge at hc
  rw [if_neg (by omega)] at hc
  dsimp only at hc
  unfold K_X3_readBridge_24 at hc
  rw [show br + 1 - 1 = br by omega] at hd
  simp only [Prod.mk.injEq] at hc hd
  obtain ⟨c1, c2, c3, c4, c5, c6, c7⟩ := hc
  obtain ⟨d1, d2, d3, d4, d5, d6, d7⟩ := hd
  subst c1 c2 c3 c4 c5 c6 c7 d1 d2 d3 d4 d5 d6 d7
  subst q1
  rcases q2 with ⟨g0, r1, r2, r3, r4, r5, r6, r7, r8, r9⟩ | ⟨b, b2⟩
  · subst g0 r1 r5 r6 r7
    exact Or.inl ⟨rfl, rfl, rfl, rfl, ⟨_, rfl, rfl⟩, r2, r3, rfl, hE⟩
  · rw [end_bad (f12 b).1] at hE
    simp only [Prod.mk.injEq] at hE
    exact Or.inr ⟨b, hE.2.1.symm, b2.trans hE.2.2⟩
theorem k_man {n e np nA men : Nat} {fp fp' oc num : Int32} {b1 tx wt ch kf rW rCh rK : Nat → Int32} (h : JT n b1 tx) (he : e ≤ n) (hb : men < 6) {oc2 fn fp2 f num2 fp3 : Int32} {at2 np2 a3 nA2 c2 rc2 : Nat} {wt2 ch2 kf2 rW2 rCh2 rK2 : Nat → Int32} (hc : S_X3_readMan oc n fp 0 e np b1 men wt ch kf = (oc2, at2, np2, fn, fp2, wt2, ch2, kf2, c2)) (hd : S_X7_takeMan men n fp' e num nA rK tx rW rCh = (f, rc2, rK2, a3, nA2, num2, fp3, rW2, rCh2)) :
    (f = 0 ∧ oc2 = oc + 1 ∧ c2 = men + 1 ∧ rc2 = men + 1 ∧ (kf2 = upd kf men 0 ∧ rK2 = upd rK men 0) ∧ (∃ v w, 1 ≤ v ∧ v ≤ 999 ∧ 0 ≤ w ∧ w ≤ 100 ∧ wt2 = upd wt men v ∧ rW2 = upd rW men v ∧ ch2 = upd ch men w ∧ rCh2 = upd rCh men w) ∧ e < a3 ∧ a3 ≤ n ∧ fp3 = fp' ∧ S_X3_endClause 0 n fp a3 b1 = (at2, fn, fp2)) ∨ ((f = 1 ∨ f = 2) ∧ fn = f ∧ fp3 = fp2) := by
  rcases hn : S_X3_number 1 999 0 n fp e np b1 with ⟨v, a, p, f1, fp1⟩
  rcases hm : S_X7_takeNumber 1 999 n fp' e num nA tx with ⟨g, a', p', num1, fpm⟩
  obtain ⟨q1, q2⟩ := num_eq h he hn hm
  unfold S_X3_readMan at hc
  unfold S_X7_takeMan S_X7_into6 at hd
  rw [hn] at hc
  rw [hm] at hd
  dsimp only at hc hd
  unfold K_X3_readMan_15 at hc
  unfold K_X7_into6_4 K_X7_takeMan_32 at hd
  dsimp only at hd
  rcases hn2 : S_X3_number 0 100 f1 n fp1 a p b1 with ⟨v2, a2, p2, f2, fp2a⟩
  rw [hn2] at hc
  dsimp only at hc
  unfold K_X3_readMan_23 at hc
  rcases hE : S_X3_endClause f2 n fp2a a2 b1 with ⟨x, y, z⟩
  rw [hE] at hc
  dsimp only at hc
  unfold K_X3_readMan_28 S_X1_addMan at hc
  rw [if_neg (by omega)] at hc
  dsimp only at hc
  unfold K_X3_readMan_34 at hc
  simp only [Prod.mk.injEq] at hc
  obtain ⟨c1, c2, c3, c4, c5, c6, c7, c8, c9⟩ := hc
  subst c1 c2 c3 c4 c5 c6 c7 c8 c9
  subst q1
  rcases q2 with ⟨g0, r1, r2, r3, r4, r5, r6, r7, r8, r9⟩ | ⟨b, b2⟩
  · subst g0 r1 r5 r6 r7
    rw [if_pos (show (0 : Int32) ≤ 0 by decide)] at hd
    rcases hm2 : S_X7_takeNumber 0 100 n fpm a' num1 p' tx with ⟨g2, a2', p2', num2', fpm2⟩
    obtain ⟨t1, t2⟩ := num_eq h r3 hn2 hm2
    have hI : S_X7_into6 men 0 100 n fpm a' num1 p' tx rCh = (g2, a2', p2', num2', fpm2, upd rCh men num2') := by
      unfold S_X7_into6
      rw [hm2]
      rfl
    rw [hI] at hd
    dsimp only at hd
    unfold K_X7_takeMan_53 at hd
    simp only [Prod.mk.injEq] at hd
    obtain ⟨d1, d2, d3, d4, d5, d6, d7, d8, d9⟩ := hd
    subst d1 d2 d3 d4 d5 d6 d7 d8 d9
    subst t1
    rcases t2 with ⟨g0, u1, u2, u3, u4, u5, u6, u7, u8, u9⟩ | ⟨b, b2⟩
    · subst g0 u1 u5 u6 u7
      exact Or.inl ⟨rfl, rfl, rfl, rfl, ⟨rfl, rfl⟩, ⟨_, _, r8, r9, u8, u9, rfl, rfl, rfl, rfl⟩, by omega, u3, rfl, hE⟩
    · rw [end_bad (f12 b).1] at hE
      simp only [Prod.mk.injEq] at hE
      exact Or.inr ⟨b, hE.2.1.symm, b2.trans hE.2.2⟩
  · rw [num_bad (f12 b).1] at hn2
    simp only [Prod.mk.injEq] at hn2
    obtain ⟨n1, n2, n3, n4, n5⟩ := hn2
    rw [if_neg (f12 b).2] at hd
    simp only [Prod.mk.injEq] at hd
    obtain ⟨d1, d2, d3, d4, d5, d6, d7, d8, d9⟩ := hd
    rw [← n4, ← n5, end_bad (f12 b).1] at hE
    simp only [Prod.mk.injEq] at hE
    rw [← d1]
    exact Or.inr ⟨b, hE.2.1.symm, d7.symm.trans (b2.trans hE.2.2)⟩
theorem k_ox {n e np nA ox : Nat} {fp fp' oc num : Int32} {b1 tx ow op rOx rPr : Nat → Int32} (h : JT n b1 tx) (he : e ≤ n) (hb : ox < 5) {oc2 fn fp2 f num2 fp3 : Int32} {at2 np2 a3 nA2 c2 rc2 : Nat} {ow2 op2 rOx2 rPr2 : Nat → Int32} (hc : S_X3_readOx oc n fp 0 e np b1 ox ow op = (oc2, at2, np2, fn, fp2, ow2, op2, c2)) (hd : S_X7_takeOx ox n fp' e num nA tx rOx rPr = (f, rc2, a3, nA2, num2, fp3, rOx2, rPr2)) :
    (f = 0 ∧ oc2 = oc + 1 ∧ c2 = ox + 1 ∧ rc2 = ox + 1 ∧ (∃ v w, 1 ≤ v ∧ v ≤ 999 ∧ 0 ≤ w ∧ w ≤ 999 ∧ ow2 = upd ow ox v ∧ rOx2 = upd rOx ox v ∧ op2 = upd op ox w ∧ rPr2 = upd rPr ox w) ∧ e < a3 ∧ a3 ≤ n ∧ fp3 = fp' ∧ S_X3_endClause 0 n fp a3 b1 = (at2, fn, fp2)) ∨ ((f = 1 ∨ f = 2) ∧ fn = f ∧ fp3 = fp2) := by
  rcases hn : S_X3_number 1 999 0 n fp e np b1 with ⟨v, a, p, f1, fp1⟩
  rcases hm : S_X7_takeNumber 1 999 n fp' e num nA tx with ⟨g, a', p', num1, fpm⟩
  obtain ⟨q1, q2⟩ := num_eq h he hn hm
  unfold S_X3_readOx at hc
  unfold S_X7_takeOx S_X7_into5 at hd
  rw [hn] at hc
  rw [hm] at hd
  dsimp only at hc hd
  unfold K_X3_readOx_15 at hc
  unfold K_X7_into5_4 K_X7_takeOx_25 at hd
  dsimp only at hd
  rcases hn2 : S_X3_number 0 999 f1 n fp1 a p b1 with ⟨v2, a2, p2, f2, fp2a⟩
  rw [hn2] at hc
  dsimp only at hc
  unfold K_X3_readOx_24 at hc
  rcases hE : S_X3_endClause f2 n fp2a a2 b1 with ⟨x, y, z⟩
  rw [hE] at hc
  dsimp only at hc
  unfold K_X3_readOx_29 S_X1_addOx at hc
  rw [if_neg (by omega)] at hc
  dsimp only at hc
  unfold K_X3_readOx_35 at hc
  simp only [Prod.mk.injEq] at hc
  obtain ⟨c1, c2, c3, c4, c5, c6, c7, c8⟩ := hc
  subst c1 c2 c3 c4 c5 c6 c7 c8
  subst q1
  rcases q2 with ⟨g0, r1, r2, r3, r4, r5, r6, r7, r8, r9⟩ | ⟨b, b2⟩
  · subst g0 r1 r5 r6 r7
    rw [if_pos (show (0 : Int32) ≤ 0 by decide)] at hd
    rcases hm2 : S_X7_takeNumber 0 999 n fpm a' num1 p' tx with ⟨g2, a2', p2', num2', fpm2⟩
    obtain ⟨t1, t2⟩ := num_eq h r3 hn2 hm2
    have hI : S_X7_into5 ox 0 999 n fpm a' num1 p' tx rPr = (g2, a2', p2', num2', fpm2, upd rPr ox num2') := by
      unfold S_X7_into5
      rw [hm2]
      rfl
    rw [hI] at hd
    dsimp only at hd
    unfold K_X7_takeOx_47 at hd
    simp only [Prod.mk.injEq] at hd
    obtain ⟨d1, d2, d3, d4, d5, d6, d7, d8⟩ := hd
    subst d1 d2 d3 d4 d5 d6 d7 d8
    subst t1
    rcases t2 with ⟨g0, u1, u2, u3, u4, u5, u6, u7, u8, u9⟩ | ⟨b, b2⟩
    · subst g0 u1 u5 u6 u7
      exact Or.inl ⟨rfl, rfl, rfl, rfl, ⟨_, _, r8, r9, u8, u9, rfl, rfl, rfl, rfl⟩, by omega, u3, rfl, hE⟩
    · rw [end_bad (f12 b).1] at hE
      simp only [Prod.mk.injEq] at hE
      exact Or.inr ⟨b, hE.2.1.symm, b2.trans hE.2.2⟩
  · rw [num_bad (f12 b).1] at hn2
    simp only [Prod.mk.injEq] at hn2
    obtain ⟨n1, n2, n3, n4, n5⟩ := hn2
    rw [if_neg (f12 b).2] at hd
    simp only [Prod.mk.injEq] at hd
    obtain ⟨d1, d2, d3, d4, d5, d6, d7, d8⟩ := hd
    rw [← n4, ← n5, end_bad (f12 b).1] at hE
    simp only [Prod.mk.injEq] at hE
    rw [← d1]
    exact Or.inr ⟨b, hE.2.1.symm, d6.symm.trans (b2.trans hE.2.2)⟩
