/-! class and reference: hills -/
theorem upd_loop4 {f1 f2 f3 f4 g1 g2 g3 g4 : Nat → Int32} : ∀ n k, k < n → (iter (fun k (a : (Nat → Int32) × (Nat → Int32) × (Nat → Int32) × (Nat → Int32)) => (upd a.1 k (g1 k), upd a.2.1 k (g2 k), upd a.2.2.1 k (g3 k), upd a.2.2.2 k (g4 k))) n 0 (f1, f2, f3, f4)).1 k = g1 k ∧ (iter (fun k (a : (Nat → Int32) × (Nat → Int32) × (Nat → Int32) × (Nat → Int32)) => (upd a.1 k (g1 k), upd a.2.1 k (g2 k), upd a.2.2.1 k (g3 k), upd a.2.2.2 k (g4 k))) n 0 (f1, f2, f3, f4)).2.1 k = g2 k ∧ (iter (fun k (a : (Nat → Int32) × (Nat → Int32) × (Nat → Int32) × (Nat → Int32)) => (upd a.1 k (g1 k), upd a.2.1 k (g2 k), upd a.2.2.1 k (g3 k), upd a.2.2.2 k (g4 k))) n 0 (f1, f2, f3, f4)).2.2.1 k = g3 k ∧ (iter (fun k (a : (Nat → Int32) × (Nat → Int32) × (Nat → Int32) × (Nat → Int32)) => (upd a.1 k (g1 k), upd a.2.1 k (g2 k), upd a.2.2.1 k (g3 k), upd a.2.2.2 k (g4 k))) n 0 (f1, f2, f3, f4)).2.2.2 k = g4 k := by
  intro n
  induction n with
  | zero => intro k hk; exact absurd hk (Nat.not_lt_zero k)
  | succ n ih =>
    intro k hk
    rw [iter_last]
    have ih := ih k
    generalize iter (fun k (a : (Nat → Int32) × (Nat → Int32) × (Nat → Int32) × (Nat → Int32)) => (upd a.1 k (g1 k), upd a.2.1 k (g2 k), upd a.2.2.1 k (g3 k), upd a.2.2.2 k (g4 k))) n 0 (f1, f2, f3, f4) = r at ih ⊢
    obtain ⟨r1, r2, r3, r4⟩ := r
    show upd r1 n (g1 n) k = g1 k ∧ upd r2 n (g2 n) k = g2 k ∧ upd r3 n (g3 n) k = g3 k ∧ upd r4 n (g4 n) k = g4 k
    by_cases e : k = n
    · subst e; exact ⟨pk_us, pk_us, pk_us, pk_us⟩
    · rw [pk_un e, pk_un e, pk_un e, pk_un e]; exact ih (by omega)
theorem every_SBn : ∀ m, m < 7 → SBn m (((1 : Int32) <<< ((nI m) &&& 31)) - (1 : Int32)) := by
  have h : ∀ m, m < 7 → ∀ k, k < 32 → m ≤ k → bq (((1 : Int32) <<< ((nI m) &&& 31)) - (1 : Int32)) k = false := by decide +kernel
  intro m hm k hk
  by_cases q : k < 32
  · exact h m hm k q hk
  · exact bq_hi _ (by omega)
theorem forget_ok {ov nb li al ov2 nb2 li2 al2 : Nat → Int32} (h : S_X0_forget ov nb li al = (ov2, nb2, li2, al2)) : (∀ b, b < 5 → ov2 b = 0) ∧ ∀ k, k < 30 → nb2 k = -1 ∧ li2 k = -1 ∧ al2 k = -1 := by
  have z := upd_loop3 (f1 := nb) (f2 := li) (f3 := al) (g1 := fun _ => -1) (g2 := fun _ => -1) (g3 := fun _ => -1) 30
  have z0 := over_zero ov 5
  have e : S_X0_forget ov nb li al = (iter (fun k (a : Nat → Int32) => upd a k (0 : Int32)) 5 0 ov, (iter (fun k (a : (Nat → Int32) × (Nat → Int32) × (Nat → Int32)) => (upd a.1 k (-1 : Int32), upd a.2.1 k (-1 : Int32), upd a.2.2 k (-1 : Int32))) 30 0 (nb, li, al)).1, (iter (fun k (a : (Nat → Int32) × (Nat → Int32) × (Nat → Int32)) => (upd a.1 k (-1 : Int32), upd a.2.1 k (-1 : Int32), upd a.2.2 k (-1 : Int32))) 30 0 (nb, li, al)).2.1, (iter (fun k (a : (Nat → Int32) × (Nat → Int32) × (Nat → Int32)) => (upd a.1 k (-1 : Int32), upd a.2.1 k (-1 : Int32), upd a.2.2 k (-1 : Int32))) 30 0 (nb, li, al)).2.2) := rfl
  rw [e] at h
  simp only [Prod.mk.injEq] at h
  obtain ⟨h1, h2, h3, h4⟩ := h
  subst h1 h2 h3 h4
  exact ⟨z0, z⟩
theorem hills_top {n np br0 men0 ox0 sc qc br0' men0' ox0' we nA st rm : Nat} {yr0 lv dy kept yr0' al0' dy0' num : Int32} {sd : Int64} {b1 tx fg0 wt0 ch0 kf0 ow0 op0 lfg lwt lch lkf low lop ov nb li al kn ah rOx rPr rK rW rCh rFg mfg mow mop mov mwt mch mkn mnb mli mal ik : Nat → Int32} (h : JT n b1 tx)
    {c0 c1 c6 c7 c8 c9 c10 c19 c33 c34 c39 : Int32} {c2 c3 c4 c5 c11 c18 c20 c21 c22 c36 c38 : Nat} {c12 c13 c14 c15 c16 c17 c23 c24 c25 c26 c27 c28 c29 c30 c31 c32 c35 c37 : Nat → Int32} {d0 d1 d3 d4 d7 d12 d20 d34 d35 : Int32} {d2 d5 d6 d8 d10 d11 d19 d21 d22 d23 d36 d37 : Nat} {d9 : Int64} {d13 d14 d15 d16 d17 d18 d24 d25 d26 d27 d28 d29 d30 d31 d32 d33 d38 : Nat → Int32}
    (hc : S_X6_hills n np b1 fg0 wt0 ch0 kf0 ow0 op0 kept yr0 br0 men0 ox0 lfg lwt lch lkf low lop lv dy ov nb li al kn sc ah qc = (c0, c1, c2, c3, c4, c5, c6, c7, c8, c9, c10, c11, c12, c13, c14, c15, c16, c17, c18, c19, c20, c21, c22, c23, c24, c25, c26, c27, c28, c29, c30, c31, c32, c33, c34, c35, c36, c37, c38, c39))
    (hd : S_X7_hills yr0' br0' men0' ox0' al0' dy0' n sd we num nA st rm tx rOx rPr rK rW rCh rFg mfg mow mop mov mwt mch mkn mnb mli mal ik = (d0, d1, d2, d3, d4, d5, d6, d7, d8, d9, d10, d11, d12, d13, d14, d15, d16, d17, d18, d19, d20, d21, d22, d23, d24, d25, d26, d27, d28, d29, d30, d31, d32, d33, d34, d35, d36, d37, d38)) :
    d0 = c0 ∧ d1 = c7 ∧ c18 = 0 ∧ d19 = 0 ∧
    ((JL c20 c21 c22 c19 c23 c24 c25 c27 c28 d24 d28 d29 d25 d26 ∧ d20 = c19 ∧ d21 = c20 ∧ d22 = c21 ∧ d23 = c22 ∧ JD 0 c20 c21 c33 c34 c35 c29 c30 c31 c32 d34 d35 d30 d27 d31 d32 d33 ∧ c36 = 0 ∧ d36 = 0 ∧ (∀ y, y < 6 → c37 y = 0) ∧ c38 = 0 ∧ d37 = 0 ∧ c39 = 0 ∧ d38 0 = 0 ∧ d38 1 = 0) ∨
     ((c19 = yr0 ∧ c20 = br0 ∧ c21 = men0 ∧ c22 = ox0 ∧ c23 = lfg ∧ c24 = lwt ∧ c25 = lch ∧ c26 = lkf ∧ c27 = low ∧ c28 = lop ∧ c29 = ov ∧ c30 = nb ∧ c31 = li ∧ c32 = al ∧ c33 = lv ∧ c34 = dy ∧ c35 = kn ∧ c36 = sc ∧ c37 = ah ∧ c38 = qc ∧ c39 = kept) ∧
      (d20 = yr0' ∧ d21 = br0' ∧ d22 = men0' ∧ d23 = ox0' ∧ d24 = mfg ∧ d25 = mow ∧ d26 = mop ∧ d27 = mov ∧ d28 = mwt ∧ d29 = mch ∧ d30 = mkn ∧ d31 = mnb ∧ d32 = mli ∧ d33 = mal ∧ d34 = al0' ∧ d35 = dy0' ∧ d36 = st ∧ d37 = rm ∧ d38 = ik))) := by
  have hp : PC 0 0 0 10 0 0 0 fg0 wt0 ch0 kf0 ow0 op0 0 0 0 rFg rW rCh rK rOx rPr := by
    refine ⟨⟨by omega, by omega, by omega, by decide, fun b hb => by omega, fun b hb => by omega, fun b hb => by omega⟩, Or.inl ⟨rfl, rfl, rfl⟩, ⟨0, by omega, rfl, rfl, rfl, rfl⟩, fun b hb => by omega⟩
  obtain ⟨S, M, z1, z2, z3⟩ := hl_loop (fp := -1) (fp' := -1) (np := np) (num := num) (sd := sd) (we := we) (nA := nA) h n 0 n (n + 2) 0 (by omega) (by omega) (by omega) (by omega) hp
  obtain ⟨yr, br, men, ox, c, f, fn, np1, yc, kc, oc, fg, wt, ch, kf, ow, op⟩ := S
  obtain ⟨v1, g, a0, sd1, we1, nu1, nA1, rY, rC, rB, rN, rM, rO, qOx, qPr, qK, qW, qCh, qFg⟩ := M
  have eC : S_X3_readInto n np b1 fg0 wt0 ch0 kf0 ow0 op0 = K_X3_readInto_40 yr br men ox c f fn np1 yc kc oc fg wt ch kf ow op := by
    have e : S_X3_readInto n np b1 fg0 wt0 ch0 kf0 ow0 op0 = outB (fun a : HTc => K_X3_readInto_40 a.1 a.2.1 a.2.2.1 a.2.2.2.1 a.2.2.2.2.1 a.2.2.2.2.2.1 a.2.2.2.2.2.2.1 a.2.2.2.2.2.2.2.1 a.2.2.2.2.2.2.2.2.1 a.2.2.2.2.2.2.2.2.2.1 a.2.2.2.2.2.2.2.2.2.2.1 a.2.2.2.2.2.2.2.2.2.2.2.1 a.2.2.2.2.2.2.2.2.2.2.2.2.1 a.2.2.2.2.2.2.2.2.2.2.2.2.2.1 a.2.2.2.2.2.2.2.2.2.2.2.2.2.2.1 a.2.2.2.2.2.2.2.2.2.2.2.2.2.2.2.1 a.2.2.2.2.2.2.2.2.2.2.2.2.2.2.2.2) (iterE (HCB n b1) n 0 (10, 0, 0, 0, S_X3_skipBlanks n b1 0, -1, 0, np, 0, 0, 0, fg0, wt0, ch0, kf0, ow0, op0)) := rfl
    rw [e]
    rcases z1 with z | z
    · rw [z]; rfl
    · rw [z]; rfl
  have eM : S_X7_hills yr0' br0' men0' ox0' al0' dy0' n sd we num nA st rm tx rOx rPr rK rW rCh rFg mfg mow mop mov mwt mch mkn mnb mli mal ik = K_X7_hills_42 yr0' br0' men0' ox0' al0' dy0' st rm mfg mow mop mov mwt mch mkn mnb mli mal ik v1 g a0 sd1 we1 nu1 nA1 rY rC rB rN rM rO qOx qPr qK qW qCh qFg := by
    have e : S_X7_hills yr0' br0' men0' ox0' al0' dy0' n sd we num nA st rm tx rOx rPr rK rW rCh rFg mfg mow mop mov mwt mch mkn mnb mli mal ik = outB (fun a : HTm => K_X7_hills_42 yr0' br0' men0' ox0' al0' dy0' st rm mfg mow mop mov mwt mch mkn mnb mli mal ik a.1 a.2.1 a.2.2.1 a.2.2.2.1 a.2.2.2.2.1 a.2.2.2.2.2.1 a.2.2.2.2.2.2.1 a.2.2.2.2.2.2.2.1 a.2.2.2.2.2.2.2.2.1 a.2.2.2.2.2.2.2.2.2.1 a.2.2.2.2.2.2.2.2.2.2.1 a.2.2.2.2.2.2.2.2.2.2.2.1 a.2.2.2.2.2.2.2.2.2.2.2.2.1 a.2.2.2.2.2.2.2.2.2.2.2.2.2.1 a.2.2.2.2.2.2.2.2.2.2.2.2.2.2.1 a.2.2.2.2.2.2.2.2.2.2.2.2.2.2.2.1 a.2.2.2.2.2.2.2.2.2.2.2.2.2.2.2.2.1 a.2.2.2.2.2.2.2.2.2.2.2.2.2.2.2.2.2.1 a.2.2.2.2.2.2.2.2.2.2.2.2.2.2.2.2.2.2) (iterW (HMB n tx) (n + 2) (0, -1, 0, sd, we, num, nA, 0, 0, 0, 0, 0, 0, rOx, rPr, rK, rW, rCh, rFg)) := rfl
    rw [e]
    rcases z2 with z | z
    · rw [z]; rfl
    · rw [z]; rfl
  rw [eM] at hd
  unfold S_X6_hills at hc
  rw [eC] at hc
  unfold K_X3_readInto_40 at hc
  dsimp only at hc
  unfold K_X6_hills_8 at hc
  unfold K_X7_hills_42 at hd
  rcases z3 with ⟨t1, t2, t3, t4, t5, t6, t7, hq⟩ | ⟨t1, t2, t3, t4⟩
  · subst t1 t2 t3 t4 t5 t6 t7
    obtain ⟨⟨b5, m6, o5, y1, jf, jw, jo⟩, hy, _, hk⟩ := hq
    rw [if_pos rfl] at hc
    rw [if_pos (show (0 : Int32) ≤ 0 by decide)] at hd
    unfold S_X1_copyFrom at hc
    dsimp only at hc
    unfold K_X6_hills_37 at hc
    rcases hB : S_X0_begin ov nb li al rN (va_cpy kf lkf 0 0 6) kn with ⟨o1, o2, o3, o4, o5', o6, o7⟩
    rw [hB] at hc
    dsimp only at hc
    unfold K_X6_hills_44 at hc
    rcases hS : S_X4_clear ah with ⟨s1, s2⟩
    rw [hS] at hc
    dsimp only at hc
    unfold K_X6_hills_51 S_X2_clear at hc
    obtain ⟨cl1, cl2⟩ := clear_ok hS
    unfold S_X0_begin at hB
    rcases hF : S_X0_forget ov nb li al with ⟨p1, p2, p3, p4⟩
    rw [hF] at hB
    dsimp only at hB
    unfold K_X0_begin_1 at hB
    obtain ⟨fo1, fo2⟩ := forget_ok hF
    simp only [Prod.mk.injEq] at hB
    obtain ⟨e1, e2, e3, e4, e5, e6, e7⟩ := hB
    have fin : ∀ (Y : Int32), Y = yr → ∀ {w1 w2 w3 w4 v2 v3 v4 u2 u3 u4 : Nat → Int32}, iter (fun k a => B_X7_hills_121 qOx qPr qFg k a.1 a.2.1 a.2.2.1 a.2.2.2) 5 0 (mfg, mow, mop, mov) = (w1, w2, w3, w4) → iter (fun k a => B_X7_hills_177 rN qK qW qCh k a.1 a.2.1 a.2.2) 6 0 (mwt, mch, mkn) = (v2, v3, v4) → iter (fun k a => B_X7_hills_239 k a.1 a.2.1 a.2.2) 30 0 (mnb, mli, mal) = (u2, u3, u4) →
        ((nI rN), (-1 : Int32), a0, rY, rC, rB, rN, rM, rO, sd1, we1, nA1, nu1, qOx, qPr, qK, qW, qCh, qFg, 0, Y, rB, rN, rO, w1, w2, w3, w4, v2, v3, v4, u2, u3, u4, (((1 : Int32) <<< ((nI rN) &&& 31)) - (1 : Int32)), (0 : Int32), 0, 0, (upd (upd ik 0 (0 : Int32)) 1 (0 : Int32))) = (d0, d1, d2, d3, d4, d5, d6, d7, d8, d9, d10, d11, d12, d13, d14, d15, d16, d17, d18, d19, d20, d21, d22, d23, d24, d25, d26, d27, d28, d29, d30, d31, d32, d33, d34, d35, d36, d37, d38) → (d0 = c0 ∧ d1 = c7 ∧ c18 = 0 ∧ d19 = 0 ∧
    ((JL c20 c21 c22 c19 c23 c24 c25 c27 c28 d24 d28 d29 d25 d26 ∧ d20 = c19 ∧ d21 = c20 ∧ d22 = c21 ∧ d23 = c22 ∧ JD 0 c20 c21 c33 c34 c35 c29 c30 c31 c32 d34 d35 d30 d27 d31 d32 d33 ∧ c36 = 0 ∧ d36 = 0 ∧ (∀ y, y < 6 → c37 y = 0) ∧ c38 = 0 ∧ d37 = 0 ∧ c39 = 0 ∧ d38 0 = 0 ∧ d38 1 = 0) ∨
     ((c19 = yr0 ∧ c20 = br0 ∧ c21 = men0 ∧ c22 = ox0 ∧ c23 = lfg ∧ c24 = lwt ∧ c25 = lch ∧ c26 = lkf ∧ c27 = low ∧ c28 = lop ∧ c29 = ov ∧ c30 = nb ∧ c31 = li ∧ c32 = al ∧ c33 = lv ∧ c34 = dy ∧ c35 = kn ∧ c36 = sc ∧ c37 = ah ∧ c38 = qc ∧ c39 = kept) ∧
      (d20 = yr0' ∧ d21 = br0' ∧ d22 = men0' ∧ d23 = ox0' ∧ d24 = mfg ∧ d25 = mow ∧ d26 = mop ∧ d27 = mov ∧ d28 = mwt ∧ d29 = mch ∧ d30 = mkn ∧ d31 = mnb ∧ d32 = mli ∧ d33 = mal ∧ d34 = al0' ∧ d35 = dy0' ∧ d36 = st ∧ d37 = rm ∧ d38 = ik)))) := by
      intro Y hY w1 w2 w3 w4 v2 v3 v4 u2 u3 u4 l1 l2 l3 hd
      simp only [Prod.mk.injEq] at hc hd
      obtain ⟨x0, x1, x2, x3, x4, x5, x6, x7, x8, x9, x10, x11, x12, x13, x14, x15, x16, x17, x18, x19, x20, x21, x22, x23, x24, x25, x26, x27, x28, x29, x30, x31, x32, x33, x34, x35, x36, x37, x38, x39⟩ := hc
      obtain ⟨y0, y1, y2, y3, y4, y5, y6, y7, y8, y9, y10, y11, y12, y13, y14, y15, y16, y17, y18, y19, y20, y21, y22, y23, y24, y25, y26, y27, y28, y29, y30, y31, y32, y33, y34, y35, y36, y37, y38⟩ := hd
      subst x0 x1 x2 x3 x4 x5 x6 x7 x8 x9 x10 x11 x12 x13 x14 x15 x16 x17 x18 x19 x20 x21 x22 x23 x24 x25 x26 x27 x28 x29 x30 x31 x32 x33 x34 x35 x36 x37 x38 x39
      subst y0 y1 y2 y3 y4 y5 y6 y7 y8 y9 y10 y11 y12 y13 y14 y15 y16 y17 y18 y19 y20 y21 y22 y23 y24 y25 y26 y27 y28 y29 y30 y31 y32 y33 y34 y35 y36 y37 y38
      have L4 := upd_loop4 (f1 := mfg) (f2 := mow) (f3 := mop) (f4 := mov) (g1 := qFg) (g2 := qOx) (g3 := qPr) (g4 := fun _ => 0) 5
      rw [show iter (fun k (a : (Nat → Int32) × (Nat → Int32) × (Nat → Int32) × (Nat → Int32)) => (upd a.1 k (qFg k), upd a.2.1 k (qOx k), upd a.2.2.1 k (qPr k), upd a.2.2.2 k (0 : Int32))) 5 0 (mfg, mow, mop, mov) = (w1, w2, w3, w4) from l1] at L4
      have L3 := upd_loop3 (f1 := mwt) (f2 := mch) (f3 := mkn) (g1 := qW) (g2 := qCh) (g3 := fun k => if rN ≤ k then 0 else qK k) 6
      rw [show iter (fun k (a : (Nat → Int32) × (Nat → Int32) × (Nat → Int32)) => (upd a.1 k (qW k), upd a.2.1 k (qCh k), upd a.2.2 k (if rN ≤ k then (0 : Int32) else qK k))) 6 0 (mwt, mch, mkn) = (v2, v3, v4) from by
        rw [← l2]
        refine iter_congr 6 0 _ (fun j a _ _ => ?_)
        show _ = B_X7_hills_177 rN qK qW qCh j a.1 a.2.1 a.2.2
        unfold B_X7_hills_177
        by_cases q : rN ≤ j
        · rw [if_pos q, if_pos q]
        · rw [if_neg q, if_neg q]] at L3
      have L2 := upd_loop3 (f1 := mnb) (f2 := mli) (f3 := mal) (g1 := fun _ => -1) (g2 := fun _ => -1) (g3 := fun _ => -1) 30
      rw [show iter (fun k (a : (Nat → Int32) × (Nat → Int32) × (Nat → Int32)) => (upd a.1 k (-1 : Int32), upd a.2.1 k (-1 : Int32), upd a.2.2 k (-1 : Int32))) 30 0 (mnb, mli, mal) = (u2, u3, u4) from l3] at L2
      dsimp only at L4 L3 L2
      refine ⟨rfl, rfl, rfl, rfl, Or.inl ⟨⟨b5, m6, o5, y1, fun b hb => ?_, fun t ht => ?_, fun o ho => ?_⟩, hY, rfl, rfl, rfl, ⟨?_, ?_, ?_, ⟨0, by omega, ?_⟩, fun t ht => ?_, fun b hb => ?_, fun b t hb ht => ?_⟩, cl1, rfl, cl2, rfl, rfl, rfl, ?_, ?_⟩⟩
      · rw [(L4 b (by omega)).1, cpy0 (by omega)]; exact jf b hb
      · rw [(L3 t (by omega)).1, (L3 t (by omega)).2.1, cpy0 (by omega), cpy0 (by omega)]; exact jw t ht
      · rw [(L4 o (by omega)).2.1, (L4 o (by omega)).2.2.1, cpy0 (by omega), cpy0 (by omega)]; exact jo o ho
      · rw [← e5]; rfl
      · rw [← e6]
      · rw [← e5]; exact every_SBn rN (by omega)
      · rw [← e6]; rfl
      · rw [(L3 t (by omega)).2.2, ← e7, cpy0 (by omega), cpy0 (by omega)]
        rw [if_neg (by omega)]
        exact hk t ht
      · rw [(L4 b (by omega)).2.2.2, ← e1, fo1 b (by omega)]
        exact ⟨rfl, SBn.zero⟩
      · obtain ⟨q1, q2, q3⟩ := L2 (6 * b + t) (by omega)
        obtain ⟨r1, r2, r3⟩ := fo2 (b * 6 + t) (by omega)
        rw [q1, q2, q3, ← e2, ← e3, ← e4, r1, r2, r3]
        exact ⟨rfl, NN.none, rfl, Or.inl rfl, rfl⟩
      · exact (pk_un (by decide)).trans pk_us
      · exact pk_us
    rcases l1 : iter (fun k a => B_X7_hills_121 qOx qPr qFg k a.1 a.2.1 a.2.2.1 a.2.2.2) 5 0 (mfg, mow, mop, mov) with ⟨w1, w2, w3, w4⟩
    rcases l2 : iter (fun k a => B_X7_hills_177 rN qK qW qCh k a.1 a.2.1 a.2.2) 6 0 (mwt, mch, mkn) with ⟨v2, v3, v4⟩
    rcases l3 : iter (fun k a => B_X7_hills_239 k a.1 a.2.1 a.2.2) 30 0 (mnb, mli, mal) with ⟨u2, u3, u4⟩
    by_cases q : rY ≤ 0
    · rw [if_pos q, l1] at hd
      dsimp only at hd
      unfold K_X7_hills_121 at hd
      rw [l2] at hd
      dsimp only at hd
      unfold K_X7_hills_177 at hd
      rw [l3] at hd
      dsimp only at hd
      unfold K_X7_hills_239 at hd
      refine fin 10 ?_ l1 l2 l3 hd
      rcases hy with ⟨_, _, z⟩ | ⟨_, _, z⟩
      · exact z.symm
      · exact absurd q z
    · rw [if_neg q, l1] at hd
      dsimp only at hd
      unfold K_X7_hills_121_1 at hd
      rw [l2] at hd
      dsimp only at hd
      unfold K_X7_hills_177_1 at hd
      rw [l3] at hd
      dsimp only at hd
      unfold K_X7_hills_239_1 at hd
      refine fin rY ?_ l1 l2 l3 hd
      rcases hy with ⟨_, z, _⟩ | ⟨_, z, _⟩
      · exact absurd (show rY ≤ 0 by rw [z]; decide) q
      · exact z
  · rw [if_neg t1] at hc
    rw [if_neg t3] at hd
    simp only [Prod.mk.injEq] at hc hd
    obtain ⟨x0, x1, x2, x3, x4, x5, x6, x7, x8, x9, x10, x11, x12, x13, x14, x15, x16, x17, x18, x19, x20, x21, x22, x23, x24, x25, x26, x27, x28, x29, x30, x31, x32, x33, x34, x35, x36, x37, x38, x39⟩ := hc
    obtain ⟨y0, y1, y2, y3, y4, y5, y6, y7, y8, y9, y10, y11, y12, y13, y14, y15, y16, y17, y18, y19, y20, y21, y22, y23, y24, y25, y26, y27, y28, y29, y30, y31, y32, y33, y34, y35, y36, y37, y38⟩ := hd
    refine ⟨by rw [← y0, ← x0, t2], by rw [← y1, ← x7, t4], x18.symm, y19.symm, Or.inr ⟨⟨x19.symm, x20.symm, x21.symm, x22.symm, x23.symm, x24.symm, x25.symm, x26.symm, x27.symm, x28.symm, x29.symm, x30.symm, x31.symm, x32.symm, x33.symm, x34.symm, x35.symm, x36.symm, x37.symm, x38.symm, x39.symm⟩, ⟨y20.symm, y21.symm, y22.symm, y23.symm, y24.symm, y25.symm, y26.symm, y27.symm, y28.symm, y29.symm, y30.symm, y31.symm, y32.symm, y33.symm, y34.symm, y35.symm, y36.symm, y37.symm, y38.symm⟩⟩⟩
