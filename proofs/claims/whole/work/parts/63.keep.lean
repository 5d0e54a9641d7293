/-! class and reference: keep, goBack, feed -/
theorem cpy0 {f g : Nat → Int32} {n j : Nat} (h : j < n) : va_cpy f g 0 0 n j = f j := (pk_cpy_in (Nat.zero_le j) (by omega)).trans (by rw [Nat.zero_add, Nat.sub_zero])
theorem isImage_z {x : Int32} : S_X6_isImage x = 0 ↔ ¬ (x = 0 ∨ x = 1) := by
  unfold S_X6_isImage
  by_cases a : x = 0
  · rw [if_pos a]; exact ⟨fun z => absurd z (by decide), fun z => absurd (Or.inl a) z⟩
  · rw [if_neg a]
    by_cases c : x = 1
    · rw [if_pos c]; exact ⟨fun z => absurd z (by decide), fun z => absurd (Or.inr c) z⟩
    · rw [if_neg c]; exact ⟨fun _ z => by rcases z with z | z; exact a z; exact c z, fun _ => rfl⟩
section KEEP
variable {N br men ox : Nat} {yr : Int32} {lv dy lv' dy' : Int32} {kn ov nb li al kn' ov' nb' li' al' : Nat → Int32} {kept sd sd' : Int32} {lv1 dy1 sd1 lv2 dy2 sd2 : Int32} {kn1 ov1 nb1 li1 al1 kn2 ov2 nb2 li2 al2 im ik : Nat → Int32}
theorem im_new {B : Nat} {f3 o1 o2 o3 o4 o5 : Nat → Int32} (hb : br ≤ 5) (hm : men ≤ 6) (h : JD N br men lv dy kn ov nb li al lv' dy' kn' ov' nb' li' al') (hs : sd' = sd) (hs0 : ¬ sd < 0) (k : (∀ k, k < 30 → f3 (B + k) = nb' k ∧ f3 (B + 30 + k) = li' k ∧ f3 (B + 60 + k) = al' k) ∧ (∀ k, k < 6 → f3 (B + 90 + k) = kn' k) ∧ (∀ k, k < 5 → f3 (B + 96 + k) = ov' k) ∧ f3 (B + 101) = lv' ∧ f3 (B + 102) = dy' ∧ f3 (B + 103) = sd') : IM N br men f3 B lv dy sd (va_cpy kn o1 0 0 6) (va_cpy ov o2 0 0 5) (va_cpy nb o3 0 0 30) (va_cpy li o4 0 0 30) (va_cpy al o5 0 0 30) := by
  obtain ⟨a1, a2, a3, a4, a5, a6⟩ := k
  refine ⟨?_, by rw [a6, hs], hs0⟩
  rw [a4, a5]
  exact h.congr hb hm (fun k hk => ⟨cpy0 hk, a2 k hk⟩) (fun k hk => ⟨cpy0 hk, a3 k hk⟩) (fun k hk => ⟨cpy0 hk, cpy0 hk, cpy0 hk, (a1 k hk).1, (a1 k hk).2.1, (a1 k hk).2.2⟩)
theorem keep_top {x1 : Int32} (hb : br ≤ 5) (hm : men ≤ 6) (h : JD N br men lv dy kn ov nb li al lv' dy' kn' ov' nb' li' al') (hs : sd' = sd) (hs0 : ¬ sd < 0) (hI : JI N br men kept lv1 dy1 sd1 kn1 ov1 nb1 li1 al1 lv2 dy2 sd2 kn2 ov2 nb2 li2 al2 im ik) {c0 c1 c2 c3 c9 c10 c11 c12 d0 : Int32} {c4 c5 c6 c7 c8 c13 c14 c15 c16 c17 d1 d2 : Nat → Int32}
    (hc : S_X6_keep x1 kept lv dy sd lv1 dy1 sd1 kn kn1 ov ov1 nb nb1 li li1 al al1 lv2 dy2 sd2 kn2 ov2 nb2 li2 al2 = (c0, c1, c2, c3, c4, c5, c6, c7, c8, c9, c10, c11, c12, c13, c14, c15, c16, c17)) (hd : S_X7_keep x1 nb' im lv' dy' sd' li' al' kn' ov' ik = (d0, d1, d2)) :
    d0 = c0 ∧ JI N br men c9 c1 c2 c3 c4 c5 c6 c7 c8 c10 c11 c12 c13 c14 c15 c16 c17 d1 d2 := by
  obtain ⟨i1, i2, i3, i4, i5, i6⟩ := id hI
  unfold S_X6_keep at hc
  unfold S_X7_keep at hd
  by_cases q : x1 = 0 ∨ x1 = 1
  · rw [if_neg (fun z => isImage_z.mp z q)] at hc
    rw [if_neg (fun z => in01.mp z q)] at hd
    have hk := keep_loops (B := 110 * x1.toNatClampNeg) (im := im) (nb' := nb') (li' := li') (al' := al') (kn' := kn') (ov' := ov') (lv := lv') (dy := dy') (sd := sd') rfl rfl rfl
    replace hd : ((1 : Int32), upd (upd (upd (iter (fun k (a : Nat → Int32) => upd a (110 * x1.toNatClampNeg + 96 + k) (ov' k)) 5 0 (iter (fun k (a : Nat → Int32) => upd a (110 * x1.toNatClampNeg + 90 + k) (kn' k)) 6 0 (iter (fun k (a : Nat → Int32) => upd (upd (upd a (110 * x1.toNatClampNeg + k) (nb' k)) (110 * x1.toNatClampNeg + 30 + k) (li' k)) (110 * x1.toNatClampNeg + 60 + k) (al' k)) 30 0 im))) (110 * x1.toNatClampNeg + 101) lv') (110 * x1.toNatClampNeg + 102) dy') (110 * x1.toNatClampNeg + 103) sd', upd ik x1.toNatClampNeg (1 : Int32)) = (d0, d1, d2) := hd
    have hd0 := congrArg Prod.fst hd
    have hd1 := congrArg (fun z => z.2.1) hd
    have hd2 := congrArg (fun z => z.2.2) hd
    replace hd1 : upd (upd (upd (iter (fun k (a : Nat → Int32) => upd a (110 * x1.toNatClampNeg + 96 + k) (ov' k)) 5 0 (iter (fun k (a : Nat → Int32) => upd a (110 * x1.toNatClampNeg + 90 + k) (kn' k)) 6 0 (iter (fun k (a : Nat → Int32) => upd (upd (upd a (110 * x1.toNatClampNeg + k) (nb' k)) (110 * x1.toNatClampNeg + 30 + k) (li' k)) (110 * x1.toNatClampNeg + 60 + k) (al' k)) 30 0 im))) (110 * x1.toNatClampNeg + 101) lv') (110 * x1.toNatClampNeg + 102) dy') (110 * x1.toNatClampNeg + 103) sd' = d1 := hd1
    replace hd2 : upd ik x1.toNatClampNeg (1 : Int32) = d2 := hd2
    replace hd0 : (1 : Int32) = d0 := hd0
    rw [hd1] at hk
    clear hd hd1
    obtain ⟨k1, k2, k3, k4, k5, k6, k7⟩ := hk
    rcases q with q | q
    · rw [if_pos q] at hc
      subst q
      have z0 : (0 : Int32).toNatClampNeg = 0 := rfl
      rw [z0] at k1 k2 k3 k4 k5 k6 k7 hd2
      replace hc : ((1 : Int32), lv, dy, sd, va_cpy kn kn1 0 0 6, va_cpy ov ov1 0 0 5, va_cpy nb nb1 0 0 30, va_cpy li li1 0 0 30, va_cpy al al1 0 0 30, (kept ||| (S_X6_bit (0 : Int32))), lv2, dy2, sd2, kn2, ov2, nb2, li2, al2) = (c0, c1, c2, c3, c4, c5, c6, c7, c8, c9, c10, c11, c12, c13, c14, c15, c16, c17) := hc
      cases hc
      subst hd2
      refine ⟨hd0.symm, ?_⟩
      have e0 : upd ik 0 (1 : Int32) 0 = 1 := pk_us
      have e1 : upd ik 0 (1 : Int32) 1 = ik 1 := pk_un (by decide)
      have b0 : bq (kept ||| (S_X6_bit (nI 0))) 0 = true := by rw [bq_or, bq_bit6 0 (by decide), decide_eq_true rfl, Bool.or_true]
      have b1 : bq (kept ||| (S_X6_bit (nI 0))) 1 = bq kept 1 := by rw [bq_or, bq_bit6 1 (by decide), decide_eq_false (by decide), Bool.or_false]
      refine ⟨Or.inr e0, by rw [e1]; exact i2, ⟨fun _ => e0, fun _ => b0⟩, by rw [e1, show (kept ||| (S_X6_bit (0 : Int32))) = (kept ||| (S_X6_bit (nI 0))) from rfl, b1]; exact i4, fun _ => ?_, fun z => ?_⟩
      · exact im_new hb hm h hs hs0 ⟨k1, k2, k3, k4, k5, k6⟩
      · rw [e1] at z
        exact (i6 z).congr hb hm (fun q h1 h2 => k7 q (by omega))
    · rw [if_neg (by rw [q]; decide)] at hc
      subst q
      have z0 : (1 : Int32).toNatClampNeg = 1 := rfl
      rw [z0] at k1 k2 k3 k4 k5 k6 k7 hd2
      replace hc : ((1 : Int32), lv1, dy1, sd1, kn1, ov1, nb1, li1, al1, (kept ||| (S_X6_bit (1 : Int32))), lv, dy, sd, va_cpy kn kn2 0 0 6, va_cpy ov ov2 0 0 5, va_cpy nb nb2 0 0 30, va_cpy li li2 0 0 30, va_cpy al al2 0 0 30) = (c0, c1, c2, c3, c4, c5, c6, c7, c8, c9, c10, c11, c12, c13, c14, c15, c16, c17) := hc
      cases hc
      subst hd2
      refine ⟨hd0.symm, ?_⟩
      have e0 : upd ik 1 (1 : Int32) 0 = ik 0 := pk_un (by decide)
      have e1 : upd ik 1 (1 : Int32) 1 = 1 := pk_us
      have b0 : bq (kept ||| (S_X6_bit (nI 1))) 0 = bq kept 0 := by rw [bq_or, bq_bit6 0 (by decide), decide_eq_false (by decide), Bool.or_false]
      have b1 : bq (kept ||| (S_X6_bit (nI 1))) 1 = true := by rw [bq_or, bq_bit6 1 (by decide), decide_eq_true rfl, Bool.or_true]
      refine ⟨by rw [e0]; exact i1, Or.inr e1, by rw [e0, show (kept ||| (S_X6_bit (1 : Int32))) = (kept ||| (S_X6_bit (nI 1))) from rfl, b0]; exact i3, ⟨fun _ => e1, fun _ => b1⟩, fun z => ?_, fun _ => ?_⟩
      · rw [e0] at z
        exact (i5 z).congr hb hm (fun q h1 h2 => k7 q (by omega))
      · exact im_new hb hm h hs hs0 ⟨k1, k2, k3, k4, k5, k6⟩
  · rw [if_pos (isImage_z.mpr q)] at hc
    rw [if_pos (in01.mpr q)] at hd
    cases hc; cases hd
    exact ⟨rfl, hI⟩
theorem upd_loop {f : Nat → Int32} {g : Nat → Int32} : ∀ n k, k < n → iter (fun k (a : Nat → Int32) => upd a k (g k)) n 0 f k = g k := by
  intro n
  induction n with
  | zero => intro k hk; exact absurd hk (Nat.not_lt_zero k)
  | succ n ih =>
    intro k hk
    rw [iter_last]
    by_cases e : k = n
    · subst e; exact pk_us
    · rw [pk_un e]; exact ih k (by omega)
theorem upd_loop3 {f1 f2 f3 g1 g2 g3 : Nat → Int32} : ∀ n k, k < n → (iter (fun k (a : (Nat → Int32) × (Nat → Int32) × (Nat → Int32)) => (upd a.1 k (g1 k), upd a.2.1 k (g2 k), upd a.2.2 k (g3 k))) n 0 (f1, f2, f3)).1 k = g1 k ∧ (iter (fun k (a : (Nat → Int32) × (Nat → Int32) × (Nat → Int32)) => (upd a.1 k (g1 k), upd a.2.1 k (g2 k), upd a.2.2 k (g3 k))) n 0 (f1, f2, f3)).2.1 k = g2 k ∧ (iter (fun k (a : (Nat → Int32) × (Nat → Int32) × (Nat → Int32)) => (upd a.1 k (g1 k), upd a.2.1 k (g2 k), upd a.2.2 k (g3 k))) n 0 (f1, f2, f3)).2.2 k = g3 k := by
  intro n
  induction n with
  | zero => intro k hk; exact absurd hk (Nat.not_lt_zero k)
  | succ n ih =>
    intro k hk
    rw [iter_last]
    have ih := ih k
    generalize iter (fun k (a : (Nat → Int32) × (Nat → Int32) × (Nat → Int32)) => (upd a.1 k (g1 k), upd a.2.1 k (g2 k), upd a.2.2 k (g3 k))) n 0 (f1, f2, f3) = r at ih ⊢
    obtain ⟨r1, r2, r3⟩ := r
    show upd r1 n (g1 n) k = g1 k ∧ upd r2 n (g2 n) k = g2 k ∧ upd r3 n (g3 n) k = g3 k
    by_cases e : k = n
    · subst e; exact ⟨pk_us, pk_us, pk_us⟩
    · rw [pk_un e, pk_un e, pk_un e]; exact ih (by omega)
theorem back_im {B : Nat} {d1 d2 d3 d4 d5 o1 o2 o3 o4 o5 : Nat → Int32} (hb : br ≤ 5) (hm : men ≤ 6) (h : IM N br men im B lv dy sd kn ov nb li al) (k1 : ∀ k, k < 30 → d1 k = im (B + k) ∧ d2 k = im (B + 30 + k) ∧ d3 k = im (B + 60 + k)) (k2 : ∀ k, k < 6 → d4 k = im (B + 90 + k)) (k3 : ∀ k, k < 5 → d5 k = im (B + 96 + k)) : JD N br men lv dy (va_cpy kn o1 0 0 6) (va_cpy ov o2 0 0 5) (va_cpy nb o3 0 0 30) (va_cpy li o4 0 0 30) (va_cpy al o5 0 0 30) (im (B + 101)) (im (B + 102)) d4 d5 d1 d2 d3 :=
  h.1.congr hb hm (fun k hk => ⟨cpy0 hk, k2 k hk⟩) (fun k hk => ⟨cpy0 hk, k3 k hk⟩) (fun k hk => ⟨cpy0 hk, cpy0 hk, cpy0 hk, (k1 k hk).1, (k1 k hk).2.1, (k1 k hk).2.2⟩)
theorem goBack_top {x1 : Int32} (hb : br ≤ 5) (hm : men ≤ 6) (h : JD N br men lv dy kn ov nb li al lv' dy' kn' ov' nb' li' al') (hs : sd' = sd) (hs0 : ¬ sd < 0) (hI : JI N br men kept lv1 dy1 sd1 kn1 ov1 nb1 li1 al1 lv2 dy2 sd2 kn2 ov2 nb2 li2 al2 im ik) {c0 c1 c2 c3 d0 d6 d7 d8 : Int32} {c4 c5 c6 c7 c8 d1 d2 d3 d4 d5 : Nat → Int32}
    (hc : S_X6_goBack x1 kept lv1 dy1 sd1 lv dy sd kn1 kn ov1 ov nb1 nb li1 li al1 al lv2 dy2 sd2 kn2 ov2 nb2 li2 al2 = (c0, c1, c2, c3, c4, c5, c6, c7, c8)) (hd : S_X7_goBack x1 ik im nb' lv' dy' sd' li' al' kn' ov' = (d0, d1, d2, d3, d4, d5, d6, d7, d8)) :
    d0 = c0 ∧ JD N br men c1 c2 c4 c5 c6 c7 c8 d6 d7 d4 d5 d1 d2 d3 ∧ d8 = c3 ∧ ¬ c3 < 0 := by
  obtain ⟨i1, i2, i3, i4, i5, i6⟩ := id hI
  unfold S_X6_goBack at hc
  unfold S_X7_goBack at hd
  by_cases q : x1 = 0 ∨ x1 = 1
  · rw [if_neg (fun z => isImage_z.mp z q)] at hc
    rw [if_neg (fun z => in01.mp z q)] at hd
    by_cases p : ik x1.toNatClampNeg = 0
    · rw [if_pos p] at hd
      have hz : S_X6_has kept x1 = 0 := by
        rcases q with q | q
        · subst q
          exact (hz6 (k := 0) (by decide)).mpr (Bool.eq_false_iff.mpr (fun z => absurd ((i3.mp z).symm.trans p) (by decide)))
        · subst q
          exact (hz6 (k := 1) (by decide)).mpr (Bool.eq_false_iff.mpr (fun z => absurd ((i4.mp z).symm.trans p) (by decide)))
      rw [if_pos hz] at hc
      cases hc; cases hd
      exact ⟨rfl, h, hs, hs0⟩
    · rw [if_neg p] at hd
      have hz : ¬ S_X6_has kept x1 = 0 := by
        rcases q with q | q
        · subst q
          intro z
          have y : bq kept 0 = true := i3.mpr (i1.resolve_left p)
          have := (hz6 (k := 0) (by decide)).mp z
          rw [y] at this; cases this
        · subst q
          intro z
          have y : bq kept 1 = true := i4.mpr (i2.resolve_left p)
          have := (hz6 (k := 1) (by decide)).mp z
          rw [y] at this; cases this
      rw [if_neg hz] at hc
      have u3 := upd_loop3 (f1 := nb') (f2 := li') (f3 := al') (g1 := fun k => im (110 * x1.toNatClampNeg + k)) (g2 := fun k => im (110 * x1.toNatClampNeg + 30 + k)) (g3 := fun k => im (110 * x1.toNatClampNeg + 60 + k)) 30
      have u4 := upd_loop (f := kn') (g := fun k => im (110 * x1.toNatClampNeg + 90 + k)) 6
      have u5 := upd_loop (f := ov') (g := fun k => im (110 * x1.toNatClampNeg + 96 + k)) 5
      replace hd : ((1 : Int32), (iter (fun k (a : (Nat → Int32) × (Nat → Int32) × (Nat → Int32)) => (upd a.1 k (im (110 * x1.toNatClampNeg + k)), upd a.2.1 k (im (110 * x1.toNatClampNeg + 30 + k)), upd a.2.2 k (im (110 * x1.toNatClampNeg + 60 + k)))) 30 0 (nb', li', al')).1, (iter (fun k (a : (Nat → Int32) × (Nat → Int32) × (Nat → Int32)) => (upd a.1 k (im (110 * x1.toNatClampNeg + k)), upd a.2.1 k (im (110 * x1.toNatClampNeg + 30 + k)), upd a.2.2 k (im (110 * x1.toNatClampNeg + 60 + k)))) 30 0 (nb', li', al')).2.1, (iter (fun k (a : (Nat → Int32) × (Nat → Int32) × (Nat → Int32)) => (upd a.1 k (im (110 * x1.toNatClampNeg + k)), upd a.2.1 k (im (110 * x1.toNatClampNeg + 30 + k)), upd a.2.2 k (im (110 * x1.toNatClampNeg + 60 + k)))) 30 0 (nb', li', al')).2.2, iter (fun k (a : Nat → Int32) => upd a k (im (110 * x1.toNatClampNeg + 90 + k))) 6 0 kn', iter (fun k (a : Nat → Int32) => upd a k (im (110 * x1.toNatClampNeg + 96 + k))) 5 0 ov', im (110 * x1.toNatClampNeg + 101), im (110 * x1.toNatClampNeg + 102), im (110 * x1.toNatClampNeg + 103)) = (d0, d1, d2, d3, d4, d5, d6, d7, d8) := hd
      cases hd
      rcases q with q | q
      · rw [if_pos q] at hc
        subst q
        have h1 := i5 (i1.resolve_left p)
        replace hc : ((1 : Int32), lv1, dy1, sd1, va_cpy kn1 kn 0 0 6, va_cpy ov1 ov 0 0 5, va_cpy nb1 nb 0 0 30, va_cpy li1 li 0 0 30, va_cpy al1 al 0 0 30) = (c0, c1, c2, c3, c4, c5, c6, c7, c8) := hc
        cases hc
        exact ⟨rfl, back_im hb hm h1 u3 u4 u5, h1.2.1, h1.2.2⟩
      · rw [if_neg (by rw [q]; decide)] at hc
        subst q
        have h1 := i6 (i2.resolve_left p)
        replace hc : ((1 : Int32), lv2, dy2, sd2, va_cpy kn2 kn 0 0 6, va_cpy ov2 ov 0 0 5, va_cpy nb2 nb 0 0 30, va_cpy li2 li 0 0 30, va_cpy al2 al 0 0 30) = (c0, c1, c2, c3, c4, c5, c6, c7, c8) := hc
        cases hc
        exact ⟨rfl, back_im hb hm h1 u3 u4 u5, h1.2.1, h1.2.2⟩
  · rw [if_pos (isImage_z.mpr q)] at hc
    rw [if_pos (in01.mpr q)] at hd
    cases hc; cases hd
    exact ⟨rfl, h, hs, hs0⟩
end KEEP
/-! the text -/
def JT (n : Nat) (b1 tx : Nat → Int32) : Prop := n ≤ 500 ∧ ∀ k, k < n → ∃ c, c < 256 ∧ tx k = nI c ∧ b1 k = (nI c).toInt8.toInt32
theorem byte_ok (w : Int64) : ∃ c, c < 256 ∧ (w &&& (255 : Int64)).toInt32 = nI c ∧ w.toInt32.toInt8.toInt32 = (nI c).toInt8.toInt32 := by
  refine ⟨w.toBitVec.toNat % 256, Nat.mod_lt _ (by decide), ?_, ?_⟩
  · have e : w &&& (255 : Int64) = lN (w.toBitVec.toNat % 256) := by
      apply Int64.toBitVec_inj.mp
      apply BitVec.eq_of_toNat_eq
      rw [Int64.toBitVec_and, BitVec.toNat_and, show (255 : Int64).toBitVec.toNat = 2 ^ 8 - 1 from by decide, Nat.and_two_pow_sub_one_eq_mod]
      exact (Nat.mod_eq_of_lt (Nat.lt_of_lt_of_le (Nat.mod_lt _ (by decide)) (by decide))).symm
    rw [e, lN_i]
  · refine congrArg Int8.toInt32 ?_
    apply Int8.toBitVec_inj.mp
    apply BitVec.eq_of_toNat_eq
    rw [Int32.toBitVec_toInt8, Int32.toBitVec_toInt8, Int64.toBitVec_toInt32, BitVec.signExtend_eq_setWidth_of_le _ (by decide), BitVec.signExtend_eq_setWidth_of_le _ (by decide), BitVec.signExtend_eq_setWidth_of_le _ (by decide), BitVec.toNat_setWidth, BitVec.toNat_setWidth, BitVec.toNat_setWidth, pk_tn (by omega)]
    omega
theorem feed_loop (x2 : Int64) : ∀ j n b1 tx, n + j ≤ 500 → JT n b1 tx → ∃ b2 tx2, iterDE (fun k (a : Nat × (Nat → Int32)) => B_X3_add_5 x2 k a.1 a.2) j (n, b1) = .inl (n + j, b2) ∧ iterD (fun k (a : Nat × (Nat → Int32)) => B_X7_feed_35 x2 k a.1 a.2) j (n, tx) = (n + j, tx2) ∧ JT (n + j) b2 tx2 := by
  intro j
  induction j with
  | zero => intro n b1 tx hn h; exact ⟨b1, tx, rfl, rfl, h⟩
  | succ j ih =>
    intro n b1 tx hn h
    obtain ⟨c, c1, c2, c3⟩ := byte_ok (x2 >>> ((nI (8 * j)).toInt64 &&& 63))
    obtain ⟨h1, h2⟩ := h
    have hj : JT (n + 1) (upd b1 n (((x2 >>> ((nI (8 * j)).toInt64 &&& 63)).toInt32).toInt8.toInt32)) (upd tx n (((x2 >>> ((nI (8 * j)).toInt64 &&& 63)) &&& (255 : Int64)).toInt32)) := by
      refine ⟨by omega, fun k hk => ?_⟩
      by_cases e : k = n
      · subst e
        rw [pk_us, pk_us]
        exact ⟨c, c1, c2, c3⟩
      · rw [pk_un e, pk_un e]
        exact h2 k (by omega)
    obtain ⟨b2, tx2, q1, q2, q3⟩ := ih (n + 1) _ _ (by omega) hj
    have e1 : iterDE (fun k (a : Nat × (Nat → Int32)) => B_X3_add_5 x2 k a.1 a.2) (j + 1) (n, b1) = iterDE (fun k (a : Nat × (Nat → Int32)) => B_X3_add_5 x2 k a.1 a.2) j (n + 1, upd b1 n (((x2 >>> ((nI (8 * j)).toInt64 &&& 63)).toInt32).toInt8.toInt32)) := by
      show stepE _ (B_X3_add_5 x2 j n b1) = _
      unfold B_X3_add_5
      rw [if_neg (by omega)]
      rfl
    refine ⟨b2, tx2, ?_, ?_, ?_⟩
    · rw [e1, q1, show n + (j + 1) = n + 1 + j by omega]
    · rw [show n + (j + 1) = n + 1 + j by omega]
      exact q2
    · rw [show n + (j + 1) = n + 1 + j by omega]
      exact q3
theorem feed_top {x1 : Int32} {x2 : Int64} {n : Nat} {b1 tx : Nat → Int32} (h : JT n b1 tx) {c0 d0 : Int32} {c1 d1 : Nat → Int32} {c2 d2 : Nat} (hc : S_X6_feed x1 x2 n b1 = (c0, c1, c2)) (hd : S_X7_feed x1 x2 n tx = (d0, d1, d2)) : d0 = c0 ∧ d2 = c2 ∧ JT c2 c1 d1 := by
  unfold S_X6_feed at hc
  unfold S_X7_feed at hd
  rw [show (1 : Int64) = (1 : Int32).toInt64 from by decide, show (8 : Int64) = (8 : Int32).toInt64 from by decide, in_gen] at hd
  by_cases a : x1 < (1 : Int32)
  · rw [if_pos a] at hc
    rw [if_pos a, if_pos rfl] at hd
    cases hc; cases hd
    exact ⟨rfl, rfl, h⟩
  rw [if_neg a] at hc hd
  by_cases b : x1 ≤ (8 : Int32)
  · rw [if_pos b] at hc
    rw [if_neg (fun z => Int32.not_lt.mpr b z), if_neg (show ¬ (1 : Int32) = 0 by decide)] at hd
    by_cases q : n + x1.toNatClampNeg ≤ 500
    · rw [if_pos q] at hc hd
      obtain ⟨b2, tx2, q1, q2, q3⟩ := feed_loop x2 x1.toNatClampNeg n b1 tx q h
      unfold S_X3_add at hc
      rw [q1] at hc
      rw [q2] at hd
      replace hc : (nI (n + x1.toNatClampNeg), b2, n + x1.toNatClampNeg) = (c0, c1, c2) := hc
      replace hd : (nI (n + x1.toNatClampNeg), tx2, n + x1.toNatClampNeg) = (d0, d1, d2) := hd
      cases hc; cases hd
      exact ⟨rfl, rfl, q3⟩
    · rw [if_neg q] at hc hd
      cases hc; cases hd
      exact ⟨rfl, rfl, h⟩
  · rw [if_neg b] at hc
    rw [if_pos (Int32.not_le.mp b), if_pos rfl] at hd
    cases hc; cases hd
    exact ⟨rfl, rfl, h⟩
