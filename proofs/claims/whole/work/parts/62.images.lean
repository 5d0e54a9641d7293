/-! class and reference: what was seen, images, the text fed -/
section IMAGES
variable {N br men ox : Nat} {yr : Int32} {fg wt ch ow op fg' wt' ch' ow' op' : Nat → Int32} {lv dy lv' dy' : Int32} {kn ov nb li al kn' ov' nb' li' al' : Nat → Int32}
def JS (men n : Nat) (ah sw sn sl : Nat → Int32) : Prop := n ≤ 20 ∧ (∀ k, k < n → RN men (sw k) ∧ RN men (sn k) ∧ ¬ sw k = sn k ∧ (sl k = 0 ∨ sl k = 1)) ∧ ∀ y x, y < 6 → x < 32 → (bq (ah y) x = true ↔ ∃ k, k < n ∧ ((sl k = 1 ∧ sw k = nI x ∧ sn k = nI y) ∨ (sl k = 0 ∧ sn k = nI x ∧ sw k = nI y)))
theorem JS.add {n a y : Nat} {ah sw sn sl : Nat → Int32} {x3 : Int32} (hm : men ≤ 6) (h : JS men n ah sw sn sl) (hn : n < 20) (ha : a < men) (hy : y < men) (hne : ¬ a = y) (h3 : x3 = 0 ∨ x3 = 1) : JS men (n + 1) (if x3 = 0 then upd ah a ((ah a) ||| (S_X6_bit (nI y))) else upd ah y ((ah y) ||| (S_X6_bit (nI a)))) (upd sw n (nI a)) (upd sn n (nI y)) (upd sl n x3) := by
  obtain ⟨h1, h2, h4⟩ := h
  have old : ∀ k, k < n → upd sw n (nI a) k = sw k ∧ upd sn n (nI y) k = sn k ∧ upd sl n x3 k = sl k := fun k hk => ⟨pk_un (by omega), pk_un (by omega), pk_un (by omega)⟩
  refine ⟨by omega, fun k hk => ?_, fun q x hq hx => ?_⟩
  · by_cases e : k = n
    · subst e
      rw [pk_us, pk_us, pk_us]
      exact ⟨RN.nat ha (by omega), RN.nat hy (by omega), fun z => hne ((nI_eq (by omega) (by omega)).mp z), h3⟩
    · obtain ⟨o1, o2, o3⟩ := old k (by omega)
      rw [o1, o2, o3]
      exact h2 k (by omega)
  · have hold : (∃ k, k < n + 1 ∧ ((upd sl n x3 k = 1 ∧ upd sw n (nI a) k = nI x ∧ upd sn n (nI y) k = nI q) ∨ (upd sl n x3 k = 0 ∧ upd sn n (nI y) k = nI x ∧ upd sw n (nI a) k = nI q))) ↔ ((∃ k, k < n ∧ ((sl k = 1 ∧ sw k = nI x ∧ sn k = nI q) ∨ (sl k = 0 ∧ sn k = nI x ∧ sw k = nI q))) ∨ ((x3 = 1 ∧ a = x ∧ y = q) ∨ (x3 = 0 ∧ y = x ∧ a = q))) := by
      constructor
      · rintro ⟨k, hk, z⟩
        by_cases e : k = n
        · subst e
          rw [pk_us, pk_us, pk_us] at z
          refine Or.inr (z.imp (fun w => ⟨w.1, (nI_eq (by omega) (by omega)).mp w.2.1, (nI_eq (by omega) (by omega)).mp w.2.2⟩) (fun w => ⟨w.1, (nI_eq (by omega) (by omega)).mp w.2.1, (nI_eq (by omega) (by omega)).mp w.2.2⟩))
        · obtain ⟨o1, o2, o3⟩ := old k (by omega)
          rw [o1, o2, o3] at z
          exact Or.inl ⟨k, by omega, z⟩
      · rintro (⟨k, hk, z⟩ | z)
        · obtain ⟨o1, o2, o3⟩ := old k hk
          exact ⟨k, by omega, by rw [o1, o2, o3]; exact z⟩
        · refine ⟨n, by omega, ?_⟩
          rw [pk_us, pk_us, pk_us]
          exact z.imp (fun w => ⟨w.1, by rw [w.2.1], by rw [w.2.2]⟩) (fun w => ⟨w.1, by rw [w.2.1], by rw [w.2.2]⟩)
    rw [hold, ← h4 q x hq hx]
    rcases h3 with e | e
    · rw [if_pos e]
      have n1 : ¬ x3 = 1 := by rw [e]; decide
      by_cases f : q = a
      · subst f
        rw [pk_us, bq_or, bq_bit6 x (by omega), Bool.or_eq_true, decide_eq_true_iff]
        constructor
        · exact fun z => z.imp id (fun w => Or.inr ⟨e, w.symm, rfl⟩)
        · rintro (z | z | z)
          · exact Or.inl z
          · exact absurd z.1 n1
          · exact Or.inr z.2.1.symm
      · rw [pk_un f]
        constructor
        · exact fun z => Or.inl z
        · rintro (z | z | z)
          · exact z
          · exact absurd z.1 n1
          · exact absurd z.2.2.symm f
    · have n0 : ¬ x3 = 0 := by rw [e]; decide
      rw [if_neg n0]
      by_cases f : q = y
      · subst f
        rw [pk_us, bq_or, bq_bit6 x (by omega), Bool.or_eq_true, decide_eq_true_iff]
        constructor
        · exact fun z => z.imp id (fun w => Or.inl ⟨e, w.symm, rfl⟩)
        · rintro (z | z | z)
          · exact Or.inl z
          · exact Or.inr z.2.1.symm
          · exact absurd z.1 n0
      · rw [pk_un f]
        constructor
        · exact fun z => Or.inl z
        · rintro (z | z | z)
          · exact z
          · exact absurd z.2.2.symm f
          · exact absurd z.1 n0
theorem see_top {x1 x2 x3 : Int32} {n : Nat} {ah sw sn sl : Nat → Int32} (hm : men ≤ 6) (h : JS men n ah sw sn sl) (h3 : x3 = 0 ∨ x3 = 1) {c0 d0 : Int32} {c1 d1 d2 d3 : Nat → Int32} {c2 d4 : Nat} (hc : S_X6_see x1 x2 x3 men n ah = (c0, c1, c2)) (hd : S_X7_see x1 x2 x3 men n sw sn sl = (d0, d1, d2, d3, d4)) : d0 = c0 ∧ d4 = c2 ∧ JS men c2 c1 d1 d2 d3 := by
  unfold S_X6_see S_X1_arePair at hc
  unfold S_X7_see at hd
  rw [man_eq (by omega), man_eq (by omega)] at hd
  by_cases c : S_X1_hasMan x1 men = 0
  · rw [if_pos c] at hd
    rw [if_pos c, if_pos rfl] at hc
    cases hc; cases hd
    exact ⟨rfl, rfl, h⟩
  rw [if_neg c] at hc hd
  obtain ⟨f1, f2⟩ := hasMan_of c (by omega)
  by_cases d : S_X1_hasMan x2 men = 0
  · rw [if_pos d] at hd
    rw [if_pos d, if_pos rfl] at hc
    cases hc; cases hd
    exact ⟨rfl, rfl, h⟩
  rw [if_neg d] at hc hd
  obtain ⟨g1, g2⟩ := hasMan_of d (by omega)
  by_cases e : x1.toNatClampNeg = x2.toNatClampNeg
  · rw [if_pos e] at hd
    rw [if_pos e, if_pos rfl] at hc
    cases hc; cases hd
    exact ⟨rfl, rfl, h⟩
  rw [if_neg e] at hd
  rw [if_neg e, if_neg (show ¬ (1 : Int32) = 0 by decide)] at hc
  have hn := h.1
  by_cases q : n < 20
  · rw [if_pos q] at hc
    rw [if_neg (by omega)] at hd
    have hj := h.add (x3 := x3) hm q f2 g2 e h3
    by_cases r : x3 = 0
    · rw [if_pos r] at hc hj
      unfold S_X4_add at hc
      rw [if_neg (by omega), if_neg (by omega)] at hc
      replace hc : (nI (n + 1), upd ah x1.toNatClampNeg ((ah x1.toNatClampNeg) ||| (S_X6_bit (nI x2.toNatClampNeg))), n + 1) = (c0, c1, c2) := hc
      cases hc; cases hd
      exact ⟨rfl, rfl, hj⟩
    · rw [if_neg r] at hc hj
      unfold S_X4_add at hc
      rw [if_neg (by omega), if_neg (by omega)] at hc
      replace hc : (nI (n + 1), upd ah x2.toNatClampNeg ((ah x2.toNatClampNeg) ||| (S_X6_bit (nI x1.toNatClampNeg))), n + 1) = (c0, c1, c2) := hc
      cases hc; cases hd
      exact ⟨rfl, rfl, hj⟩
  · rw [if_neg q] at hc
    rw [if_pos (by omega)] at hd
    cases hc; cases hd
    exact ⟨rfl, rfl, h⟩
theorem JS.clear {ah sw sn sl : Nat → Int32} (h : ∀ y, y < 6 → ah y = 0) : JS men 0 ah sw sn sl := by
  refine ⟨by omega, fun k hk => absurd hk (Nat.not_lt_zero k), fun y x hy hx => ?_⟩
  rw [h y hy, bq_0]
  exact ⟨fun z => absurd z (by decide), fun ⟨k, hk, _⟩ => absurd hk (Nat.not_lt_zero k)⟩
theorem clear_ok {ah : Nat → Int32} {n : Nat} {ah2 : Nat → Int32} (h : S_X4_clear ah = (n, ah2)) : n = 0 ∧ ∀ y, y < 6 → ah2 y = 0 := by
  have h : (0, iter (fun k (a : Nat → Int32) => upd a k (0 : Int32)) 6 0 ah) = (n, ah2) := h
  cases h
  exact ⟨rfl, over_zero ah 6⟩
theorem tear_top {cq n : Nat} {ah : Nat → Int32} {c0 : Int32} {c1 c2 : Nat} {c3 : Nat → Int32} (hc : S_X6_tear cq n ah = (c0, c1, c2, c3)) : S_X7_tear cq n = (c0, c1, c2) ∧ c1 = 0 ∧ c2 = 0 ∧ ∀ y, y < 6 → c3 y = 0 := by
  unfold S_X6_tear at hc
  generalize hu : S_X4_clear ah = u at hc
  obtain ⟨u0, u1⟩ := u
  obtain ⟨h1, h2⟩ := clear_ok hu
  subst h1
  replace hc : (nI (cq + n), 0, 0, u1) = (c0, c1, c2, c3) := hc
  cases hc
  exact ⟨rfl, rfl, rfl, h2⟩
theorem JD.congr {kn2 ov2 nb2 li2 al2 kn2' ov2' nb2' li2' al2' : Nat → Int32} (h : JD N br men lv dy kn ov nb li al lv' dy' kn' ov' nb' li' al') (hb : br ≤ 5) (hm : men ≤ 6) (k1 : ∀ k, k < 6 → kn2 k = kn k ∧ kn2' k = kn' k) (k2 : ∀ k, k < 5 → ov2 k = ov k ∧ ov2' k = ov' k) (k3 : ∀ k, k < 30 → nb2 k = nb k ∧ li2 k = li k ∧ al2 k = al k ∧ nb2' k = nb' k ∧ li2' k = li' k ∧ al2' k = al' k) : JD N br men lv dy kn2 ov2 nb2 li2 al2 lv' dy' kn2' ov2' nb2' li2' al2' := by
  obtain ⟨e1, e2, h1, h2, h3, h4, h5⟩ := h
  refine ⟨e1, e2, h1, h2, fun t ht => ?_, fun b hb2 => ?_, fun b t hb2 ht => ?_⟩
  · rw [(k1 t (by omega)).1, (k1 t (by omega)).2]; exact h3 t ht
  · rw [(k2 b (by omega)).1, (k2 b (by omega)).2]; exact h4 b hb2
  · obtain ⟨a1, a2, a3, _⟩ := k3 (b * 6 + t) (by omega)
    obtain ⟨_, _, _, a4, a5, a6⟩ := k3 (6 * b + t) (by omega)
    rw [a1, a2, a3, a4, a5, a6]
    exact h5 b t hb2 ht
/-- an image of the reference, from base on -/
def IM (N br men : Nat) (im : Nat → Int32) (base : Nat) (lv dy sd : Int32) (kn ov nb li al : Nat → Int32) : Prop := JD N br men lv dy kn ov nb li al (im (base + 101)) (im (base + 102)) (fun k => im (base + 90 + k)) (fun k => im (base + 96 + k)) (fun k => im (base + k)) (fun k => im (base + 30 + k)) (fun k => im (base + 60 + k)) ∧ im (base + 103) = sd ∧ ¬ sd < 0
def JI (N br men : Nat) (kept : Int32) (lv1 dy1 sd1 : Int32) (kn1 ov1 nb1 li1 al1 : Nat → Int32) (lv2 dy2 sd2 : Int32) (kn2 ov2 nb2 li2 al2 : Nat → Int32) (im ik : Nat → Int32) : Prop := (ik 0 = 0 ∨ ik 0 = 1) ∧ (ik 1 = 0 ∨ ik 1 = 1) ∧ (bq kept 0 = true ↔ ik 0 = 1) ∧ (bq kept 1 = true ↔ ik 1 = 1) ∧ (ik 0 = 1 → IM N br men im 0 lv1 dy1 sd1 kn1 ov1 nb1 li1 al1) ∧ (ik 1 = 1 → IM N br men im 110 lv2 dy2 sd2 kn2 ov2 nb2 li2 al2)
theorem IM.congr {im im2 : Nat → Int32} {base : Nat} {sd : Int32} (h : IM N br men im base lv dy sd kn ov nb li al) (hb : br ≤ 5) (hm : men ≤ 6) (he : ∀ q, base ≤ q → q < base + 104 → im2 q = im q) : IM N br men im2 base lv dy sd kn ov nb li al := by
  obtain ⟨h1, h2, h3⟩ := h
  refine ⟨?_, by rw [he _ (by omega) (by omega)]; exact h2, h3⟩
  rw [he _ (by omega) (by omega), he (base + 102) (by omega) (by omega)]
  exact h1.congr hb hm (fun k hk => ⟨rfl, he _ (by omega) (by omega)⟩) (fun k hk => ⟨rfl, he _ (by omega) (by omega)⟩) (fun k hk => ⟨rfl, rfl, rfl, he _ (by omega) (by omega), he _ (by omega) (by omega), he _ (by omega) (by omega)⟩)
theorem IM.up {N2 base : Nat} {im : Nat → Int32} {sd : Int32} (h : IM N br men im base lv dy sd kn ov nb li al) (hN : N ≤ N2) : IM N2 br men im base lv dy sd kn ov nb li al := ⟨h.1.up hN, h.2⟩
theorem keep_loops {B : Nat} {im : Nat → Int32} {lv dy sd : Int32} {f1 f2 f3 : Nat → Int32} (hf1 : f1 = iter (fun k (a : Nat → Int32) => upd (upd (upd a (B + k) (nb' k)) (B + 30 + k) (li' k)) (B + 60 + k) (al' k)) 30 0 im) (hf2 : f2 = iter (fun k (a : Nat → Int32) => upd a (B + 90 + k) (kn' k)) 6 0 f1) (hf3 : f3 = iter (fun k (a : Nat → Int32) => upd a (B + 96 + k) (ov' k)) 5 0 f2) :
    (∀ k, k < 30 → upd (upd (upd f3 (B + 101) lv) (B + 102) dy) (B + 103) sd (B + k) = nb' k ∧ upd (upd (upd f3 (B + 101) lv) (B + 102) dy) (B + 103) sd (B + 30 + k) = li' k ∧ upd (upd (upd f3 (B + 101) lv) (B + 102) dy) (B + 103) sd (B + 60 + k) = al' k) ∧ (∀ k, k < 6 → upd (upd (upd f3 (B + 101) lv) (B + 102) dy) (B + 103) sd (B + 90 + k) = kn' k) ∧ (∀ k, k < 5 → upd (upd (upd f3 (B + 101) lv) (B + 102) dy) (B + 103) sd (B + 96 + k) = ov' k) ∧ upd (upd (upd f3 (B + 101) lv) (B + 102) dy) (B + 103) sd (B + 101) = lv ∧ upd (upd (upd f3 (B + 101) lv) (B + 102) dy) (B + 103) sd (B + 102) = dy ∧ upd (upd (upd f3 (B + 101) lv) (B + 102) dy) (B + 103) sd (B + 103) = sd ∧ ∀ q, q < B ∨ B + 104 ≤ q → upd (upd (upd f3 (B + 101) lv) (B + 102) dy) (B + 103) sd q = im q := by
  have g1 : ∀ n, n ≤ 30 → (∀ k, k < n → iter (fun k (a : Nat → Int32) => upd (upd (upd a (B + k) (nb' k)) (B + 30 + k) (li' k)) (B + 60 + k) (al' k)) n 0 im (B + k) = nb' k ∧ iter (fun k (a : Nat → Int32) => upd (upd (upd a (B + k) (nb' k)) (B + 30 + k) (li' k)) (B + 60 + k) (al' k)) n 0 im (B + 30 + k) = li' k ∧ iter (fun k (a : Nat → Int32) => upd (upd (upd a (B + k) (nb' k)) (B + 30 + k) (li' k)) (B + 60 + k) (al' k)) n 0 im (B + 60 + k) = al' k) ∧ ∀ q, q < B ∨ B + 90 ≤ q → iter (fun k (a : Nat → Int32) => upd (upd (upd a (B + k) (nb' k)) (B + 30 + k) (li' k)) (B + 60 + k) (al' k)) n 0 im q = im q := by
    intro n
    induction n with
    | zero => intro _; exact ⟨fun k hk => absurd hk (Nat.not_lt_zero k), fun q _ => rfl⟩
    | succ n ih =>
      intro hn
      obtain ⟨i1, i2⟩ := ih (by omega)
      rw [iter_last]
      generalize iter (fun k (a : Nat → Int32) => upd (upd (upd a (B + k) (nb' k)) (B + 30 + k) (li' k)) (B + 60 + k) (al' k)) n 0 im = f at i1 i2 ⊢
      refine ⟨fun k hk => ?_, fun q hq => ?_⟩
      · by_cases e : k = n
        · subst e
          refine ⟨?_, ?_, pk_us⟩
          · rw [pk_un (by omega), pk_un (by omega)]
            exact pk_us
          · rw [pk_un (by omega)]
            exact pk_us
        · rw [pk_un (by omega), pk_un (by omega), pk_un (by omega), pk_un (by omega), pk_un (by omega), pk_un (by omega), pk_un (by omega), pk_un (by omega), pk_un (by omega)]
          exact i1 k (by omega)
      · rw [pk_un (by omega), pk_un (by omega), pk_un (by omega)]
        exact i2 q hq
  have g2 : ∀ (f : Nat → Int32) (c : Nat) (g : Nat → Int32) (n : Nat), (∀ k, k < n → iter (fun k (a : Nat → Int32) => upd a (c + k) (g k)) n 0 f (c + k) = g k) ∧ ∀ q, q < c ∨ c + n ≤ q → iter (fun k (a : Nat → Int32) => upd a (c + k) (g k)) n 0 f q = f q := by
    intro f c g n
    induction n with
    | zero => exact ⟨fun k hk => absurd hk (Nat.not_lt_zero k), fun q _ => rfl⟩
    | succ n ih =>
      obtain ⟨i1, i2⟩ := ih
      rw [iter_last]
      generalize iter (fun k (a : Nat → Int32) => upd a (c + k) (g k)) n 0 f = h at i1 i2 ⊢
      refine ⟨fun k hk => ?_, fun q hq => ?_⟩
      · by_cases e : k = n
        · subst e; exact pk_us
        · rw [pk_un (by omega)]; exact i1 k (by omega)
      · rw [pk_un (by omega)]; exact i2 q (by omega)
  obtain ⟨a1, a2⟩ := g1 30 (by omega)
  obtain ⟨b1, b2⟩ := g2 f1 (B + 90) kn' 6
  obtain ⟨c1, c2⟩ := g2 f2 (B + 96) ov' 5
  rw [← hf1] at a1 a2
  rw [← hf2] at b1 b2
  rw [← hf3] at c1 c2
  clear hf1 hf2 hf3 g1 g2
  refine ⟨fun k hk => ?_, fun k hk => ?_, fun k hk => ?_, ?_, ?_, pk_us, fun q hq => ?_⟩
  · rw [pk_un (by omega), pk_un (by omega), pk_un (by omega), pk_un (by omega), pk_un (by omega), pk_un (by omega), pk_un (by omega), pk_un (by omega), pk_un (by omega), c2 _ (by omega), c2 _ (by omega), c2 _ (by omega), b2 _ (by omega), b2 _ (by omega), b2 _ (by omega)]
    exact a1 k hk
  · rw [pk_un (by omega), pk_un (by omega), pk_un (by omega), c2 _ (by omega)]
    exact b1 k hk
  · rw [pk_un (by omega), pk_un (by omega), pk_un (by omega)]
    exact c1 k hk
  · rw [pk_un (by omega), pk_un (by omega), pk_us]
  · rw [pk_un (by omega), pk_us]
  · rw [pk_un (by omega), pk_un (by omega), pk_un (by omega), c2 _ (by omega), b2 _ (by omega)]
    exact a2 q (by omega)
end IMAGES
