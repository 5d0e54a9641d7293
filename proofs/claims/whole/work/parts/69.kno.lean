/-! class and reference: the clause of who knows whom -/
theorem v_of {v : Int32} {men : Nat} (hm : men ≤ 1000) (h0 : 0 ≤ v) (h1 : v ≤ (nI men) - (1 : Int32)) : ∃ j, j < men ∧ v = nI j := by
  have e1 : ((nI men) - (1 : Int32)).toInt = (men : Int) - 1 := pk_sub_toInt (a := men) (b := 1) (by omega) (by decide)
  rw [Int32.le_iff_toInt_le] at h0 h1
  have hx : ¬ v < 0 := fun z => by rw [Int32.lt_iff_toInt_lt] at z; omega
  obtain ⟨j, hj, rfl⟩ := nI_of hx
  rw [nI_toInt hj] at h1
  exact ⟨j, by omega, rfl⟩
def PK (men : Nat) (kf rK : Nat → Int32) : Prop := ∀ t, t < men → rK t = kf t ∧ SBn men (kf t)
theorem takes_bad {x fn : Int32} {n a : Nat} {b1 : Nat → Int32} (h : ¬ fn = 0) : S_X3_takes x fn n a b1 = (0, a) := by
  unfold S_X3_takes
  rw [if_neg h]
theorem rk_eq {men j i p : Nat} {fp : Int32} {kf : Nat → Int32} (hm : men ≤ 6) (hj : j < men) (hi : i < men) : S_X3_readKnown (nI j) (nI i) men p fp 0 kf = if j = i then ((4 : Int32), nI p, kf) else if S_X6_has (kf j) (nI i) = 0 then ((0 : Int32), fp, upd kf j (kf j ||| S_X6_bit (nI i))) else ((4 : Int32), nI p, kf) := by
  unfold S_X3_readKnown
  have e1 : S_X1_hasMan (nI j) men = 1 := by
    unfold S_X1_hasMan
    rw [if_neg (nI_pos (by omega)), if_neg (fun z => by have := (nI_leI (by omega) (by omega)).mp z; omega)]
  rw [e1, if_neg (show ¬ (1 : Int32) = 0 by decide), nI_clamp (by omega)]
  by_cases c : j = i
  · rw [if_pos c, if_pos (by rw [c])]
    rfl
  · rw [if_neg c, if_neg (fun z => c ((nI_eq (by omega) (by omega)).mp z))]
    by_cases d : S_X6_has (kf j) (nI i) = 0
    · rw [if_pos d, if_pos d]
    · rw [if_neg d, if_neg d]
      rfl
theorem kn_step {n men j a np nA k : Nat} {fp fp' num rM : Int32} {b1 tx kf rK : Nat → Int32} (h : JT n b1 tx) (hm : men ≤ 6) (hj : j < men) (ha : a ≤ n) (hk : PK men kf rK) :
    (∃ f fpf a' np' a3 nA3 num3, ¬ f = 0 ∧ ¬ f ≤ 0 ∧ B_X3_readKnows_48 n men b1 (nI j) k 1 fp 0 a np kf = .inl (0, fpf, f, a', np', kf) ∧ B_X7_takeKnows_37 rM n men tx (nI j) 1 0 fp' a num nA rK = .inr (.inr (f, rM + 1, a3, nA3, num3, fpf, rK))) ∨
    (∃ x s np' num' nA' kf2 rK2, (x = 1 ∨ x = 0) ∧ a < s ∧ s ≤ n ∧ PK men kf2 rK2 ∧ B_X3_readKnows_48 n men b1 (nI j) k 1 fp 0 a np kf = .inl (x, fp, 0, s, np', kf2) ∧ B_X7_takeKnows_37 rM n men tx (nI j) 1 0 fp' a num nA rK = .inl (x, 0, fp', s, num', nA', rK2)) := by
  rcases hn : S_X3_number 0 ((nI men) - (1 : Int32)) 0 n fp a np b1 with ⟨v, a1, p, f1, fp1⟩
  rcases hmo : S_X7_takeNumber 0 ((nI men) - (1 : Int32)) n fp' a num nA tx with ⟨g, a1', p', num1, fpm⟩
  obtain ⟨q1, q2⟩ := num_eq h ha hn hmo
  have e1 : B_X3_readKnows_48 n men b1 (nI j) k 1 fp 0 a np kf = K_X3_readKnows_69 n men b1 (nI j) kf v a1 p f1 fp1 := by
    unfold B_X3_readKnows_48
    rw [if_neg (by decide), hn]
  have e2 : B_X7_takeKnows_37 rM n men tx (nI j) 1 0 fp' a num nA rK = K_X7_takeKnows_49 rM n tx (nI j) rK g a1' p' num1 fpm := by
    unfold B_X7_takeKnows_37
    rw [if_neg (by decide), hmo]
  rw [e1, e2]
  subst q1
  rcases q2 with ⟨g0, r1, r2, r3, r4, r5, r6, r7, r8, r9⟩ | ⟨b, b2⟩
  · subst g0 r1 r4 r5 r6 r7
    obtain ⟨i, hi, rfl⟩ := v_of (by omega) r8 r9
    have e3 : K_X3_readKnows_69 n men b1 (nI j) kf (nI i) a1' p' 0 fp1 = (fun u : Int32 × Int32 × (Nat → Int32) => K_X3_readKnows_86 n b1 a1' p' u.1 u.2.1 u.2.2) (S_X3_readKnown (nI j) (nI i) men p' fp1 0 kf) := by
      unfold K_X3_readKnows_69
      rw [if_pos rfl]
    rw [e3, rk_eq hm hj hi]
    by_cases c : j = i
    · left
      refine ⟨4, nI p', a1', p', a1', p', nI i, by decide, by decide, ?_, ?_⟩
      · rw [if_pos c]
        dsimp only
        unfold K_X3_readKnows_86
        rw [takes_bad (by decide)]
        rfl
      · unfold K_X7_takeKnows_49
        rw [if_pos (show (0 : Int32) ≤ 0 by decide), nI_clamp (show j < 2 ^ 31 by omega), if_pos (by rw [c])]
        rfl
    · rw [if_neg c]
      by_cases d : S_X6_has (kf j) (nI i) = 0
      · right
        obtain ⟨s, r, s1, s2, s3, s4⟩ := takes_eq h r3 (show 44 < 128 by decide)
        have hp : PK men (upd kf j (kf j ||| S_X6_bit (nI i))) (upd rK j (rK j ||| ((1 : Int32) <<< ((nI i) &&& 31)))) := by
          intro t ht
          by_cases et : t = j
          · subst et
            rw [show ∀ (f : Nat → Int32) (v : Int32), upd f t v t = v from fun f v => if_pos rfl, show ∀ (f : Nat → Int32) (v : Int32), upd f t v t = v from fun f v => if_pos rfl, (hk t ht).1]
            exact ⟨rfl, (hk t ht).2.or (SBn.bit hi (by omega))⟩
          · rw [show ∀ (f : Nat → Int32) (v : Int32), upd f j v t = f t from fun f v => if_neg et, show ∀ (f : Nat → Int32) (v : Int32), upd f j v t = f t from fun f v => if_neg et]
            exact hk t ht
        have e4 : K_X7_takeKnows_49 rM n tx (nI j) rK 0 a1' p' (nI i) fpm = K_X7_takeKnows_109 (nI j) 0 p' (nI i) fpm rK r s := by
          unfold K_X7_takeKnows_49
          rw [if_pos (show (0 : Int32) ≤ 0 by decide), nI_clamp (show j < 2 ^ 31 by omega), if_neg (fun z => c ((nI_eq (by omega) (by omega)).mp z).symm), (hk j hj).1, ← has67 (kf j) (show i < 31 by omega), if_pos d, s3]
        rw [e4, if_pos d]
        dsimp only
        unfold K_X3_readKnows_86 K_X7_takeKnows_109
        rw [nI_clamp (show j < 2 ^ 31 by omega)]
        rcases s4 with ⟨t1, t2, t3⟩ | ⟨t1, t2⟩
        · rw [show (44 : Int32) = nI 44 from rfl, t1, if_pos t3]
          exact ⟨1, s + 1, _, _, _, _, _, Or.inl rfl, by omega, by omega, hp, rfl, rfl⟩
        · rw [show (44 : Int32) = nI 44 from rfl, t1, if_neg t2]
          exact ⟨0, s, _, _, _, _, _, Or.inr rfl, by omega, by omega, hp, rfl, rfl⟩
      · left
        refine ⟨4, nI p', a1', p', a1', p', nI i, by decide, by decide, ?_, ?_⟩
        · rw [if_neg d]
          dsimp only
          unfold K_X3_readKnows_86
          rw [takes_bad (by decide)]
          rfl
        · unfold K_X7_takeKnows_49
          rw [if_pos (show (0 : Int32) ≤ 0 by decide), nI_clamp (show j < 2 ^ 31 by omega), if_neg (fun z => c ((nI_eq (by omega) (by omega)).mp z).symm), (hk j hj).1, ← has67 (kf j) (show i < 31 by omega), if_neg d]
          rfl
  · left
    refine ⟨g, fp1, a1, p, a1', p', num1, (f12 b).1, (f12 b).2, ?_, ?_⟩
    · unfold K_X3_readKnows_69
      rw [if_neg (f12 b).1, takes_bad (f12 b).1]
      rfl
    · unfold K_X7_takeKnows_49
      rw [if_neg (f12 b).2, b2]
abbrev KCB (n men : Nat) (b1 : Nat → Int32) (r : Int32) : Nat → (Int32 × Int32 × Int32 × Nat × Nat × (Nat → Int32)) → (Int32 × Int32 × Int32 × Nat × Nat × (Nat → Int32)) ⊕ (Int32 × Int32 × Int32 × Nat × Nat × (Nat → Int32)) := fun k a => B_X3_readKnows_48 n men b1 r k a.1 a.2.1 a.2.2.1 a.2.2.2.1 a.2.2.2.2.1 a.2.2.2.2.2
abbrev KMB (rM : Int32) (n men : Nat) (tx : Nat → Int32) (r : Int32) : (Int32 × Int32 × Int32 × Nat × Int32 × Nat × (Nat → Int32)) → (Int32 × Int32 × Int32 × Nat × Int32 × Nat × (Nat → Int32)) ⊕ ((Int32 × Int32 × Int32 × Nat × Int32 × Nat × (Nat → Int32)) ⊕ (Int32 × Int32 × Nat × Nat × Int32 × Int32 × (Nat → Int32))) := fun a => B_X7_takeKnows_37 rM n men tx r a.1 a.2.1 a.2.2.1 a.2.2.2.1 a.2.2.2.2.1 a.2.2.2.2.2.1 a.2.2.2.2.2.2
theorem kc_stop {n men : Nat} {b1 : Nat → Int32} {r : Int32} {X : Int32 × Int32 × Nat × Nat × (Nat → Int32)} : ∀ m k, iterE (KCB n men b1 r) m k (0, X) = .inl (0, X) ∨ iterE (KCB n men b1 r) m k (0, X) = .inr (0, X) := by
  intro m k
  cases m with
  | zero => exact Or.inl rfl
  | succ m =>
    right
    have e : KCB n men b1 r k (0, X) = .inr (0, X) := by
      show B_X3_readKnows_48 n men b1 r k 0 X.1 X.2.1 X.2.2.1 X.2.2.2.1 X.2.2.2.2 = _
      unfold B_X3_readKnows_48
      rw [if_pos rfl]
    show stepE (iterE (KCB n men b1 r) m (k + 1)) (KCB n men b1 r k (0, X)) = _
    rw [e]
    rfl
theorem km_stop {n men : Nat} {tx : Nat → Int32} {r rM : Int32} {X : Int32 × Int32 × Nat × Int32 × Nat × (Nat → Int32)} : ∀ w, iterW (KMB rM n men tx r) w (0, X) = .inl (0, X) ∨ iterW (KMB rM n men tx r) w (0, X) = .inr (.inl (0, X)) := by
  intro w
  cases w with
  | zero => exact Or.inl rfl
  | succ w =>
    right
    have e : KMB rM n men tx r (0, X) = .inr (.inl (0, X)) := by
      show B_X7_takeKnows_37 rM n men tx r 0 X.1 X.2.1 X.2.2.1 X.2.2.2.1 X.2.2.2.2.1 X.2.2.2.2.2 = _
      unfold B_X7_takeKnows_37
      rw [if_pos rfl]
    show stepE (iterW (KMB rM n men tx r) w) (KMB rM n men tx r (0, X)) = _
    rw [e]
    rfl
theorem kn_loop {n men j : Nat} {fp fp' rM : Int32} {b1 tx : Nat → Int32} (h : JT n b1 tx) (hm : men ≤ 6) (hj : j < men) : ∀ d k m w a np nA num kf rK, n - a ≤ d → a ≤ n → n - a + 1 ≤ m → n - a + 1 ≤ w → PK men kf rK →
    ∃ v3 fpc fn a2 np2 kf2, (iterE (KCB n men b1 (nI j)) m k (1, fp, 0, a, np, kf) = .inl (v3, fpc, fn, a2, np2, kf2) ∨ iterE (KCB n men b1 (nI j)) m k (1, fp, 0, a, np, kf) = .inr (v3, fpc, fn, a2, np2, kf2)) ∧
      ((fn = 0 ∧ fpc = fp ∧ a < a2 ∧ a2 ≤ n ∧ ∃ y num2 nA2 rK2, PK men kf2 rK2 ∧ (iterW (KMB rM n men tx (nI j)) w (1, 0, fp', a, num, nA, rK) = .inl (y, 0, fp', a2, num2, nA2, rK2) ∨ iterW (KMB rM n men tx (nI j)) w (1, 0, fp', a, num, nA, rK) = .inr (.inl (y, 0, fp', a2, num2, nA2, rK2)))) ∨
       (¬ fn = 0 ∧ ¬ fn ≤ 0 ∧ ∃ a3 nA3 num3 rK3, iterW (KMB rM n men tx (nI j)) w (1, 0, fp', a, num, nA, rK) = .inr (.inr (fn, rM + 1, a3, nA3, num3, fpc, rK3)))) := by
  intro d
  induction d with
  | zero =>
    intro k m w a np nA num kf rK hd ha hM hW hk
    obtain ⟨m, rfl⟩ : ∃ m', m = m' + 1 := ⟨m - 1, by omega⟩
    obtain ⟨w, rfl⟩ : ∃ w', w = w' + 1 := ⟨w - 1, by omega⟩
    have i1 : iterE (KCB n men b1 (nI j)) (m + 1) k (1, fp, 0, a, np, kf) = stepE (iterE (KCB n men b1 (nI j)) m (k + 1)) (B_X3_readKnows_48 n men b1 (nI j) k 1 fp 0 a np kf) := rfl
    have i2 : iterW (KMB rM n men tx (nI j)) (w + 1) (1, 0, fp', a, num, nA, rK) = stepE (iterW (KMB rM n men tx (nI j)) w) (B_X7_takeKnows_37 rM n men tx (nI j) 1 0 fp' a num nA rK) := rfl
    rw [i1, i2]
    rcases kn_step (np := np) (nA := nA) (k := k) (fp := fp) (fp' := fp') (num := num) (rM := rM) h hm hj ha hk with ⟨f, fpf, a', np', a3, nA3, num3, f0, f1, s1, s2⟩ | ⟨x, s, np', num', nA', kf2, rK2, x01, l1, l2, hp, s1, s2⟩
    · rw [s1, s2]
      exact ⟨0, fpf, f, a', np', kf, kc_stop m (k + 1), Or.inr ⟨f0, f1, _, _, _, _, rfl⟩⟩
    · omega
  | succ d ih =>
    intro k m w a np nA num kf rK hd ha hM hW hk
    obtain ⟨m, rfl⟩ : ∃ m', m = m' + 1 := ⟨m - 1, by omega⟩
    obtain ⟨w, rfl⟩ : ∃ w', w = w' + 1 := ⟨w - 1, by omega⟩
    have i1 : iterE (KCB n men b1 (nI j)) (m + 1) k (1, fp, 0, a, np, kf) = stepE (iterE (KCB n men b1 (nI j)) m (k + 1)) (B_X3_readKnows_48 n men b1 (nI j) k 1 fp 0 a np kf) := rfl
    have i2 : iterW (KMB rM n men tx (nI j)) (w + 1) (1, 0, fp', a, num, nA, rK) = stepE (iterW (KMB rM n men tx (nI j)) w) (B_X7_takeKnows_37 rM n men tx (nI j) 1 0 fp' a num nA rK) := rfl
    rw [i1, i2]
    rcases kn_step (np := np) (nA := nA) (k := k) (fp := fp) (fp' := fp') (num := num) (rM := rM) h hm hj ha hk with ⟨f, fpf, a', np', a3, nA3, num3, f0, f1, s1, s2⟩ | ⟨x, s, np', num', nA', kf2, rK2, x01, l1, l2, hp, s1, s2⟩
    · rw [s1, s2]
      exact ⟨0, fpf, f, a', np', kf, kc_stop m (k + 1), Or.inr ⟨f0, f1, _, _, _, _, rfl⟩⟩
    · rw [s1, s2]
      rcases x01 with rfl | rfl
      · obtain ⟨v3, fpc, fn, a2, np2, kf3, z1, z2⟩ := ih (k + 1) m w s np' nA' num' kf2 rK2 (by omega) l2 (by omega) (by omega) hp
        refine ⟨v3, fpc, fn, a2, np2, kf3, z1, ?_⟩
        rcases z2 with ⟨y1, y2, y3, y4, y5⟩ | y
        · exact Or.inl ⟨y1, y2, by omega, y4, y5⟩
        · exact Or.inr y
      · exact ⟨0, fp, 0, s, np', kf2, kc_stop m (k + 1), Or.inl ⟨rfl, rfl, l1, l2, 0, num', nA', rK2, hp, km_stop w⟩⟩
theorem k_knows {n e np nA men : Nat} {fp fp' oc kc rM num : Int32} {b1 tx kf rK : Nat → Int32} (h : JT n b1 tx) (he : e ≤ n) (hm : men ≤ 6) (hk : PK men kf rK) {oc2 kc2 fn fp2 f num2 fp3 rM2 : Int32} {at2 np2 a3 nA2 : Nat} {kf2 rK2 : Nat → Int32} (hc : S_X3_readKnows oc n fp 0 e np kc men b1 kf = (oc2, kc2, at2, np2, fn, fp2, kf2)) (hd : S_X7_takeKnows rM n fp' e num nA men tx rK = (f, rM2, a3, nA2, num2, fp3, rK2)) :
    (f = 0 ∧ oc2 = oc + 1 ∧ kc2 = kc + 1 ∧ rM2 = rM + 1 ∧ PK men kf2 rK2 ∧ e < a3 ∧ a3 ≤ n ∧ fp3 = fp' ∧ S_X3_endClause 0 n fp a3 b1 = (at2, fn, fp2)) ∨ (¬ f = 0 ∧ ¬ f ≤ 0 ∧ fn = f ∧ fp3 = fp2) := by
  rcases hn : S_X3_number 0 ((nI men) - (1 : Int32)) 0 n fp e np b1 with ⟨v, a1, p, f1, fp1⟩
  rcases hmo : S_X7_takeNumber 0 ((nI men) - (1 : Int32)) n fp' e num nA tx with ⟨g, a1', p', num1, fpm⟩
  obtain ⟨q1, q2⟩ := num_eq h he hn hmo
  unfold S_X3_readKnows at hc
  unfold S_X7_takeKnows at hd
  rw [hn] at hc
  rw [hmo] at hd
  dsimp only at hc hd
  unfold K_X3_readKnows_28 at hc
  unfold K_X7_takeKnows_18 at hd
  have key : ∀ (x : (Int32 × Int32 × Int32 × Nat × Nat × (Nat → Int32)) ⊕ (Int32 × Int32 × Int32 × Nat × Nat × (Nat → Int32))) (v3 fpc f2 : Int32) (a2 npx : Nat) (kx : Nat → Int32), (x = .inl (v3, fpc, f2, a2, npx, kx) ∨ x = .inr (v3, fpc, f2, a2, npx, kx)) → outB (fun a => K_X3_readKnows_48 oc n kc b1 a.1 a.2.1 a.2.2.1 a.2.2.2.1 a.2.2.2.2.1 a.2.2.2.2.2) x = K_X3_readKnows_48 oc n kc b1 v3 fpc f2 a2 npx kx := by
    intro x v3 fpc f2 a2 npx kx hx
    rcases hx with rfl | rfl
    · rfl
    · rfl
  subst q1
  rcases q2 with ⟨g0, r1, r2, r3, r4, r5, r6, r7, r8, r9⟩ | ⟨b, b2⟩
  · subst g0 r1 r4 r5 r6 r7
    obtain ⟨i, hi, rfl⟩ := v_of (by omega) r8 r9
    rw [if_pos rfl] at hc hd
    obtain ⟨v3, fpc, f2, a2, np3, kf3, z1, z2⟩ := kn_loop (fp := fp1) (fp' := fpm) (rM := rM) h hm hi (n - a1') 0 n (n + 1) a1' p' p' (nI i) kf rK (Nat.le_refl _) r3 (by omega) (by omega) hk
    rw [key _ _ _ _ _ _ _ z1] at hc
    unfold K_X3_readKnows_48 at hc
    rcases hE : S_X3_endClause f2 n fpc a2 b1 with ⟨x, y, z⟩
    rw [hE] at hc
    dsimp only at hc
    unfold K_X3_readKnows_103 at hc
    simp only [Prod.mk.injEq] at hc
    obtain ⟨c1, c2, c3, c4, c5, c6, c7⟩ := hc
    subst c1 c2 c3 c4 c5 c6 c7
    rcases z2 with ⟨y1, y2, y3, y4, w1, w2, w3, w4, w5, w6⟩ | ⟨y1, y2, w1, w2, w3, w4, w5⟩
    · subst y1 y2
      have hd2 : K_X7_takeKnows_37 rM w1 0 fpm a2 w2 w3 w4 = (f, rM2, a3, nA2, num2, fp3, rK2) := by
        rcases w6 with u | u
        · rw [← hd]
          exact (congrArg (outEB (fun a => K_X7_takeKnows_37 rM a.1 a.2.1 a.2.2.1 a.2.2.2.1 a.2.2.2.2.1 a.2.2.2.2.2.1 a.2.2.2.2.2.2)) u).symm
        · rw [← hd]
          exact (congrArg (outEB (fun a => K_X7_takeKnows_37 rM a.1 a.2.1 a.2.2.1 a.2.2.2.1 a.2.2.2.2.1 a.2.2.2.2.2.1 a.2.2.2.2.2.2)) u).symm
      unfold K_X7_takeKnows_37 at hd2
      simp only [Prod.mk.injEq] at hd2
      obtain ⟨d1, d2, d3, d4, d5, d6, d7⟩ := hd2
      subst d1 d2 d3 d4 d5 d6 d7
      exact Or.inl ⟨rfl, rfl, rfl, rfl, w5, by omega, y4, rfl, hE⟩
    · have hd2 : (f2, rM + 1, w1, w2, w3, fpc, w4) = (f, rM2, a3, nA2, num2, fp3, rK2) := by
        rw [← hd]
        exact (congrArg (outEB (fun a => K_X7_takeKnows_37 rM a.1 a.2.1 a.2.2.1 a.2.2.2.1 a.2.2.2.2.1 a.2.2.2.2.2.1 a.2.2.2.2.2.2)) w5).symm
      simp only [Prod.mk.injEq] at hd2
      obtain ⟨d1, d2, d3, d4, d5, d6, d7⟩ := hd2
      subst d1 d2 d3 d4 d5 d6 d7
      rw [end_bad y1] at hE
      simp only [Prod.mk.injEq] at hE
      exact Or.inr ⟨y1, y2, hE.2.1.symm, hE.2.2⟩
  · rw [if_neg (f12 b).1] at hc hd
    rw [key _ _ _ _ _ _ _ (kc_stop n 0)] at hc
    unfold K_X3_readKnows_48 at hc
    rw [end_bad (f12 b).1] at hc
    dsimp only at hc
    unfold K_X3_readKnows_103 at hc
    simp only [Prod.mk.injEq] at hc
    obtain ⟨c1, c2, c3, c4, c5, c6, c7⟩ := hc
    subst c1 c2 c3 c4 c5 c6 c7
    have hd2 : K_X7_takeKnows_37 rM 0 g fpm a1' num1 p' rK = (f, rM2, a3, nA2, num2, fp3, rK2) := by
      rcases km_stop (n := n) (men := men) (tx := tx) (r := num1) (rM := rM) (X := (g, fpm, a1', num1, p', rK)) (n + 1) with u | u
      · rw [← hd]
        exact (congrArg (outEB (fun a => K_X7_takeKnows_37 rM a.1 a.2.1 a.2.2.1 a.2.2.2.1 a.2.2.2.2.1 a.2.2.2.2.2.1 a.2.2.2.2.2.2)) u).symm
      · rw [← hd]
        exact (congrArg (outEB (fun a => K_X7_takeKnows_37 rM a.1 a.2.1 a.2.2.1 a.2.2.2.1 a.2.2.2.2.1 a.2.2.2.2.2.1 a.2.2.2.2.2.2)) u).symm
    unfold K_X7_takeKnows_37 at hd2
    simp only [Prod.mk.injEq] at hd2
    obtain ⟨d1, d2, d3, d4, d5, d6, d7⟩ := hd2
    subst d1 d2 d3 d4 d5 d6 d7
    exact Or.inr ⟨(f12 b).1, (f12 b).2, rfl, b2⟩
