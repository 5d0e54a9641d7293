/-! class and reference: the rows -/
theorem iterE_first {b : Nat → Unit → Unit ⊕ Int32} {t : Nat} {r : Int32} {f : Unit → Int32} (h1 : ∀ j, j < t → b j () = .inl ()) (h2 : b t () = .inr r) : ∀ n k, k ≤ t → t < k + n → outE f (iterE b n k ()) = r := by
  intro n
  induction n with
  | zero => intro k a c; omega
  | succ n ih =>
    intro k a c
    show outE f (stepE (iterE b n (k + 1)) (b k ())) = r
    by_cases e : k = t
    · subst e
      rw [h2]
      rfl
    · rw [h1 k (by omega)]
      exact ih (k + 1) (by omega) (by omega)
theorem iterE_none {b : Nat → Unit → Unit ⊕ Int32} {f : Unit → Int32} : ∀ n k, (∀ j, k ≤ j → j < k + n → b j () = .inl ()) → outE f (iterE b n k ()) = f () := by
  intro n
  induction n with
  | zero => intro k _; rfl
  | succ n ih =>
    intro k h
    show outE f (stepE (iterE b n (k + 1)) (b k ())) = f ()
    rw [h k (Nat.le_refl k) (by omega)]
    exact ih (k + 1) (fun j a c => h j (by omega) (by omega))
section ROWS
variable {N br men ox b : Nat} {yr : Int32} {fg wt ch ow op fg' wt' ch' ow' op' : Nat → Int32} {lv dy lv' dy' : Int32} {kn ov nb li al kn' ov' nb' li' al' : Nat → Int32} {aa ao tr : Int32} {hp : Nat → Int32}
theorem next_eq {v : Int32} {t : Nat} (h : CP2 b br men ox N yr lv dy fg wt ch ow op fg' wt' ch' ow' op' kn ov nb li al kn' ov' nb' li' al' aa ao tr hp) (hv : SBn men v) (hsub : ∀ j, bq v j = true → bq aa j = true) (ht : t < men) (h1 : ¬ S_X7_has v (nI t) = 0) (h2 : ¬ (S_X7_isSupported b t ((v &&& (((1 : Int32) <<< ((nI t) &&& 31)) ^^^ (-1 : Int32)))) yr men lv dy al' wt' kn' ov' li' fg') = 0) (h3 : ¬ (S_X7_isWhole b ((v &&& (((1 : Int32) <<< ((nI t) &&& 31)) ^^^ (-1 : Int32)))) men yr lv dy al' wt' kn' ov' li' fg') = 0) (h4 : ∀ j, j < t → (S_X7_has v (nI j) = 0 ∨ (S_X7_isSupported b j ((v &&& (((1 : Int32) <<< ((nI j) &&& 31)) ^^^ (-1 : Int32)))) yr men lv dy al' wt' kn' ov' li' fg') = 0 ∨ (S_X7_isWhole b ((v &&& (((1 : Int32) <<< ((nI j) &&& 31)) ^^^ (-1 : Int32)))) men yr lv dy al' wt' kn' ov' li' fg') = 0)) : S_X5_nextInLine v men ao hp = nI t := by
  have hm : men ≤ 6 := h.1.2.1
  have hb : ∀ j, B_X5_nextInLine_2 v men ao hp j = (if S_X6_has v (nI j) = 0 then (.inl ()) else (if (S_X5_passes j ((v &&& (((1 : Int32) <<< ((nI j) &&& 31)) ^^^ (-1 : Int32)))) ao hp) = 0 then (.inl ()) else (if (S_X5_passing ((v &&& (((1 : Int32) <<< ((nI j) &&& 31)) ^^^ (-1 : Int32)))) men ao hp) = (v &&& (((1 : Int32) <<< ((nI j) &&& 31)) ^^^ (-1 : Int32))) then (.inr (nI j)) else (.inl ())))) := fun j => rfl
  have hw1 : ∀ j, j < men → SBn men (v &&& (((1 : Int32) <<< ((nI j) &&& 31)) ^^^ (-1 : Int32))) := fun j hj => hv.and
  have hw2 : ∀ j, j < men → ∀ i, bq (v &&& (((1 : Int32) <<< ((nI j) &&& 31)) ^^^ (-1 : Int32))) i = true → bq aa i = true := fun j hj i hi => by
    by_cases l : i < 32
    · rw [bq_wo (by omega) l, Bool.and_eq_true] at hi
      exact hsub i hi.1
    · rw [bq_hi _ (by omega)] at hi; cases hi
  have hin : ∀ j, j < men → ¬ S_X7_has v (nI j) = 0 → bq aa j = true := fun j hj z => hsub j (tf.mpr (fun y => z ((hz7 (by omega)).mpr y)))
  show outE (fun _ => K_X5_nextInLine_2) (iterE (fun k _ => B_X5_nextInLine_2 v men ao hp k) men 0 ()) = nI t
  refine iterE_first (b := fun k _ => B_X5_nextInLine_2 v men ao hp k) (fun j hj => ?_) ?_ men 0 (Nat.zero_le t) (by omega)
  · show B_X5_nextInLine_2 v men ao hp j = _
    rw [hb, has67 _ (by omega)]
    by_cases c : S_X7_has v (nI j) = 0
    · rw [if_pos c]
    · rw [if_neg c, ← sup_eq h (show j < men by omega) (hin j (by omega) c)]
      rcases h4 j hj with z | z | z
      · exact absurd z c
      · rw [if_pos z]
      · by_cases d : (S_X7_isSupported b j ((v &&& (((1 : Int32) <<< ((nI j) &&& 31)) ^^^ (-1 : Int32)))) yr men lv dy al' wt' kn' ov' li' fg') = 0
        · rw [if_pos d]
        · rw [if_neg d, if_neg]
          exact fun y => (whole_iff h (hw1 j (by omega)) (hw2 j (by omega))).mpr y z
  · show B_X5_nextInLine_2 v men ao hp t = _
    rw [hb, has67 _ (by omega), if_neg h1, ← sup_eq h ht (hin t ht h1), if_neg h2, if_pos ((whole_iff h (hw1 t ht) (hw2 t ht)).mp h3)]
/-- whom one names, those of S being behind him -/
def NameOK (men : Nat) (alone : Prop) (hpt : Int32) (S : Nat → Prop) (r : Int32) : Prop := (alone ∧ r = -1) ∨ (¬ alone ∧ FirstOf men (fun u => bq hpt u = true ∧ S u) r)
theorem names_a {k t : Nat} {rest : Int32} {names : Nat → Int32} (h : CP2 b br men ox N yr lv dy fg wt ch ow op fg' wt' ch' ow' op' kn ov nb li al kn' ov' nb' li' al' aa ao tr hp) (ht : t < men) : (∀ i, ¬ i = k → iterD (fun j a => B_X7_findRow_116 b men lv dy ov' wt' kn' li' fg' rest t k j a) men (upd names k (-1 : Int32)) i = names i) ∧ FirstOf men (fun u => bq (hp t) u = true ∧ bq rest u = true) (iterD (fun j a => B_X7_findRow_116 b men lv dy ov' wt' kn' li' fg' rest t k j a) men (upd names k (-1 : Int32)) k) := by
  have hm : men ≤ 6 := h.1.2.1
  have key := iterD_ind (b := fun j (a : Nat → Int32) => B_X7_findRow_116 b men lv dy ov' wt' kn' li' fg' rest t k j a) (N := men) (fun j f => (∀ i, ¬ i = k → f i = names i) ∧ ((f k = -1 ∧ ∀ u, j ≤ u → u < men → ¬ (bq (hp t) u = true ∧ bq rest u = true)) ∨ ∃ u, j ≤ u ∧ u < men ∧ f k = nI u ∧ (bq (hp t) u = true ∧ bq rest u = true) ∧ ∀ q, j ≤ q → q < u → ¬ (bq (hp t) q = true ∧ bq rest q = true))) (fun j f hj hp2 => by
    obtain ⟨p1, p2⟩ := hp2
    show (∀ i, ¬ i = k → B_X7_findRow_116 b men lv dy ov' wt' kn' li' fg' rest t k j f i = names i) ∧ ((B_X7_findRow_116 b men lv dy ov' wt' kn' li' fg' rest t k j f k = -1 ∧ _) ∨ ∃ u, j ≤ u ∧ u < men ∧ B_X7_findRow_116 b men lv dy ov' wt' kn' li' fg' rest t k j f k = nI u ∧ _)
    unfold B_X7_findRow_116
    rw [sup_and h ht]
    have hz := hz7 (s := (hp t) &&& rest) (show j < 31 by omega)
    rw [bq_and] at hz
    by_cases c : (bq (hp t) j && bq rest j) = false
    · rw [if_pos (hz.mpr c), upd_self]
      have hno : ¬ (bq (hp t) j = true ∧ bq rest j = true) := fun z => by rw [z.1, z.2] at c; cases c
      refine ⟨p1, ?_⟩
      rcases p2 with ⟨a, y⟩ | ⟨u, h1, h2, h3, h4, h5⟩
      · exact Or.inl ⟨a, fun u hu hu2 => if e : u = j then by rw [e]; exact hno else y u (by omega) hu2⟩
      · exact Or.inr ⟨u, by omega, h2, h3, h4, fun q hq hq2 => if e : q = j then by rw [e]; exact hno else h5 q (by omega) hq2⟩
    · rw [if_neg (fun z => c (hz.mp z))]
      refine ⟨fun i hi => by rw [pk_un hi]; exact p1 i hi, Or.inr ⟨j, Nat.le_refl j, hj, pk_us, ?_, fun q h1 h2 => by omega⟩⟩
      have := tf.mpr c
      rw [Bool.and_eq_true] at this
      exact this) men (upd names k (-1 : Int32)) (Nat.le_refl men) ⟨fun i hi => pk_un hi, Or.inl ⟨pk_us, fun u h1 h2 => by omega⟩⟩
  refine ⟨key.1, ?_⟩
  rcases key.2 with ⟨a, c⟩ | ⟨u, _, h2, h3, h4, h5⟩
  · exact Or.inl ⟨a, fun i hi => c i (Nat.zero_le i) hi⟩
  · exact Or.inr ⟨u, h2, h3, h4, fun j hj => h5 j (Nat.zero_le j) hj⟩
theorem names_c {k : Nat} {names : Nat → Int32} (hm : men ≤ 6) : (∀ i, ¬ i = k → iterD (fun j a => B_X7_findRow_116_1 k j a) men (upd names k (-1 : Int32)) i = names i) ∧ iterD (fun j a => B_X7_findRow_116_1 k j a) men (upd names k (-1 : Int32)) k = -1 := by
  have key := iterD_ind (b := fun j (a : Nat → Int32) => B_X7_findRow_116_1 k j a) (N := men) (fun j f => (∀ i, ¬ i = k → f i = names i) ∧ f k = -1) (fun j f hj hp2 => by
    show (∀ i, ¬ i = k → B_X7_findRow_116_1 k j f i = names i) ∧ B_X7_findRow_116_1 k j f k = -1
    unfold B_X7_findRow_116_1
    rw [if_pos ((hz7 (by omega)).mpr (bq_0 j)), upd_self]
    exact hp2) men (upd names k (-1 : Int32)) (Nat.le_refl men) ⟨fun i hi => pk_un hi, pk_us⟩
  exact key
theorem rows_rel (h : CP2 b br men ox N yr lv dy fg wt ch ow op fg' wt' ch' ow' op' kn ov nb li al kn' ov' nb' li' al' aa ao tr hp) : ∀ m left k line order names n fuel, sz6 left ≤ m → m < fuel → m ≤ n → SBn men left → (∀ j, bq left j = true → bq aa j = true) → (S_X5_passing left men ao hp) = left → k + m ≤ 6 →
    ∃ l2 c line' l3 order' names', (iterE (fun k (a : Int32 × Nat × (Nat → Int32)) => B_X5_lineUp_17 men ao hp k a.1 a.2.1 a.2.2) n k (left, k, line) = .inl (l2, c, line') ∨ iterE (fun k (a : Int32 × Nat × (Nat → Int32)) => B_X5_lineUp_17 men ao hp k a.1 a.2.1 a.2.2) n k (left, k, line) = .inr (l2, c, line')) ∧
      (iterW (fun (a : Nat × Int32 × (Nat → Int32) × (Nat → Int32)) => B_X7_findRow_8 b yr men lv dy ov' al' wt' kn' li' fg' a.1 a.2.1 a.2.2.1 a.2.2.2) fuel (k, left, order, names) = .inl (c, l3, order', names') ∨ iterW (fun (a : Nat × Int32 × (Nat → Int32) × (Nat → Int32)) => B_X7_findRow_8 b yr men lv dy ov' al' wt' kn' li' fg' a.1 a.2.1 a.2.2.1 a.2.2.2) fuel (k, left, order, names) = .inr (c, l3, order', names')) ∧
      k ≤ c ∧ c ≤ 6 ∧ (∀ i, i < k → line' i = line i ∧ order' i = order i ∧ names' i = names i) ∧ (∀ i, k ≤ i → i < c → RN men (line' i) ∧ order' i = line' i ∧ NameOK men (¬ (S_X0_goesAlone b ((line' i).toNatClampNeg) wt yr men lv dy al) = 0) (hp (line' i).toNatClampNeg) (fun u => ∃ q, i < q ∧ q < c ∧ line' q = nI u) (names' i)) ∧ (∀ x, x < 32 → (bq left x = true ↔ ∃ i, k ≤ i ∧ i < c ∧ line' i = nI x)) := by
  have hm : men ≤ 6 := h.1.2.1
  intro m
  induction m with
  | zero =>
    intro left k line order names n fuel hs hf hn hv hsub hfix hk
    have h0 : left = 0 := Classical.byContradiction (fun q => by
      have : ∃ t, bq left t = true := Classical.byContradiction (fun y => q (bq_ext (fun j _ => by rw [bq_0]; exact Bool.eq_false_iff.mpr (fun z => y ⟨j, z⟩))))
      obtain ⟨t, z⟩ := this
      have ht : t < men := by
        rcases Nat.lt_or_ge t men with q | q
        · exact q
        · rw [hv t q] at z; cases z
      have := sz6_lt (v := left) (w := 0) (fun j hj => by rw [bq_0] at hj; cases hj) (by omega) z (bq_0 t)
      omega)
    subst h0
    refine ⟨0, k, line, 0, order, names, ?_, ?_, Nat.le_refl k, by omega, fun i hi => ⟨rfl, rfl, rfl⟩, fun i h1 h2 => by omega, fun x hx => ?_⟩
    · cases n with
      | zero => exact Or.inl rfl
      | succ n => exact Or.inr rfl
    · cases fuel with
      | zero => omega
      | succ fuel => exact Or.inr rfl
    · rw [bq_0]; exact ⟨fun z => absurd z (by decide), fun ⟨i, h1, h2, _⟩ => by omega⟩
  | succ m ih =>
    intro left k line order names n fuel hs hf hn hv hsub hfix hk
    by_cases h0 : left = 0
    · subst h0
      refine ⟨0, k, line, 0, order, names, ?_, ?_, Nat.le_refl k, by omega, fun i hi => ⟨rfl, rfl, rfl⟩, fun i h1 h2 => by omega, fun x hx => ?_⟩
      · cases n with
        | zero => exact Or.inl rfl
        | succ n => exact Or.inr rfl
      · cases fuel with
        | zero => omega
        | succ fuel => exact Or.inr rfl
      · rw [bq_0]; exact ⟨fun z => absurd z (by decide), fun ⟨i, h1, h2, _⟩ => by omega⟩
    · obtain ⟨⟨r1, r2⟩, r3⟩ : RN 64 left ∧ left.toNatClampNeg < 2 ^ men := hv.nat hm
      obtain ⟨⟨rest, t⟩, s1, s2, s3, s4, s5, s6, s7⟩ := row_step (x1 := b) (o_men := men) (o_year := yr) (o_alive := lv) (o_day := dy) (o_aloneYear := al') (o_weight := wt') (o_knows := kn') (o_over := ov') (o_lieDay := li') (o_forgets := fg') (v := left) hm ⟨r1, r2⟩ r3 ((whole_iff h hv hsub).mpr hfix) h0
      have s2 : rest = (left &&& (((1 : Int32) <<< ((nI t) &&& 31)) ^^^ (-1 : Int32))) := s2
      have s3 : t < men := s3
      have s4 : ¬ S_X7_has left (nI t) = 0 := s4
      subst s2
      have s5 : ¬ (S_X7_isSupported b t ((left &&& (((1 : Int32) <<< ((nI t) &&& 31)) ^^^ (-1 : Int32)))) yr men lv dy al' wt' kn' ov' li' fg') = 0 := s5
      have s6 : ¬ (S_X7_isWhole b ((left &&& (((1 : Int32) <<< ((nI t) &&& 31)) ^^^ (-1 : Int32)))) men yr lv dy al' wt' kn' ov' li' fg') = 0 := s6
      have hnx := next_eq h hv hsub s3 s4 s5 s6 s7
      have hbt : bq left t = true := tf.mpr (fun y => s4 ((hz7 (by omega)).mpr y))
      have hv2 : SBn men (left &&& (((1 : Int32) <<< ((nI t) &&& 31)) ^^^ (-1 : Int32))) := hv.and
      have hsub1 : ∀ i, bq (left &&& (((1 : Int32) <<< ((nI t) &&& 31)) ^^^ (-1 : Int32))) i = true → bq left i = true := fun i hi => by
        by_cases l : i < 32
        · rw [bq_wo (by omega) l, Bool.and_eq_true] at hi
          exact hi.1
        · rw [bq_hi _ (by omega)] at hi; cases hi
      have hsub2 : ∀ i, bq (left &&& (((1 : Int32) <<< ((nI t) &&& 31)) ^^^ (-1 : Int32))) i = true → bq aa i = true := fun i hi => hsub i (hsub1 i hi)
      have hfix2 := (whole_iff h hv2 hsub2).mp s6
      have hlt : sz6 (left &&& (((1 : Int32) <<< ((nI t) &&& 31)) ^^^ (-1 : Int32))) < sz6 left := sz6_lt hsub1 (show t < 6 by omega) hbt (by rw [bq_wo (by omega) (by omega), decide_eq_true rfl, Bool.not_true, Bool.and_false])
      have hga := alone_t h s3
      cases n with
      | zero => omega
      | succ n =>
        cases fuel with
        | zero => omega
        | succ fuel =>
          have hN : ∃ nm : Nat → Int32, (∀ i, ¬ i = k → nm i = names i) ∧ NameOK men (¬ (S_X0_goesAlone b t wt yr men lv dy al) = 0) (hp t) (fun u => bq (left &&& (((1 : Int32) <<< ((nI t) &&& 31)) ^^^ (-1 : Int32))) u = true) (nm k) ∧ B_X7_findRow_8 b yr men lv dy ov' al' wt' kn' li' fg' k left order names = .inl (k + 1, (left &&& (((1 : Int32) <<< ((nI t) &&& 31)) ^^^ (-1 : Int32))), upd order k (nI t), nm) := by
            have hB : B_X7_findRow_8 b yr men lv dy ov' al' wt' kn' li' fg' k left order names = K_X7_findRow_21 b yr men lv dy ov' al' wt' kn' li' fg' k order names (left &&& (((1 : Int32) <<< ((nI t) &&& 31)) ^^^ (-1 : Int32))) t := by
              unfold B_X7_findRow_8
              rw [if_neg h0, s1]
              rfl
            rw [hB]
            unfold K_X7_findRow_21
            rw [hga]
            by_cases c : (S_X0_goesAlone b t wt yr men lv dy al) = 0
            · rw [if_pos c]
              have hn := names_a (k := k) (rest := (left &&& (((1 : Int32) <<< ((nI t) &&& 31)) ^^^ (-1 : Int32)))) (names := names) h s3
              exact ⟨_, hn.1, Or.inr ⟨fun z => z c, hn.2⟩, rfl⟩
            · rw [if_neg c]
              have hn := names_c (k := k) (names := names) hm
              exact ⟨_, hn.1, Or.inl ⟨c, hn.2⟩, rfl⟩
          obtain ⟨nm, n1, n2, n3⟩ := hN
          obtain ⟨l2, c, line', l3, order', names', i1, i2, i3, i4, i5, i6, i7⟩ := ih (left &&& (((1 : Int32) <<< ((nI t) &&& 31)) ^^^ (-1 : Int32))) (k + 1) (upd line k (nI t)) (upd order k (nI t)) nm n fuel (by omega) (by omega) (by omega) hv2 hsub2 hfix2 (by omega)
          have hA : B_X5_lineUp_17 men ao hp k left k line = .inl ((left &&& (((1 : Int32) <<< ((nI t) &&& 31)) ^^^ (-1 : Int32))), k + 1, upd line k (nI t)) := by
            unfold B_X5_lineUp_17
            rw [hnx, if_neg h0, if_neg (nI_nm1 (by omega))]
            rfl
          have e1 : iterE (fun k (a : Int32 × Nat × (Nat → Int32)) => B_X5_lineUp_17 men ao hp k a.1 a.2.1 a.2.2) (n + 1) k (left, k, line) = iterE (fun k (a : Int32 × Nat × (Nat → Int32)) => B_X5_lineUp_17 men ao hp k a.1 a.2.1 a.2.2) n (k + 1) ((left &&& (((1 : Int32) <<< ((nI t) &&& 31)) ^^^ (-1 : Int32))), k + 1, upd line k (nI t)) := by
            show stepE _ (B_X5_lineUp_17 men ao hp k left k line) = _
            rw [hA]
            rfl
          have e2 : iterW (fun (a : Nat × Int32 × (Nat → Int32) × (Nat → Int32)) => B_X7_findRow_8 b yr men lv dy ov' al' wt' kn' li' fg' a.1 a.2.1 a.2.2.1 a.2.2.2) (fuel + 1) (k, left, order, names) = iterW (fun (a : Nat × Int32 × (Nat → Int32) × (Nat → Int32)) => B_X7_findRow_8 b yr men lv dy ov' al' wt' kn' li' fg' a.1 a.2.1 a.2.2.1 a.2.2.2) fuel (k + 1, (left &&& (((1 : Int32) <<< ((nI t) &&& 31)) ^^^ (-1 : Int32))), upd order k (nI t), nm) := by
            show stepE _ (B_X7_findRow_8 b yr men lv dy ov' al' wt' kn' li' fg' k left order names) = _
            rw [n3]
            rfl
          have hlk : line' k = nI t := by rw [(i5 k (by omega)).1]; exact pk_us
          have hok : order' k = nI t := by rw [(i5 k (by omega)).2.1]; exact pk_us
          have hnk : names' k = nm k := (i5 k (by omega)).2.2
          refine ⟨l2, c, line', l3, order', names', by rw [e1]; exact i1, by rw [e2]; exact i2, by omega, i4, fun i hi => ?_, fun i g1 g2 => ?_, fun x hx => ?_⟩
          · obtain ⟨a1, a2, a3⟩ := i5 i (by omega)
            rw [a1, a2, a3, pk_un (by omega), pk_un (by omega), n1 i (by omega)]
            exact ⟨rfl, rfl, rfl⟩
          · by_cases e : i = k
            · subst e
              rw [hlk, hok, hnk, nI_clamp (by omega)]
              refine ⟨RN.nat s3 (by omega), rfl, ?_⟩
              have hS : ∀ u, u < 32 → (bq (left &&& (((1 : Int32) <<< ((nI t) &&& 31)) ^^^ (-1 : Int32))) u = true ↔ ∃ q, i < q ∧ q < c ∧ line' q = nI u) := fun u hu => (i7 u hu).trans ⟨fun ⟨q, a, y, z⟩ => ⟨q, by omega, y, z⟩, fun ⟨q, a, y, z⟩ => ⟨q, by omega, y, z⟩⟩
              rcases n2 with ⟨a, y⟩ | ⟨a, y⟩
              · exact Or.inl ⟨a, y⟩
              · refine Or.inr ⟨a, ?_⟩
                rcases y with ⟨y, z⟩ | ⟨u, y1, y2, y3, y4⟩
                · exact Or.inl ⟨y, fun u hu w => z u hu ⟨w.1, (hS u (by omega)).mpr w.2⟩⟩
                · exact Or.inr ⟨u, y1, y2, ⟨y3.1, (hS u (by omega)).mp y3.2⟩, fun j hj w => y4 j hj ⟨w.1, (hS j (by omega)).mpr w.2⟩⟩
            · exact i6 i (by omega) g2
          · constructor
            · intro z
              by_cases e : x = t
              · subst e; exact ⟨k, Nat.le_refl k, by omega, hlk⟩
              · have : bq (left &&& (((1 : Int32) <<< ((nI t) &&& 31)) ^^^ (-1 : Int32))) x = true := by rw [bq_wo (by omega) hx, z, decide_eq_false e]; rfl
                obtain ⟨i, a, y, w⟩ := (i7 x hx).mp this
                exact ⟨i, by omega, y, w⟩
            · rintro ⟨i, a, y, w⟩
              by_cases e : i = k
              · subst e
                rw [hlk] at w
                have := (nI_eq (by omega) (by omega)).mp w
                rw [← this]
                exact hbt
              · exact hsub1 x ((i7 x hx).mpr ⟨i, by omega, y, w⟩)
end ROWS
