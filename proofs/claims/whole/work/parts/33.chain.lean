
theorem takeYear_ok {o_texted : Nat} {o_faultPlace : Int32} {o_at0 : Nat} {o_number : Int32} {o_numberAt : Nat} {o_text : Nat → Int32} {c0 : Int32} {c1 : Nat} {c2 : Nat} {c3 : Int32} {c4 : Int32} {c5 : Int32} (hu : S_X7_takeYear o_texted o_faultPlace o_at0 o_number o_numberAt o_text = (c0, c1, c2, c3, c4, c5)) (h : o_at0 ≤ o_texted) : o_at0 ≤ c1 ∧ c1 ≤ o_texted := by
  unfold S_X7_takeYear at hu
  generalize hq : S_X7_takeNumber (1 : Int32) (99 : Int32) o_texted o_faultPlace o_at0 o_number o_numberAt o_text = q at hu
  obtain ⟨q0, q1, q2, q3, q4⟩ := q
  have hu : K_X7_takeYear_4 q0 q1 q2 q3 q4 = _ := hu
  unfold K_X7_takeYear_4 at hu
  cases hu
  exact takeNumber_ok hq h

theorem takeBridge_ok {o_readBridges : Nat} {o_texted : Nat} {o_faultPlace : Int32} {o_at0 : Nat} {o_number : Int32} {o_numberAt : Nat} {o_text : Nat → Int32} {o_readForgets : Nat → Int32} {c0 : Int32} {c1 : Nat} {c2 : Nat} {c3 : Nat} {c4 : Int32} {c5 : Int32} {c6 : Nat → Int32} (hu : S_X7_takeBridge o_readBridges o_texted o_faultPlace o_at0 o_number o_numberAt o_text o_readForgets = (c0, c1, c2, c3, c4, c5, c6)) (h : o_at0 ≤ o_texted) : o_at0 ≤ c2 ∧ c2 ≤ o_texted ∧ c1 = o_readBridges + 1 := by
  unfold S_X7_takeBridge at hu
  generalize hq : S_X7_into5 ((o_readBridges + 1) - 1) (0 : Int32) (9 : Int32) o_texted o_faultPlace o_at0 o_number o_numberAt o_text o_readForgets = q at hu
  obtain ⟨q0, q1, q2, q3, q4, q5⟩ := q
  have hu : K_X7_takeBridge_24 o_readBridges q0 q1 q2 q3 q4 q5 = _ := hu
  unfold K_X7_takeBridge_24 at hu
  cases hu
  exact ⟨(into5_ok hq h).1, (into5_ok hq h).2, rfl⟩

theorem takeMan_ok {o_readMen : Nat} {o_texted : Nat} {o_faultPlace : Int32} {o_at0 : Nat} {o_number : Int32} {o_numberAt : Nat} {o_readKnows : Nat → Int32} {o_text : Nat → Int32} {o_readWeight : Nat → Int32} {o_readComes : Nat → Int32} {c0 : Int32} {c1 : Nat} {c2 : Nat → Int32} {c3 : Nat} {c4 : Nat} {c5 : Int32} {c6 : Int32} {c7 : Nat → Int32} {c8 : Nat → Int32} (hu : S_X7_takeMan o_readMen o_texted o_faultPlace o_at0 o_number o_numberAt o_readKnows o_text o_readWeight o_readComes = (c0, c1, c2, c3, c4, c5, c6, c7, c8)) (h : o_at0 ≤ o_texted) : o_at0 ≤ c3 ∧ c3 ≤ o_texted ∧ c1 = o_readMen + 1 := by
  unfold S_X7_takeMan at hu
  generalize hq : S_X7_into6 o_readMen (1 : Int32) (999 : Int32) o_texted o_faultPlace o_at0 o_number o_numberAt o_text o_readWeight = q at hu
  obtain ⟨q0, q1, q2, q3, q4, q5⟩ := q
  have t1 := into6_ok hq h
  have hu : K_X7_takeMan_32 o_readMen o_texted o_readKnows o_text o_readComes q0 q1 q2 q3 q4 q5 = _ := hu
  unfold K_X7_takeMan_32 at hu
  split at hu
  · generalize hw : S_X7_into6 o_readMen (0 : Int32) (100 : Int32) o_texted q4 q1 q3 q2 o_text o_readComes = w at hu
    obtain ⟨w0, w1, w2, w3, w4, w5⟩ := w
    have t2 := into6_ok hw t1.2
    have hu : K_X7_takeMan_53 o_readMen o_readKnows q5 w0 w1 w2 w3 w4 w5 = _ := hu
    unfold K_X7_takeMan_53 at hu
    cases hu
    exact ⟨Nat.le_trans t1.1 t2.1, t2.2, rfl⟩
  · cases hu
    exact ⟨t1.1, t1.2, rfl⟩

theorem takeOx_ok {o_readOxen : Nat} {o_texted : Nat} {o_faultPlace : Int32} {o_at0 : Nat} {o_number : Int32} {o_numberAt : Nat} {o_text : Nat → Int32} {o_readOx : Nat → Int32} {o_readPrice : Nat → Int32} {c0 : Int32} {c1 : Nat} {c2 : Nat} {c3 : Nat} {c4 : Int32} {c5 : Int32} {c6 : Nat → Int32} {c7 : Nat → Int32} (hu : S_X7_takeOx o_readOxen o_texted o_faultPlace o_at0 o_number o_numberAt o_text o_readOx o_readPrice = (c0, c1, c2, c3, c4, c5, c6, c7)) (h : o_at0 ≤ o_texted) : o_at0 ≤ c2 ∧ c2 ≤ o_texted ∧ c1 = o_readOxen + 1 := by
  unfold S_X7_takeOx at hu
  generalize hq : S_X7_into5 o_readOxen (1 : Int32) (999 : Int32) o_texted o_faultPlace o_at0 o_number o_numberAt o_text o_readOx = q at hu
  obtain ⟨q0, q1, q2, q3, q4, q5⟩ := q
  have t1 := into5_ok hq h
  have hu : K_X7_takeOx_25 o_readOxen o_texted o_text o_readPrice q0 q1 q2 q3 q4 q5 = _ := hu
  unfold K_X7_takeOx_25 at hu
  split at hu
  · generalize hw : S_X7_into5 o_readOxen (0 : Int32) (999 : Int32) o_texted q4 q1 q3 q2 o_text o_readPrice = w at hu
    obtain ⟨w0, w1, w2, w3, w4, w5⟩ := w
    have t2 := into5_ok hw t1.2
    have hu : K_X7_takeOx_47 o_readOxen q5 w0 w1 w2 w3 w4 w5 = _ := hu
    unfold K_X7_takeOx_47 at hu
    cases hu
    exact ⟨Nat.le_trans t1.1 t2.1, t2.2, rfl⟩
  · cases hu
    exact ⟨t1.1, t1.2, rfl⟩

theorem takeKnows_p {o_readMany : Int32} {o_texted : Nat} {o_faultPlace : Int32} {o_at0 : Nat} {o_number : Int32} {o_numberAt : Nat} {o_readMen : Nat} {o_text : Nat → Int32} {o_readKnows : Nat → Int32} (h : o_at0 ≤ o_texted) : o_at0 ≤ (S_X7_takeKnows o_readMany o_texted o_faultPlace o_at0 o_number o_numberAt o_readMen o_text o_readKnows).2.2.1 ∧ (S_X7_takeKnows o_readMany o_texted o_faultPlace o_at0 o_number o_numberAt o_readMen o_text o_readKnows).2.2.1 ≤ o_texted := by
  have t1 := takeNumber_p (x1 := (0 : Int32)) (x2 := (nI o_readMen) - (1 : Int32)) (o_faultPlace := o_faultPlace) (o_number := o_number) (o_numberAt := o_numberAt) (o_text := o_text) h
  simp only [S_X7_takeKnows]
  generalize S_X7_takeNumber (0 : Int32) ((nI o_readMen) - (1 : Int32)) o_texted o_faultPlace o_at0 o_number o_numberAt o_text = q at t1
  obtain ⟨q1, q2, q3, q4, q5⟩ := q
  simp only at t1 ⊢
  have key : ∀ v0, q2 ≤ (outEB (fun a => K_X7_takeKnows_37 o_readMany a.1 a.2.1 a.2.2.1 a.2.2.2.1 a.2.2.2.2.1 a.2.2.2.2.2.1 a.2.2.2.2.2.2) (iterW (fun a => B_X7_takeKnows_37 o_readMany o_texted o_readMen o_text q4 a.1 a.2.1 a.2.2.1 a.2.2.2.1 a.2.2.2.2.1 a.2.2.2.2.2.1 a.2.2.2.2.2.2) (o_texted + 1) (v0, q1, q5, q2, q4, q3, o_readKnows))).2.2.1 ∧ (outEB (fun a => K_X7_takeKnows_37 o_readMany a.1 a.2.1 a.2.2.1 a.2.2.2.1 a.2.2.2.2.1 a.2.2.2.2.2.1 a.2.2.2.2.2.2) (iterW (fun a => B_X7_takeKnows_37 o_readMany o_texted o_readMen o_text q4 a.1 a.2.1 a.2.2.1 a.2.2.2.1 a.2.2.2.2.1 a.2.2.2.2.2.1 a.2.2.2.2.2.2) (o_texted + 1) (v0, q1, q5, q2, q4, q3, o_readKnows))).2.2.1 ≤ o_texted := by
    intro v0
    rcases iterW_ind (b := fun (a : Int32 × Int32 × Int32 × Nat × Int32 × Nat × (Nat → Int32)) => B_X7_takeKnows_37 o_readMany o_texted o_readMen o_text q4 a.1 a.2.1 a.2.2.1 a.2.2.2.1 a.2.2.2.2.1 a.2.2.2.2.2.1 a.2.2.2.2.2.2) (fun a => q2 ≤ a.2.2.2.1 ∧ a.2.2.2.1 ≤ o_texted) (fun r => (∀ a, r = .inl a → q2 ≤ a.2.2.2.1 ∧ a.2.2.2.1 ≤ o_texted) ∧ (∀ t, r = .inr t → q2 ≤ t.2.2.1 ∧ t.2.2.1 ≤ o_texted)) (fun a a' hp e => by
        obtain ⟨a1, a2, a3, a4, a5, a6, a7⟩ := a
        simp only [B_X7_takeKnows_37, K_X7_takeKnows_49, K_X7_takeKnows_89, K_X7_takeKnows_109, S_X7_fails] at e hp
        have t2 := takeNumber_p (x1 := (0 : Int32)) (x2 := (nI o_readMen) - (1 : Int32)) (o_faultPlace := a3) (o_number := a5) (o_numberAt := a6) (o_text := o_text) hp.2
        generalize S_X7_takeNumber (0 : Int32) ((nI o_readMen) - (1 : Int32)) o_texted a3 a4 a5 a6 o_text = p at t2 e
        have t3 := here_p (o_text := o_text) t2.2
        have t4 : ∀ r a, S_X7_here o_texted o_text p.2.1 = (r, a) → ¬ r = (-1 : Int32) → a < o_texted ∧ r = o_text a := fun r a => here_lt
        generalize S_X7_here o_texted o_text p.2.1 = w at t3 t4 e
        obtain ⟨w1, w2⟩ := w
        have t4 := t4 w1 w2 rfl
        simp only at t3 e
        (repeat' split at e) <;> cases e
        · rename_i hw
          have := (t4 (fun z => absurd (z.symm.trans hw) (by decide))).1
          exact ⟨by show q2 ≤ w2 + 1; omega, by show w2 + 1 ≤ o_texted; omega⟩
        · exact ⟨by show q2 ≤ w2 + 0; omega, by show w2 + 0 ≤ o_texted; omega⟩) (fun a r hp e => by
        obtain ⟨a1, a2, a3, a4, a5, a6, a7⟩ := a
        simp only [B_X7_takeKnows_37, K_X7_takeKnows_49, K_X7_takeKnows_89, K_X7_takeKnows_109, S_X7_fails] at e hp
        have t2 := takeNumber_p (x1 := (0 : Int32)) (x2 := (nI o_readMen) - (1 : Int32)) (o_faultPlace := a3) (o_number := a5) (o_numberAt := a6) (o_text := o_text) hp.2
        generalize S_X7_takeNumber (0 : Int32) ((nI o_readMen) - (1 : Int32)) o_texted a3 a4 a5 a6 o_text = p at t2 e
        have hp2 : q2 ≤ p.2.1 ∧ p.2.1 ≤ o_texted := ⟨by omega, t2.2⟩
        (repeat' split at e) <;> cases e
        · exact ⟨fun a ha => by cases ha; exact hp, fun t ht => by cases ht⟩
        · exact ⟨fun a ha => (by cases ha), fun t ht => by cases ht; exact hp2⟩
        · exact ⟨fun a ha => (by cases ha), fun t ht => by cases ht; exact hp2⟩
        · exact ⟨fun a ha => (by cases ha), fun t ht => by cases ht; exact hp2⟩) (o_texted + 1) (v0, q1, q5, q2, q4, q3, o_readKnows) ⟨Nat.le_refl _, t1.2⟩ with ⟨a, e, hp⟩ | ⟨r, e, hp⟩
    · rw [e]; exact hp
    · rw [e]
      cases r with
      | inl a => exact hp.1 a rfl
      | inr t => exact hp.2 t rfl
  have k1 := key 1
  have k0 := key 0
  unfold K_X7_takeKnows_18
  split
  · exact ⟨Nat.le_trans t1.1 k1.1, k1.2⟩
  · exact ⟨Nat.le_trans t1.1 k0.1, k0.2⟩
theorem takeKnows_ok {o_readMany : Int32} {o_texted : Nat} {o_faultPlace : Int32} {o_at0 : Nat} {o_number : Int32} {o_numberAt : Nat} {o_readMen : Nat} {o_text : Nat → Int32} {o_readKnows : Nat → Int32} {c0 : Int32} {c1 : Int32} {c2 : Nat} {c3 : Nat} {c4 : Int32} {c5 : Int32} {c6 : Nat → Int32} (hu : S_X7_takeKnows o_readMany o_texted o_faultPlace o_at0 o_number o_numberAt o_readMen o_text o_readKnows = (c0, c1, c2, c3, c4, c5, c6)) (h : o_at0 ≤ o_texted) : o_at0 ≤ c2 ∧ c2 ≤ o_texted := by
  have := takeKnows_p (o_readMany := o_readMany) (o_texted := o_texted) (o_faultPlace := o_faultPlace) (o_at0 := o_at0) (o_number := o_number) (o_numberAt := o_numberAt) (o_readMen := o_readMen) (o_text := o_text) (o_readKnows := o_readKnows) h
  rw [hu] at this
  exact this
