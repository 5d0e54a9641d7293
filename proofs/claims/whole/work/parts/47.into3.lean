

set_option maxHeartbeats 4000000 in
theorem readInto_ok {o_length : Nat} {o_numberPlace : Nat} {o_bytes : Nat → Int32} {x1_forgets : Nat → Int32} {x1_weight : Nat → Int32} {x1_chance : Nat → Int32} {x1_knowsAtFirst : Nat → Int32} {x1_oxWeight : Nat → Int32} {x1_oxPrice : Nat → Int32} {c0 : Int32} {c1 : Int32} {c2 : Nat} {c3 : Nat} {c4 : Nat} {c5 : Nat} {c6 : Int32} {c7 : Int32} {c8 : Int32} {c9 : Int32} {c10 : Int32} {c11 : Nat} {c12 : Nat → Int32} {c13 : Nat → Int32} {c14 : Nat → Int32} {c15 : Nat → Int32} {c16 : Nat → Int32} {c17 : Nat → Int32} (hu : S_X3_readInto o_length o_numberPlace o_bytes x1_forgets x1_weight x1_chance x1_knowsAtFirst x1_oxWeight x1_oxPrice = (c0, c1, c2, c3, c4, c5, c6, c7, c8, c9, c10, c11, c12, c13, c14, c15, c16, c17)) (hlen : o_length ≤ 500) : c2 ≤ 5 ∧ c3 ≤ 6 ∧ c4 ≤ 5 ∧ c5 ≤ o_length := by
  unfold S_X3_readInto at hu
  have hu : K_X3_readInto_1 o_length o_numberPlace o_bytes x1_forgets x1_weight x1_chance x1_knowsAtFirst x1_oxWeight x1_oxPrice 10 0 0 0 = _ := hu
  unfold K_X3_readInto_1 at hu
  have hsk := skip_ok (o_length := o_length) (o_at := 0) (o_bytes := o_bytes) rfl (Nat.zero_le _)
  generalize S_X3_skipBlanks o_length o_bytes 0 = sk at hu hsk
  have hu : K_X3_readInto_35 10 0 0 0 o_length o_numberPlace o_bytes x1_forgets x1_weight x1_chance x1_knowsAtFirst x1_oxWeight x1_oxPrice sk = _ := hu
  unfold K_X3_readInto_35 at hu
  rcases iterE_ind (b := (fun k a => B_X3_readInto_40 o_length o_bytes k a.1 a.2.1 a.2.2.1 a.2.2.2.1 a.2.2.2.2.1 a.2.2.2.2.2.1 a.2.2.2.2.2.2.1 a.2.2.2.2.2.2.2.1 a.2.2.2.2.2.2.2.2.1 a.2.2.2.2.2.2.2.2.2.1 a.2.2.2.2.2.2.2.2.2.2.1 a.2.2.2.2.2.2.2.2.2.2.2.1 a.2.2.2.2.2.2.2.2.2.2.2.2.1 a.2.2.2.2.2.2.2.2.2.2.2.2.2.1 a.2.2.2.2.2.2.2.2.2.2.2.2.2.2.1 a.2.2.2.2.2.2.2.2.2.2.2.2.2.2.2.1 a.2.2.2.2.2.2.2.2.2.2.2.2.2.2.2.2)) (N := o_length) (fun _ (a : Int32 × Nat × Nat × Nat × Nat × Int32 × Int32 × Nat × Int32 × Int32 × Int32 × (Nat → Int32) × (Nat → Int32) × (Nat → Int32) × (Nat → Int32) × (Nat → Int32) × (Nat → Int32)) => a.2.1 ≤ 5 ∧ a.2.2.1 ≤ 6 ∧ a.2.2.2.1 ≤ 5 ∧ a.2.2.2.2.1 ≤ o_length) (fun (a : Int32 × Nat × Nat × Nat × Nat × Int32 × Int32 × Nat × Int32 × Int32 × Int32 × (Nat → Int32) × (Nat → Int32) × (Nat → Int32) × (Nat → Int32) × (Nat → Int32) × (Nat → Int32)) => a.2.1 ≤ 5 ∧ a.2.2.1 ≤ 6 ∧ a.2.2.2.1 ≤ 5 ∧ a.2.2.2.2.1 ≤ o_length) (fun k a a' hk hp hb => by
    obtain ⟨a0, a1, a2, a3, a4, a5, a6, a7, a8, a9, a10, a11, a12, a13, a14, a15, a16⟩ := a
    have hb : B_X3_readInto_40 o_length o_bytes k a0 a1 a2 a3 a4 a5 a6 a7 a8 a9 a10 a11 a12 a13 a14 a15 a16 = .inl a' := hb
    unfold B_X3_readInto_40 at hb
    obtain ⟨p1, p2, p3, p4⟩ := hp
    rcases ite_or hb with ⟨c_1, hb⟩ | ⟨c_1, hb⟩
    · cases hb
    · rcases ite_or hb with ⟨c_2, hb⟩ | ⟨c_2, hb⟩
      · skip
        generalize hc : S_X3_readClause a4 o_length a5 a6 a7 a8 a9 a10 o_bytes a0 a1 a2 a3 a11 a12 a13 a14 a15 a16 = u at hb
        obtain ⟨u0, u1, u2, u3, u4, u5, u6, u7, u8, u9, u10, u11, u12, u13, u14, u15, u16⟩ := u
        obtain ⟨q1, q2, q3, q4, q5⟩ := readClause_ok hc hlen p4 p1 p2 p3
        have hb : K_X3_readInto_68 o_length o_bytes u0 u1 u2 u3 u4 u5 u6 u7 u8 u9 u10 u11 u12 u13 u14 u15 u16 = _ := hb
        unfold K_X3_readInto_68 at hb
        have hs := skip_ok (o_length := o_length) (o_at := u0) (o_bytes := o_bytes) rfl q2
        generalize S_X3_skipBlanks o_length o_bytes u0 = s0 at hb hs
        have hb : K_X3_readInto_72 u1 u2 u3 u4 u5 u6 u7 u8 u9 u10 u11 u12 u13 u14 u15 u16 s0 = _ := hb
        unfold K_X3_readInto_72 at hb
        cases hb
        exact ⟨q3, q4, q5, hs.2⟩
      · cases hb) (fun k a r hk hp hb => by
    obtain ⟨a0, a1, a2, a3, a4, a5, a6, a7, a8, a9, a10, a11, a12, a13, a14, a15, a16⟩ := a
    have hb : B_X3_readInto_40 o_length o_bytes k a0 a1 a2 a3 a4 a5 a6 a7 a8 a9 a10 a11 a12 a13 a14 a15 a16 = .inr r := hb
    unfold B_X3_readInto_40 at hb
    obtain ⟨p1, p2, p3, p4⟩ := hp
    rcases ite_or hb with ⟨c_1, hb⟩ | ⟨c_1, hb⟩
    · cases hb
      exact ⟨p1, p2, p3, p4⟩
    · rcases ite_or hb with ⟨c_2, hb⟩ | ⟨c_2, hb⟩
      · skip
        generalize hc : S_X3_readClause a4 o_length a5 a6 a7 a8 a9 a10 o_bytes a0 a1 a2 a3 a11 a12 a13 a14 a15 a16 = u at hb
        obtain ⟨u0, u1, u2, u3, u4, u5, u6, u7, u8, u9, u10, u11, u12, u13, u14, u15, u16⟩ := u
        obtain ⟨q1, q2, q3, q4, q5⟩ := readClause_ok hc hlen p4 p1 p2 p3
        have hb : K_X3_readInto_68 o_length o_bytes u0 u1 u2 u3 u4 u5 u6 u7 u8 u9 u10 u11 u12 u13 u14 u15 u16 = _ := hb
        unfold K_X3_readInto_68 at hb
        have hs := skip_ok (o_length := o_length) (o_at := u0) (o_bytes := o_bytes) rfl q2
        generalize S_X3_skipBlanks o_length o_bytes u0 = s0 at hb hs
        have hb : K_X3_readInto_72 u1 u2 u3 u4 u5 u6 u7 u8 u9 u10 u11 u12 u13 u14 u15 u16 s0 = _ := hb
        unfold K_X3_readInto_72 at hb
        cases hb
      · cases hb
        exact ⟨p1, p2, p3, p4⟩) o_length 0 ((10 : Int32), 0, 0, 0, sk, (-1 : Int32), (0 : Int32), o_numberPlace, (0 : Int32), (0 : Int32), (0 : Int32), x1_forgets, x1_weight, x1_chance, x1_knowsAtFirst, x1_oxWeight, x1_oxPrice) (by omega) (show 0 ≤ 5 ∧ 0 ≤ 6 ∧ 0 ≤ 5 ∧ sk ≤ o_length from ⟨by omega, by omega, by omega, hsk.2⟩) with ⟨a, e, h⟩ | ⟨a, e, h⟩
  · rw [e] at hu
    have hu : K_X3_readInto_40 a.1 a.2.1 a.2.2.1 a.2.2.2.1 a.2.2.2.2.1 a.2.2.2.2.2.1 a.2.2.2.2.2.2.1 a.2.2.2.2.2.2.2.1 a.2.2.2.2.2.2.2.2.1 a.2.2.2.2.2.2.2.2.2.1 a.2.2.2.2.2.2.2.2.2.2.1 a.2.2.2.2.2.2.2.2.2.2.2.1 a.2.2.2.2.2.2.2.2.2.2.2.2.1 a.2.2.2.2.2.2.2.2.2.2.2.2.2.1 a.2.2.2.2.2.2.2.2.2.2.2.2.2.2.1 a.2.2.2.2.2.2.2.2.2.2.2.2.2.2.2.1 a.2.2.2.2.2.2.2.2.2.2.2.2.2.2.2.2 = _ := hu
    unfold K_X3_readInto_40 at hu
    cases hu
    exact h
  · rw [e] at hu
    have hu : K_X3_readInto_40 a.1 a.2.1 a.2.2.1 a.2.2.2.1 a.2.2.2.2.1 a.2.2.2.2.2.1 a.2.2.2.2.2.2.1 a.2.2.2.2.2.2.2.1 a.2.2.2.2.2.2.2.2.1 a.2.2.2.2.2.2.2.2.2.1 a.2.2.2.2.2.2.2.2.2.2.1 a.2.2.2.2.2.2.2.2.2.2.2.1 a.2.2.2.2.2.2.2.2.2.2.2.2.1 a.2.2.2.2.2.2.2.2.2.2.2.2.2.1 a.2.2.2.2.2.2.2.2.2.2.2.2.2.2.1 a.2.2.2.2.2.2.2.2.2.2.2.2.2.2.2.1 a.2.2.2.2.2.2.2.2.2.2.2.2.2.2.2.2 = _ := hu
    unfold K_X3_readInto_40 at hu
    cases hu
    exact h
