/-! the law's loop -/
theorem and31 (x : Int32) : ∃ k, k < 32 ∧ x &&& (31 : Int32) = nI k := by
  refine ⟨(x &&& (31 : Int32)).toBitVec.toNat, ?_, ?_⟩
  · rw [Int32.toBitVec_and, BitVec.toNat_and]
    exact Nat.lt_of_le_of_lt Nat.and_le_right (by decide)
  · apply Int32.toBitVec_inj.mp
    show _ = BitVec.ofNat 32 _
    rw [BitVec.ofNat_toNat, BitVec.setWidth_eq]
theorem len_gt {L i : Nat} (hL : L ≤ 256) (hi : i ≤ L) (h : ¬ ((Int32.ofNat L) - (4 : Int32)) < nI i) : i + 4 ≤ L := by
  rw [Int32.lt_iff_toInt_lt, nI_toInt (by omega), show ((Int32.ofNat L) - (4 : Int32)).toInt = (L : Int) - 4 from pk_sub_toInt (a := L) (b := 4) (by omega) (by decide)] at h
  omega
set_option maxHeartbeats 4000000 in
theorem law_loop {p : Program} {e : Env} {s : State} {m : MethodId} {below : List Frame} {meth : Method} {c : Code} {l : Launch} {sb L : Nat} {xs : Nat → Int32} {a g adK adV : Nat → Nat} {D : va_G} {tB tI tZ : ClassId} (E : EE p m c cL_law 4 s #[Value.ref sb] RL D (tyL tB tI tZ)) (hZ : SK adK adV (fun q => s.heap.size ≤ q) s s.heap) (hX : va_X sb L xs s s.heap) (hbl : sb < s.heap.size) (hL : L ≤ 256) (hr : meth.sig.returnType = ret) (hlocks : meth.locks = false) :
    ∀ (n i : Nat) (C : CS) (M : MS) (H : Heap) (locs : List Loc) (ls : Array Slot), i ≤ L → L + 1 ≤ n + i → Inv (25 * i) C M → va_P D vwCl (CW tB tI a C ++ MW tI tZ g M) H → va_D (fun q => s.heap.size ≤ q) (CW tB tI a C ++ MW tI tZ g M) → va_S (fun q => s.heap.size ≤ q) s.heap H locs → lv_has ls 4 [(3, .int (nI i)), (2, .ref (g 0)), (1, .ref (a 0)), (0, .ref sb)] →
      W p l e room_1 s m #[Value.ref sb] below meth c H locs 73 2072 (lw_Z below #[Value.ref sb] s) (F0 m 18 ls []) := by
  obtain ⟨⟨hx, hb, hml, hown, hts⟩, hK⟩ := id E
  have hA : ∀ q : Nat, s.heap.size ≤ q → (fun q : Nat => s.heap.size ≤ q) q := fun _ h => h
  have hbA : ¬ (fun q : Nat => s.heap.size ≤ q) sb := Nat.not_le.mpr hbl
  intro n
  induction n with
  | zero =>
    intro i C M H locs ls h1 h2
    exact absurd h2 (by omega)
  | succ n ih =>
    intro i C M H locs ls h1 h2 hI hP hD hS hl
    refine lv_iload_n hx hb dL_law_18 rfl (lv_at hl 0 rfl) ?_
    refine lv_aload_n hx hb dL_law_19 rfl (lv_at hl 3 rfl) ?_
    refine va_slen hx hb hX hbl hbA hS dL_law_20 ?_
    refine lv_iconst (v := (4 : Int32)) hx hb dL_law_21 (by decide) ?_
    refine lv_isub hx hb dL_law_22 ?_
    refine lv_icmp_gt (tgt := 972) hx hb dL_law_23 (by decide) (fun cg => ?_) (fun cg => ?_)
    · refine lv_iconst (v := 1) hx hb dL_law_972 (by decide) ?_
      refine va_forget (fun q hq => hS.2.2 q hq) ?_
      refine W.widen (k := 73) (n := 2072) (Nat.le_refl 73) (Nat.le_refl 2072) ?_
      exact lw_ret hx hb hr hlocks dL_law_973
    · have hi := len_gt hL h1 cg
      have hN : 25 * i ≤ 8900 := by omega
      have back : ∀ (H : Heap) (locs : List Loc) (ls : Array Slot) (C' : CS) (M' : MS), va_P D vwCl (CW tB tI a C' ++ MW tI tZ g M') H → va_D (fun q => s.heap.size ≤ q) (CW tB tI a C' ++ MW tI tZ g M') → va_S (fun q => s.heap.size ≤ q) s.heap H locs → lv_has ls 4 [(3, .int (nI i)), (2, .ref (g 0)), (1, .ref (a 0)), (0, .ref sb)] → Inv (25 * i + 100) C' M' → W p l e room_1 s m #[Value.ref sb] below meth c H locs 73 2072 (lw_Z below #[Value.ref sb] s) (F0 m 966 ls []) := by
        intro H locs ls C' M' hP hD hS hl hI
        refine lv_iinc (v := nI (i + 4)) (lv' := [(3, .int (nI (i + 4))), (2, .ref (g 0)), (1, .ref (a 0)), (0, .ref sb)]) hx hb dL_law_966 hl (k := 0) rfl (by rw [show Int32.ofInt 4 = nI 4 by decide]; exact nI_add i 4) (by decide) rfl (fun ls hl => ?_)
        refine lv_goto (tgt := 18) hx hb dL_law_969 (by decide) ?_
        exact ih (i + 4) C' M' H locs ls (by omega) (by omega) (by rw [show 25 * (i + 4) = 25 * i + 100 by omega]; exact hI) hP hD hS hl
      refine lv_aload_n hx hb dL_law_26 rfl (lv_at hl 3 rfl) ?_
      refine lv_iload_n hx hb dL_law_27 rfl (lv_at hl 0 rfl) ?_
      refine va_sld hx hb hX hbl hbA hS (vp_in_nI (show i < L by omega) (by omega)) dL_law_28 ?_
      refine lv_bipush (v := (31 : Int32)) hx hb dL_law_29 (by decide) ?_
      refine lv_iand hx hb dL_law_31 ?_
      obtain ⟨k, hk, ek⟩ := and31 (xs (nI i).toNatClampNeg)
      refine lv_is ek ?_
      rcases (show k = 0 ∨ k = 1 ∨ k = 2 ∨ k = 3 ∨ k = 4 ∨ k = 5 ∨ k = 6 ∨ k = 7 ∨ k = 8 ∨ k = 9 ∨ k = 10 ∨ k = 11 ∨ k = 12 ∨ k = 13 ∨ k = 14 ∨ k = 15 ∨ k = 16 ∨ k = 17 ∨ k = 18 ∨ k = 19 ∨ k = 20 ∨ k = 21 ∨ k = 22 ∨ k = 23 ∨ k = 24 ∨ k = 25 ∨ k = 26 ∨ k = 27 ∨ k = 28 ∨ k = 29 ∨ k = 30 ∨ k = 31 by omega) with rfl | rfl | rfl | rfl | rfl | rfl | rfl | rfl | rfl | rfl | rfl | rfl | rfl | rfl | rfl | rfl | rfl | rfl | rfl | rfl | rfl | rfl | rfl | rfl | rfl | rfl | rfl | rfl | rfl | rfl | rfl | rfl
      · refine lv_tableIn (tgt := 160) hx hb dL_law_32 (by decide) (by decide) rfl (by decide) ?_
        exact arm_feed E hZ hA hX hbl hbA hL hi hN hl hP hD hS hI back
      · refine lv_tableIn (tgt := 223) hx hb dL_law_32 (by decide) (by decide) rfl (by decide) ?_
        exact arm_hills E hZ hA hX hbl hbA hL hi hN hl hP hD hS hI back
      · refine lv_tableIn (tgt := 236) hx hb dL_law_32 (by decide) (by decide) rfl (by decide) ?_
        exact arm_fault E hZ hA hX hbl hbA hL hi hN hl hP hD hS hI back
      · refine lv_tableIn (tgt := 249) hx hb dL_law_32 (by decide) (by decide) rfl (by decide) ?_
        exact arm_told E hZ hA hX hbl hbA hL hi hN hl hP hD hS hI back
      · refine lv_tableIn (tgt := 272) hx hb dL_law_32 (by decide) (by decide) rfl (by decide) ?_
        exact arm_bridge E hZ hA hX hbl hbA hL hi hN hl hP hD hS hI back
      · refine lv_tableIn (tgt := 305) hx hb dL_law_32 (by decide) (by decide) rfl (by decide) ?_
        exact arm_man E hZ hA hX hbl hbA hL hi hN hl hP hD hS hI back
      · refine lv_tableIn (tgt := 338) hx hb dL_law_32 (by decide) (by decide) rfl (by decide) ?_
        exact arm_ox E hZ hA hX hbl hbA hL hi hN hl hP hD hS hI back
      · refine lv_tableIn (tgt := 371) hx hb dL_law_32 (by decide) (by decide) rfl (by decide) ?_
        exact arm_named E hZ hA hX hbl hbA hL hi hN hl hP hD hS hI back
      · refine lv_tableIn (tgt := 404) hx hb dL_law_32 (by decide) (by decide) rfl (by decide) ?_
        exact arm_cross E hZ hA hX hbl hbA hL hi hN hl hP hD hS hI back
      · refine lv_tableIn (tgt := 447) hx hb dL_law_32 (by decide) (by decide) rfl (by decide) ?_
        exact arm_evening E hZ hA hX hbl hbA hL hi hN hl hP hD hS hI back
      · refine lv_tableIn (tgt := 460) hx hb dL_law_32 (by decide) (by decide) rfl (by decide) ?_
        exact arm_know E hZ hA hX hbl hbA hL hi hN hl hP hD hS hI back
      · refine lv_tableIn (tgt := 519) hx hb dL_law_32 (by decide) (by decide) rfl (by decide) ?_
        exact arm_drift E hZ hA hX hbl hbA hL hi hN hl hP hD hS hI back
      · refine lv_tableIn (tgt := 542) hx hb dL_law_32 (by decide) (by decide) rfl (by decide) ?_
        exact arm_most E hZ hA hX hbl hbA hL hi hN hl hP hD hS hI back
      · refine lv_tableIn (tgt := 575) hx hb dL_law_32 (by decide) (by decide) rfl (by decide) ?_
        exact arm_names E hZ hA hX hbl hbA hL hi hN hl hP hD hS hI back
      · refine lv_tableIn (tgt := 608) hx hb dL_law_32 (by decide) (by decide) rfl (by decide) ?_
        exact arm_tellings E hZ hA hX hbl hbA hL hi hN hl hP hD hS hI back
      · refine lv_tableIn (tgt := 631) hx hb dL_law_32 (by decide) (by decide) rfl (by decide) ?_
        exact arm_hired E hZ hA hX hbl hbA hL hi hN hl hP hD hS hI back
      · refine lv_tableIn (tgt := 664) hx hb dL_law_32 (by decide) (by decide) rfl (by decide) ?_
        exact arm_found E hZ hA hX hbl hbA hL hi hN hl hP hD hS hI back
      · refine lv_tableIn (tgt := 687) hx hb dL_law_32 (by decide) (by decide) rfl (by decide) ?_
        exact arm_whom E hZ hA hX hbl hbA hL hi hN hl hP hD hS hI back
      · refine lv_tableIn (tgt := 720) hx hb dL_law_32 (by decide) (by decide) rfl (by decide) ?_
        exact arm_see E hZ hA hX hbl hbA hL hi hN hl hP hD hS hI back
      · refine lv_tableIn (tgt := 779) hx hb dL_law_32 (by decide) (by decide) rfl (by decide) ?_
        exact arm_orders E hZ hA hX hbl hbA hL hi hN hl hP hD hS hI back
      · refine lv_tableIn (tgt := 792) hx hb dL_law_32 (by decide) (by decide) rfl (by decide) ?_
        exact arm_heavier E hZ hA hX hbl hbA hL hi hN hl hP hD hS hI back
      · refine lv_tableIn (tgt := 815) hx hb dL_law_32 (by decide) (by decide) rfl (by decide) ?_
        exact arm_row E hZ hA hX hbl hbA hL hi hN hl hP hD hS hI back
      · refine lv_tableIn (tgt := 848) hx hb dL_law_32 (by decide) (by decide) rfl (by decide) ?_
        exact arm_odds E hZ hA hX hbl hbA hL hi hN hl hP hD hS hI back
      · refine lv_tableIn (tgt := 861) hx hb dL_law_32 (by decide) (by decide) rfl (by decide) ?_
        exact arm_wrong E hZ hA hX hbl hbA hL hi hN hl hP hD hS hI back
      · refine lv_tableIn (tgt := 884) hx hb dL_law_32 (by decide) (by decide) rfl (by decide) ?_
        exact arm_tear E hZ hA hX hbl hbA hL hi hN hl hP hD hS hI back
      · refine lv_tableIn (tgt := 897) hx hb dL_law_32 (by decide) (by decide) rfl (by decide) ?_
        exact arm_seed E hZ hA hX hbl hbA hL hi hN hl hP hD hS hI back
      · refine lv_tableIn (tgt := 920) hx hb dL_law_32 (by decide) (by decide) rfl (by decide) ?_
        exact arm_keep E hZ hA hX hbl hbA hL hi hN hl hP hD hS hI back
      · refine lv_tableIn (tgt := 943) hx hb dL_law_32 (by decide) (by decide) rfl (by decide) ?_
        exact arm_goBack E hZ hA hX hbl hbA hL hi hN hl hP hD hS hI back
      · refine lv_tableOut (tgt := 966) hx hb dL_law_32 (by decide) (by decide) ?_
        exact back _ _ _ _ _ hP hD hS hl ⟨hI.jl, hI.yr, hI.br, hI.men, hI.ox, hI.jd.up (by omega), hI.sd, hI.sd0, hI.jt, hI.tn, hI.fp, hI.js, hI.st, hI.jq, hI.rm, hI.ji.up (by omega)⟩
      · refine lv_tableOut (tgt := 966) hx hb dL_law_32 (by decide) (by decide) ?_
        exact back _ _ _ _ _ hP hD hS hl ⟨hI.jl, hI.yr, hI.br, hI.men, hI.ox, hI.jd.up (by omega), hI.sd, hI.sd0, hI.jt, hI.tn, hI.fp, hI.js, hI.st, hI.jq, hI.rm, hI.ji.up (by omega)⟩
      · refine lv_tableOut (tgt := 966) hx hb dL_law_32 (by decide) (by decide) ?_
        exact back _ _ _ _ _ hP hD hS hl ⟨hI.jl, hI.yr, hI.br, hI.men, hI.ox, hI.jd.up (by omega), hI.sd, hI.sd0, hI.jt, hI.tn, hI.fp, hI.js, hI.st, hI.jq, hI.rm, hI.ji.up (by omega)⟩
      · refine lv_tableOut (tgt := 966) hx hb dL_law_32 (by decide) (by decide) ?_
        exact back _ _ _ _ _ hP hD hS hl ⟨hI.jl, hI.yr, hI.br, hI.men, hI.ox, hI.jd.up (by omega), hI.sd, hI.sd0, hI.jt, hI.tn, hI.fp, hI.js, hI.st, hI.jq, hI.rm, hI.ji.up (by omega)⟩
