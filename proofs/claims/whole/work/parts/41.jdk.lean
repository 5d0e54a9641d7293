abbrev yJL : MethodName := ⟨"java/lang/String", "length", "()I"⟩
theorem dJL_0 : decode prog_11_method_54_code 0 = .ok (.aload_n 0, 1) := by decide +kernel
theorem dJL_1 : decode prog_11_method_54_code 1 = .ok (.getfield 9, 3) := by decide +kernel
theorem dJL_4 : decode prog_11_method_54_code 4 = .ok (.arraylength, 1) := by decide +kernel
theorem dJL_5 : decode prog_11_method_54_code 5 = .ok (.aload_n 0, 1) := by decide +kernel
theorem dJL_6 : decode prog_11_method_54_code 6 = .ok (.invokevirtual 335, 3) := by decide +kernel
theorem dJL_9 : decode prog_11_method_54_code 9 = .ok (.ishr, 1) := by decide +kernel
theorem dJL_10 : decode prog_11_method_54_code 10 = .ok (.ireturn, 1) := by decide +kernel
abbrev yJC : MethodName := ⟨"java/lang/String", "coder", "()B"⟩
theorem dJC_0 : decode prog_11_method_152_code 0 = .ok (.getstatic 38, 3) := by decide +kernel
theorem dJC_3 : decode prog_11_method_152_code 3 = .ok (.ifCond .eq 10, 3) := by decide +kernel
theorem dJC_6 : decode prog_11_method_152_code 6 = .ok (.aload_n 0, 1) := by decide +kernel
theorem dJC_7 : decode prog_11_method_152_code 7 = .ok (.getfield 15, 3) := by decide +kernel
theorem dJC_10 : decode prog_11_method_152_code 10 = .ok (.goto 4, 3) := by decide +kernel
theorem dJC_14 : decode prog_11_method_152_code 14 = .ok (.ireturn, 1) := by decide +kernel
abbrev yJA : MethodName := ⟨"java/lang/String", "charAt", "(I)C"⟩
theorem dJA_0 : decode prog_11_method_56_code 0 = .ok (.aload_n 0, 1) := by decide +kernel
theorem dJA_1 : decode prog_11_method_56_code 1 = .ok (.invokevirtual 492, 3) := by decide +kernel
theorem dJA_4 : decode prog_11_method_56_code 4 = .ok (.ifCond .eq 12, 3) := by decide +kernel
theorem dJA_7 : decode prog_11_method_56_code 7 = .ok (.aload_n 0, 1) := by decide +kernel
theorem dJA_8 : decode prog_11_method_56_code 8 = .ok (.getfield 9, 3) := by decide +kernel
theorem dJA_11 : decode prog_11_method_56_code 11 = .ok (.iload_n 1, 1) := by decide +kernel
theorem dJA_12 : decode prog_11_method_56_code 12 = .ok (.invokestatic 495, 3) := by decide +kernel
theorem dJA_15 : decode prog_11_method_56_code 15 = .ok (.ireturn, 1) := by decide +kernel
abbrev yJI : MethodName := ⟨"java/lang/String", "isLatin1", "()Z"⟩
theorem dJI_0 : decode prog_11_method_154_code 0 = .ok (.getstatic 38, 3) := by decide +kernel
theorem dJI_3 : decode prog_11_method_154_code 3 = .ok (.ifCond .eq 14, 3) := by decide +kernel
theorem dJI_6 : decode prog_11_method_154_code 6 = .ok (.aload_n 0, 1) := by decide +kernel
theorem dJI_7 : decode prog_11_method_154_code 7 = .ok (.getfield 15, 3) := by decide +kernel
theorem dJI_10 : decode prog_11_method_154_code 10 = .ok (.ifCond .ne 7, 3) := by decide +kernel
theorem dJI_13 : decode prog_11_method_154_code 13 = .ok (.iconst 1, 1) := by decide +kernel
theorem dJI_14 : decode prog_11_method_154_code 14 = .ok (.goto 4, 3) := by decide +kernel
theorem dJI_18 : decode prog_11_method_154_code 18 = .ok (.ireturn, 1) := by decide +kernel
abbrev yJN : MethodName := ⟨"java/lang/StringLatin1", "charAt", "([BI)C"⟩
theorem dJN_0 : decode prog_12_method_2_code 0 = .ok (.iload_n 1, 1) := by decide +kernel
theorem dJN_1 : decode prog_12_method_2_code 1 = .ok (.aload_n 0, 1) := by decide +kernel
theorem dJN_2 : decode prog_12_method_2_code 2 = .ok (.arraylength, 1) := by decide +kernel
theorem dJN_3 : decode prog_12_method_2_code 3 = .ok (.invokestatic 9, 3) := by decide +kernel
theorem dJN_6 : decode prog_12_method_2_code 6 = .ok (.aload_n 0, 1) := by decide +kernel
theorem dJN_7 : decode prog_12_method_2_code 7 = .ok (.iload_n 1, 1) := by decide +kernel
theorem dJN_8 : decode prog_12_method_2_code 8 = .ok (.baload, 1) := by decide +kernel
theorem dJN_9 : decode prog_12_method_2_code 9 = .ok (.sipush 255, 3) := by decide +kernel
theorem dJN_12 : decode prog_12_method_2_code 12 = .ok (.iand, 1) := by decide +kernel
theorem dJN_13 : decode prog_12_method_2_code 13 = .ok (.i2c, 1) := by decide +kernel
theorem dJN_14 : decode prog_12_method_2_code 14 = .ok (.ireturn, 1) := by decide +kernel
abbrev yJK : MethodName := ⟨"java/lang/String", "checkIndex", "(II)V"⟩
theorem dJK_0 : decode prog_11_method_155_code 0 = .ok (.iload_n 0, 1) := by decide +kernel
theorem dJK_1 : decode prog_11_method_155_code 1 = .ok (.iload_n 1, 1) := by decide +kernel
theorem dJK_2 : decode prog_11_method_155_code 2 = .ok (.getstatic 1053, 3) := by decide +kernel
theorem dJK_5 : decode prog_11_method_155_code 5 = .ok (.invokestatic 1059, 3) := by decide +kernel
theorem dJK_8 : decode prog_11_method_155_code 8 = .ok (.pop, 1) := by decide +kernel
theorem dJK_9 : decode prog_11_method_155_code 9 = .ok (.return_, 1) := by decide +kernel
abbrev yJP : MethodName := ⟨"jdk/internal/util/Preconditions", "checkIndex", "(IILjava/util/function/BiFunction;)I"⟩
theorem dJP_0 : decode prog_15_method_11_code 0 = .ok (.iload_n 0, 1) := by decide +kernel
theorem dJP_1 : decode prog_15_method_11_code 1 = .ok (.ifCond .lt 8, 3) := by decide +kernel
theorem dJP_4 : decode prog_15_method_11_code 4 = .ok (.iload_n 0, 1) := by decide +kernel
theorem dJP_5 : decode prog_15_method_11_code 5 = .ok (.iload_n 1, 1) := by decide +kernel
theorem dJP_6 : decode prog_15_method_11_code 6 = .ok (.if_icmp .lt 10, 3) := by decide +kernel
theorem dJP_16 : decode prog_15_method_11_code 16 = .ok (.iload_n 0, 1) := by decide +kernel
theorem dJP_17 : decode prog_15_method_11_code 17 = .ok (.ireturn, 1) := by decide +kernel
theorem wJL : Cond.code yJL prog_11_method_54_code 1 (some .int) ∈ tb := tb_in (i := 373) (by decide +kernel) rfl
theorem wJC : Cond.code yJC prog_11_method_152_code 1 (some .byte) ∈ tb := tb_in (i := 377) (by decide +kernel) rfl
theorem wJA : Cond.code yJA prog_11_method_56_code 2 (some .char) ∈ tb := tb_in (i := 383) (by decide +kernel) rfl
theorem wJI : Cond.code yJI prog_11_method_154_code 1 (some .boolean) ∈ tb := tb_in (i := 387) (by decide +kernel) rfl
theorem wJN : Cond.code yJN prog_12_method_2_code 2 (some .char) ∈ tb := tb_in (i := 390) (by decide +kernel) rfl
theorem wJK : Cond.code yJK prog_11_method_155_code 2 none ∈ tb := tb_in (i := 393) (by decide +kernel) rfl
theorem wJP : Cond.code yJP prog_15_method_11_code 3 (some .int) ∈ tb := tb_in (i := 398) (by decide +kernel) rfl
theorem wJLi : Cond.instanceMethod yJL ∈ tb := tb_in (i := 371) (by decide +kernel) rfl
theorem wJLs : Cond.selects "java/lang/String" yJL yJL ∈ tb := tb_in (i := 372) (by decide +kernel) rfl
theorem wJCi : Cond.instanceMethod yJC ∈ tb := tb_in (i := 375) (by decide +kernel) rfl
theorem wJCs : Cond.selects "java/lang/String" yJC yJC ∈ tb := tb_in (i := 376) (by decide +kernel) rfl
theorem wJAi : Cond.instanceMethod yJA ∈ tb := tb_in (i := 381) (by decide +kernel) rfl
theorem wJAs : Cond.selects "java/lang/String" yJA yJA ∈ tb := tb_in (i := 382) (by decide +kernel) rfl
theorem wJIi : Cond.instanceMethod yJI ∈ tb := tb_in (i := 385) (by decide +kernel) rfl
theorem wJIs : Cond.selects "java/lang/String" yJI yJI ∈ tb := tb_in (i := 386) (by decide +kernel) rfl
theorem wJNs : Cond.static yJN ∈ tb := tb_in (i := 389) (by decide +kernel) rfl
theorem wJKs : Cond.static yJK ∈ tb := tb_in (i := 392) (by decide +kernel) rfl
theorem wJPs : Cond.static yJP ∈ tb := tb_in (i := 397) (by decide +kernel) rfl
theorem wJ0 : Cond.initialized "java/lang/String" ∈ tb := tb_in (i := 73) (by decide +kernel) rfl
theorem wJ1 : Cond.initialized "java/lang/StringLatin1" ∈ tb := tb_in (i := 74) (by decide +kernel) rfl
theorem wJ2 : Cond.initialized "jdk/internal/util/Preconditions" ∈ tb := tb_in (i := 75) (by decide +kernel) rfl
theorem wJfv : Cond.fieldLink "java/lang/String" 9 "java/lang/String" "value" "[B" ∈ tb := tb_in (i := 1290) (by decide +kernel) rfl
theorem wJfc : Cond.fieldLink "java/lang/String" 15 "java/lang/String" "coder" "B" ∈ tb := tb_in (i := 1291) (by decide +kernel) rfl
theorem wJfz : Cond.fieldLink "java/lang/String" 38 "java/lang/String" "COMPACT_STRINGS" "Z" ∈ tb := tb_in (i := 378) (by decide +kernel) rfl
theorem wJff : Cond.fieldLink "java/lang/String" 1053 "jdk/internal/util/Preconditions" "SIOOBE_FORMATTER" "Ljava/util/function/BiFunction;" ∈ tb := tb_in (i := 394) (by decide +kernel) rfl
theorem wJm1 : Cond.methodLink RX3 155 yJL ∈ tb := tb_in (i := 370) (by decide +kernel) rfl
theorem wJm2 : Cond.methodLink "java/lang/String" 335 yJC ∈ tb := tb_in (i := 374) (by decide +kernel) rfl
theorem wJm3 : Cond.methodLink RX3 159 yJA ∈ tb := tb_in (i := 380) (by decide +kernel) rfl
theorem wJm4 : Cond.methodLink "java/lang/String" 492 yJI ∈ tb := tb_in (i := 384) (by decide +kernel) rfl
theorem wJm5 : Cond.methodLink "java/lang/String" 495 yJN ∈ tb := tb_in (i := 388) (by decide +kernel) rfl
theorem wJm6 : Cond.methodLink "java/lang/StringLatin1" 9 yJK ∈ tb := tb_in (i := 391) (by decide +kernel) rfl
theorem wJm7 : Cond.methodLink "java/lang/String" 1059 yJP ∈ tb := tb_in (i := 396) (by decide +kernel) rfl
theorem cvJL : CalV yJL prog_11_method_54_code 1 (some .int) 0 := ⟨wJL, wJ0, wJLi, wJLs, by decide, by decide, by decide⟩
theorem cvJC : CalV yJC prog_11_method_152_code 1 (some .byte) 0 := ⟨wJC, wJ0, wJCi, wJCs, by decide, by decide, by decide⟩
theorem cvJA : CalV yJA prog_11_method_56_code 2 (some .char) 1 := ⟨wJA, wJ0, wJAi, wJAs, by decide, by decide, by decide⟩
theorem cvJI : CalV yJI prog_11_method_154_code 1 (some .boolean) 0 := ⟨wJI, wJ0, wJIi, wJIs, by decide, by decide, by decide⟩
theorem csJN : CalS yJN prog_12_method_2_code 2 (some .char) 2 := ⟨wJN, wJ1, wJNs, by decide, by decide, by decide⟩
theorem csJK : CalS yJK prog_11_method_155_code 2 none 2 := ⟨wJK, wJ0, wJKs, by decide, by decide, by decide⟩
theorem csJP : CalS yJP prog_15_method_11_code 3 (some .int) 3 := ⟨wJP, wJ2, wJPs, by decide, by decide, by decide⟩
theorem sl_le : ∀ i, i < 5 → SL.getD i 0 ≤ 6 := by decide
theorem sb_ok : ∀ i, i < 5 → ∀ j, j < 6 → (((SB.getD i []).getD j 0 &&& (255 : Int32)).toUInt32 % 65536).toInt32 = (SB.getD i []).getD j 0 ∧ narrow .char (.int ((SB.getD i []).getD j 0)) = .int ((SB.getD i []).getD j 0) := by decide +kernel
theorem c_JP (l : Launch) (D : va_G) (tB tI tZ : ClassId) (j n : Nat) (v : Value) (hv : v = .null ∨ ∃ t, v = .ref t) (hj : j < n) (hn : n ≤ 1000) : CT l D (tyL tB tI tZ) yJP (.code yJP prog_15_method_11_code 3 (some .int)) 0 0 [.int (nI j), .int (nI n), v] [] (fun _ : Unit => some (.int (nI j))) (fun _ => []) () := by
  have hc : v.category = 1 := by rcases hv with h | ⟨t, h⟩ <;> rw [h] <;> rfl
  refine CT.intro (k := 0) (by rcases hv with h | ⟨t, h⟩ <;> rw [h] <;> exact Nat.le_of_ble_eq_true rfl) (by decide) ?_
  intro p e s m below meth c Q A ls E hA hP hD hS hl hF
  obtain ⟨⟨hx, hb, hml, hown, hts⟩, hK⟩ := id E
  have hl : lv_has ls 3 [(0, .int (nI j)), (1, .int (nI n)), (2, v)] := hl
  refine lv_iload_n hx hb dJP_0 rfl (lv_at hl 0 rfl) ?_
  refine nz_lt (a := j) (tgt := 9) (by omega) hx hb dJP_1 (by decide) ?_
  refine lv_iload_n hx hb dJP_4 rfl (lv_at hl 0 rfl) ?_
  refine lv_iload_n hx hb dJP_5 rfl (lv_at hl 1 rfl) ?_
  refine ni_lt (a := j) (b := n) (tgt := 16) (by omega) (by omega) hx hb dJP_6 (by decide) (fun _ => ?_) (fun h => absurd hj h)
  refine lv_iload_n hx hb dJP_16 rfl (lv_at hl 0 rfl) ?_
  exact (hF _ _ _ _ hP hS).1 _ rfl ⟨.int, rfl, rfl⟩ dJP_17
theorem c_JK (l : Launch) (adK adV : Nat → Nat) (D : va_G) (tB tI tZ : ClassId) (j n : Nat) (hj : j < n) (hn : n ≤ 1000) : CTZ l adK adV D (tyL tB tI tZ) yJK (.code yJK prog_11_method_155_code 2 none) 1 22 [.int (nI j), .int (nI n)] [] (fun _ : Unit => none) (fun _ => []) () := by
  refine CTZ.intro (k := 0) (Nat.le_of_ble_eq_true rfl) (by decide) ?_
  intro p e s m below meth c Q A ls E hA hP hD hS hZ hl hF
  obtain ⟨⟨hx, hb, hml, hown, hts⟩, hK⟩ := id E
  have hl : lv_has ls 2 [(0, .int (nI j)), (1, .int (nI n))] := hl
  refine lv_iload_n hx hb dJK_0 rfl (lv_at hl 0 rfl) ?_
  refine lv_iload_n hx hb dJK_1 rfl (lv_at hl 1 rfl) ?_
  have key : ∀ v : Value, (v = .null ∨ ∃ t, v = .ref t) → va_Z "jdk/internal/util/Preconditions" "SIOOBE_FORMATTER" "Ljava/util/function/BiFunction;" v A s s.heap → W p l e { frames := 1, cells := 0, slots := 0, locals := 22 } s m _ below meth c s.heap [] 0 0 Q (F0 m 2 ls (.int (nI n) :: .int (nI j) :: [])) := fun v hv hz => by
    refine va_gets hx hb hz hS hown (hts _ wJff) (fun _ h => h) dJK_2 ?_
    refine kcS E hl.1 (c_JP l D tB tI tZ j n v hv hj hn) csJP wJm7 hP hD hS hA [] rfl rfl rfl (ws2 := []) rfl rfl (As := [.int (nI j), .int (nI n), v]) (rest := []) rfl rfl (Nat.le_of_ble_eq_true rfl) ⟨Nat.le_of_ble_eq_true rfl, Nat.le_of_ble_eq_true rfl⟩ ⟨Nat.zero_le _, Nat.zero_le _⟩ dJK_5 (fun H locs hP hD hS => ?_)
    refine lv_pop hx hb dJK_8 rfl ?_
    exact (hF _ _ _ _ hP hS).2.2.2 rfl rfl dJK_9
  rcases hZ.2.2.2 with h | ⟨t, h⟩
  · exact key _ (Or.inl rfl) h
  · exact key _ (Or.inr ⟨t, rfl⟩) h
theorem c_JN (l : Launch) (adK adV : Nat → Nat) (D : va_G) (tB tI tZ : ClassId) (i j : Nat) (hi : i < 5) (hj : j < SL.getD i 0) : CTZ l adK adV D (tyL tB tI tZ) yJN (.code yJN prog_12_method_2_code 2 (some .char)) 2 43 [.ref (adV i), .int (nI j)] [] (fun _ : Unit => some (.int ((SB.getD i []).getD j 0))) (fun _ => []) () := by
  refine CTZ.intro (k := 0) (Nat.le_of_ble_eq_true rfl) (by decide) ?_
  intro p e s m below meth c Q A ls E hA hP hD hS hZ hl hF
  obtain ⟨⟨hx, hb, hml, hown, hts⟩, hK⟩ := id E
  have hl : lv_has ls 2 [(0, .ref (adV i)), (1, .int (nI j))] := hl
  have h6 := sl_le i hi
  obtain ⟨s1, s2⟩ := sb_ok i hi j (by omega)
  refine lv_iload_n hx hb dJN_0 rfl (lv_at hl 1 rfl) ?_
  refine lv_aload_n hx hb dJN_1 rfl (lv_at hl 0 rfl) ?_
  refine va_tlen hx hb (hZ.1.1 i hi).2.2.2 hS (v := nI (SL.getD i 0)) rfl dJN_2 ?_
  refine kcSZ E hZ hl.1 (c_JK l adK adV D tB tI tZ j (SL.getD i 0) hj (by omega)) rfl csJK wJm6 hP hD hS hA (As := [.int (nI j), .int (nI (SL.getD i 0))]) (rest := []) rfl rfl (Nat.le_of_ble_eq_true rfl) ⟨Nat.le_of_ble_eq_true rfl, Nat.le_of_ble_eq_true rfl⟩ ⟨Nat.zero_le _, Nat.zero_le _⟩ dJN_3 (fun H locs hP hD hS => ?_)
  refine lv_aload_n hx hb dJN_6 rfl (lv_at hl 0 rfl) ?_
  refine lv_iload_n hx hb dJN_7 rfl (lv_at hl 1 rfl) ?_
  refine va_tb hx hb (hZ.1.1 i hi).2.2.2 hS (vp_in_nI hj (by omega)) (v := .int ((SB.getD i []).getD j 0)) (by rw [nI_clamp (by omega)]) dJN_8 ?_
  refine lv_sipush (v := (255 : Int32)) hx hb dJN_9 (by decide) ?_
  refine lv_iand hx hb dJN_12 ?_
  refine lv_i2c (v := (SB.getD i []).getD j 0) hx hb dJN_13 s1 ?_
  exact (hF _ _ _ _ hP hS).1 _ rfl ⟨.char, rfl, s2⟩ dJN_14
theorem c_JC (l : Launch) (adK adV : Nat → Nat) (D : va_G) (tB tI tZ : ClassId) (i : Nat) (hi : i < 5) : CTZ l adK adV D (tyL tB tI tZ) yJC (.code yJC prog_11_method_152_code 1 (some .byte)) 0 0 [.ref (adK i)] [] (fun _ : Unit => some (.int (0 : Int32))) (fun _ => []) () := by
  refine CTZ.intro (k := 0) (Nat.le_of_ble_eq_true rfl) (by decide) ?_
  intro p e s m below meth c Q A ls E hA hP hD hS hZ hl hF
  obtain ⟨⟨hx, hb, hml, hown, hts⟩, hK⟩ := id E
  have hl : lv_has ls 1 [(0, .ref (adK i))] := hl
  refine va_gets hx hb hZ.2.2.1 hS hown (hts _ wJfz) (fun _ h => h) dJC_0 ?_
  refine lv_if_eq (tgt := 13) hx hb dJC_3 (by decide) (fun h => absurd h (by decide)) (fun _ => ?_)
  refine lv_aload_n hx hb dJC_6 rfl (lv_at hl 0 rfl) ?_
  refine vk_getf hx hb (hZ.1.1 i hi).2.1 hS hown (hts _ wJfc) (fun _ h => h) dJC_7 ?_
  refine lv_goto (tgt := 14) hx hb dJC_10 (by decide) ?_
  exact (hF _ _ _ _ hP hS).1 _ rfl ⟨.byte, rfl, rfl⟩ dJC_14
theorem c_JI (l : Launch) (adK adV : Nat → Nat) (D : va_G) (tB tI tZ : ClassId) (i : Nat) (hi : i < 5) : CTZ l adK adV D (tyL tB tI tZ) yJI (.code yJI prog_11_method_154_code 1 (some .boolean)) 0 0 [.ref (adK i)] [] (fun _ : Unit => some (.int (1 : Int32))) (fun _ => []) () := by
  refine CTZ.intro (k := 0) (Nat.le_of_ble_eq_true rfl) (by decide) ?_
  intro p e s m below meth c Q A ls E hA hP hD hS hZ hl hF
  obtain ⟨⟨hx, hb, hml, hown, hts⟩, hK⟩ := id E
  have hl : lv_has ls 1 [(0, .ref (adK i))] := hl
  refine va_gets hx hb hZ.2.2.1 hS hown (hts _ wJfz) (fun _ h => h) dJI_0 ?_
  refine lv_if_eq (tgt := 17) hx hb dJI_3 (by decide) (fun h => absurd h (by decide)) (fun _ => ?_)
  refine lv_aload_n hx hb dJI_6 rfl (lv_at hl 0 rfl) ?_
  refine vk_getf hx hb (hZ.1.1 i hi).2.1 hS hown (hts _ wJfc) (fun _ h => h) dJI_7 ?_
  refine lv_if_ne (tgt := 17) hx hb dJI_10 (by decide) (fun h => absurd rfl h) (fun _ => ?_)
  refine lv_iconst (v := (1 : Int32)) hx hb dJI_13 (by decide) ?_
  refine lv_goto (tgt := 18) hx hb dJI_14 (by decide) ?_
  exact (hF _ _ _ _ hP hS).1 _ rfl ⟨.boolean, rfl, rfl⟩ dJI_18
theorem shr0 : ∀ n, n ≤ 6 → nI n >>> ((0 : Int32) &&& 31) = nI n := by decide +kernel
/-- a word's length -/
theorem c_JL (l : Launch) (adK adV : Nat → Nat) (D : va_G) (tB tI tZ : ClassId) (i : Nat) (hi : i < 5) : CTZ l adK adV D (tyL tB tI tZ) yJL (.code yJL prog_11_method_54_code 1 (some .int)) 1 20 [.ref (adK i)] [] (fun _ : Unit => some (.int (nI (SL.getD i 0)))) (fun _ => []) () := by
  refine CTZ.intro (k := 0) (Nat.le_of_ble_eq_true rfl) (by decide) ?_
  intro p e s m below meth c Q A ls E hA hP hD hS hZ hl hF
  obtain ⟨⟨hx, hb, hml, hown, hts⟩, hK⟩ := id E
  have hl : lv_has ls 1 [(0, .ref (adK i))] := hl
  refine lv_aload_n hx hb dJL_0 rfl (lv_at hl 0 rfl) ?_
  refine vk_getf hx hb (hZ.1.1 i hi).2.2.1 hS hown (hts _ wJfv) (fun _ h => h) dJL_1 ?_
  refine va_tlen hx hb (hZ.1.1 i hi).2.2.2 hS (v := nI (SL.getD i 0)) rfl dJL_4 ?_
  refine lv_aload_n hx hb dJL_5 rfl (lv_at hl 0 rfl) ?_
  refine kcVS E hZ hl.1 hi (c_JC l adK adV D tB tI tZ i hi) rfl cvJC rfl wJm2 hP hD hS hA (As := []) (rest := [.int (nI (SL.getD i 0))]) rfl rfl (Nat.le_of_ble_eq_true rfl) ⟨Nat.le_of_ble_eq_true rfl, Nat.le_of_ble_eq_true rfl⟩ ⟨Nat.zero_le _, Nat.zero_le _⟩ dJL_6 (fun H locs hP hD hS => ?_)
  refine lv_ishr hx hb dJL_9 ?_
  refine lv_is (shr0 _ (sl_le i hi)) ?_
  exact (hF _ _ _ _ hP hS).1 _ rfl ⟨.int, rfl, rfl⟩ dJL_10
/-- a word's letter -/
theorem c_JA (l : Launch) (adK adV : Nat → Nat) (D : va_G) (tB tI tZ : ClassId) (i j : Nat) (hi : i < 5) (hj : j < SL.getD i 0) : CTZ l adK adV D (tyL tB tI tZ) yJA (.code yJA prog_11_method_56_code 2 (some .char)) 3 64 [.ref (adK i), .int (nI j)] [] (fun _ : Unit => some (.int ((SB.getD i []).getD j 0))) (fun _ => []) () := by
  refine CTZ.intro (k := 0) (Nat.le_of_ble_eq_true rfl) (by decide) ?_
  intro p e s m below meth c Q A ls E hA hP hD hS hZ hl hF
  obtain ⟨⟨hx, hb, hml, hown, hts⟩, hK⟩ := id E
  have hl : lv_has ls 2 [(0, .ref (adK i)), (1, .int (nI j))] := hl
  obtain ⟨s1, s2⟩ := sb_ok i hi j (Nat.lt_of_lt_of_le hj (sl_le i hi))
  refine lv_aload_n hx hb dJA_0 rfl (lv_at hl 0 rfl) ?_
  refine kcVS E hZ hl.1 hi (c_JI l adK adV D tB tI tZ i hi) rfl cvJI rfl wJm4 hP hD hS hA (As := []) (rest := []) rfl rfl (Nat.le_of_ble_eq_true rfl) ⟨Nat.le_of_ble_eq_true rfl, Nat.le_of_ble_eq_true rfl⟩ ⟨Nat.zero_le _, Nat.zero_le _⟩ dJA_1 (fun H locs hP hD hS => ?_)
  refine lv_if_eq (tgt := 16) hx hb dJA_4 (by decide) (fun h => absurd h (by decide)) (fun _ => ?_)
  refine lv_aload_n hx hb dJA_7 rfl (lv_at hl 0 rfl) ?_
  refine vk_getf hx hb (hZ.1.1 i hi).2.2.1 hS hown (hts _ wJfv) (fun _ h => h) dJA_8 ?_
  refine lv_iload_n hx hb dJA_11 rfl (lv_at hl 1 rfl) ?_
  refine kcSZ E hZ hl.1 (c_JN l adK adV D tB tI tZ i j hi hj) rfl csJN wJm5 hP hD hS hA (As := [.ref (adV i), .int (nI j)]) (rest := []) rfl rfl (Nat.le_of_ble_eq_true rfl) ⟨Nat.le_of_ble_eq_true rfl, Nat.le_of_ble_eq_true rfl⟩ ⟨Nat.zero_le _, Nat.zero_le _⟩ dJA_12 (fun H locs hP hD hS => ?_)
  exact (hF _ _ _ _ hP hS).1 _ rfl ⟨.char, rfl, s2⟩ dJA_15
