/-! the constructors of the parts -/
theorem c_X1_init (l : Launch) (D : va_G) (tB tI tZ : ClassId) (a_o : Nat) : CN l D (tyL tB tI tZ) yX1_init (.code yX1_init cX1_init 1 none) 1 6 33 20 [.ref a_o] [(a_o, .inr (1, [.int 0, .int 0, .int 0, .int 0, .null, .null, .null, .null, .null, .null]))] (fun u => [(a_o, .inr (1, [.int (10 : Int32), .int (nI 0), .int (nI 0), .int (nI 0), .ref (u 0), .ref (u 1), .ref (u 2), .ref (u 3), .ref (u 4), .ref (u 5)])), (u 0, .inl (tI, 5, .inl (fun _ => 0))), (u 1, .inl (tI, 6, .inl (fun _ => 0))), (u 2, .inl (tI, 6, .inl (fun _ => 0))), (u 3, .inl (tI, 6, .inl (fun _ => 0))), (u 4, .inl (tI, 5, .inl (fun _ => 0))), (u 5, .inl (tI, 5, .inl (fun _ => 0)))]) := by
  refine CN.intro (Nat.le_of_ble_eq_true rfl) (by decide) rfl ?_
  intro p e s m below meth c Q A ls E hin hA hP hD hS hl hF
  obtain ⟨⟨hx, hb, hml, hown, hts⟩, hK⟩ := id E
  have hl : lv_has ls 1 [(0, .ref a_o)] := hl
  refine lv_aload_n hx hb dX1_init_0 rfl (lv_at hl 0 rfl) ?_
  refine fobj E hl.1 wm_X1_3 (Nat.le_of_ble_eq_true rfl) (Nat.le_of_ble_eq_true rfl) dX1_init_1 ?_
  refine lv_aload_n hx hb dX1_init_4 rfl (lv_at hl 0 rfl) ?_
  refine lv_iconst (v := (5 : Int32)) hx hb dX1_init_5 (by decide) ?_
  refine fnewa E 1 rfl (atype := .int) rfl wac_int (fun _ _ h => h) hP hD hS hA (a0 := (5, .inl (fun _ => 0))) (N' := 5) (fun _ => rfl) (by decide) (by decide) (by decide) (Nat.le_of_ble_eq_true rfl) (Nat.le_of_ble_eq_true rfl) dX1_init_6 (fun q1 H hP hD hS => ?_)
  have hP : va_P D vwCl [(a_o, .inr (1, [.int 0, .int 0, .int 0, .int 0, .null, .null, .null, .null, .null, .null])), (q1, .inl (tI, 5, .inl (fun _ => 0)))] H := hP
  have hD : va_D A [(a_o, .inr (1, [.int 0, .int 0, .int 0, .int 0, .null, .null, .null, .null, .null, .null])), (q1, .inl (tI, 5, .inl (fun _ => 0)))] := hD
  refine W.widen (k := 1) (n := 5) (by omega) (by omega) ?_
  refine fputF E hP hD hS 0 rfl fd_X1_9 fp_X1 (ty := .array .int) (v := .ref q1) rfl hin rfl rfl rfl rfl (Nat.le_of_ble_eq_true rfl) dX1_init_8 (fun H locs hP hD hS => ?_)
  have hP : va_P D vwCl [(a_o, .inr (1, [.int 0, .int 0, .int 0, .int 0, .ref q1, .null, .null, .null, .null, .null])), (q1, .inl (tI, 5, .inl (fun _ => 0)))] H := hP
  have hD : va_D A [(a_o, .inr (1, [.int 0, .int 0, .int 0, .int 0, .ref q1, .null, .null, .null, .null, .null])), (q1, .inl (tI, 5, .inl (fun _ => 0)))] := hD
  refine lv_aload_n hx hb dX1_init_11 rfl (lv_at hl 0 rfl) ?_
  refine lv_bipush (v := (6 : Int32)) hx hb dX1_init_12 (by decide) ?_
  refine fnewa E 1 rfl (atype := .int) rfl wac_int (fun _ _ h => h) hP hD hS hA (a0 := (6, .inl (fun _ => 0))) (N' := 6) (fun _ => rfl) (by decide) (by decide) (by decide) (Nat.le_of_ble_eq_true rfl) (Nat.le_of_ble_eq_true rfl) dX1_init_14 (fun q2 H hP hD hS => ?_)
  have hP : va_P D vwCl [(a_o, .inr (1, [.int 0, .int 0, .int 0, .int 0, .ref q1, .null, .null, .null, .null, .null])), (q1, .inl (tI, 5, .inl (fun _ => 0))), (q2, .inl (tI, 6, .inl (fun _ => 0)))] H := hP
  have hD : va_D A [(a_o, .inr (1, [.int 0, .int 0, .int 0, .int 0, .ref q1, .null, .null, .null, .null, .null])), (q1, .inl (tI, 5, .inl (fun _ => 0))), (q2, .inl (tI, 6, .inl (fun _ => 0)))] := hD
  refine W.widen (k := 2) (n := 11) (by omega) (by omega) ?_
  refine fputF E hP hD hS 0 rfl fd_X1_15 fp_X1 (ty := .array .int) (v := .ref q2) rfl hin rfl rfl rfl rfl (Nat.le_of_ble_eq_true rfl) dX1_init_16 (fun H locs hP hD hS => ?_)
  have hP : va_P D vwCl [(a_o, .inr (1, [.int 0, .int 0, .int 0, .int 0, .ref q1, .ref q2, .null, .null, .null, .null])), (q1, .inl (tI, 5, .inl (fun _ => 0))), (q2, .inl (tI, 6, .inl (fun _ => 0)))] H := hP
  have hD : va_D A [(a_o, .inr (1, [.int 0, .int 0, .int 0, .int 0, .ref q1, .ref q2, .null, .null, .null, .null])), (q1, .inl (tI, 5, .inl (fun _ => 0))), (q2, .inl (tI, 6, .inl (fun _ => 0)))] := hD
  refine lv_aload_n hx hb dX1_init_19 rfl (lv_at hl 0 rfl) ?_
  refine lv_bipush (v := (6 : Int32)) hx hb dX1_init_20 (by decide) ?_
  refine fnewa E 1 rfl (atype := .int) rfl wac_int (fun _ _ h => h) hP hD hS hA (a0 := (6, .inl (fun _ => 0))) (N' := 6) (fun _ => rfl) (by decide) (by decide) (by decide) (Nat.le_of_ble_eq_true rfl) (Nat.le_of_ble_eq_true rfl) dX1_init_22 (fun q3 H hP hD hS => ?_)
  have hP : va_P D vwCl [(a_o, .inr (1, [.int 0, .int 0, .int 0, .int 0, .ref q1, .ref q2, .null, .null, .null, .null])), (q1, .inl (tI, 5, .inl (fun _ => 0))), (q2, .inl (tI, 6, .inl (fun _ => 0))), (q3, .inl (tI, 6, .inl (fun _ => 0)))] H := hP
  have hD : va_D A [(a_o, .inr (1, [.int 0, .int 0, .int 0, .int 0, .ref q1, .ref q2, .null, .null, .null, .null])), (q1, .inl (tI, 5, .inl (fun _ => 0))), (q2, .inl (tI, 6, .inl (fun _ => 0))), (q3, .inl (tI, 6, .inl (fun _ => 0)))] := hD
  refine W.widen (k := 3) (n := 17) (by omega) (by omega) ?_
  refine fputF E hP hD hS 0 rfl fd_X1_18 fp_X1 (ty := .array .int) (v := .ref q3) rfl hin rfl rfl rfl rfl (Nat.le_of_ble_eq_true rfl) dX1_init_24 (fun H locs hP hD hS => ?_)
  have hP : va_P D vwCl [(a_o, .inr (1, [.int 0, .int 0, .int 0, .int 0, .ref q1, .ref q2, .ref q3, .null, .null, .null])), (q1, .inl (tI, 5, .inl (fun _ => 0))), (q2, .inl (tI, 6, .inl (fun _ => 0))), (q3, .inl (tI, 6, .inl (fun _ => 0)))] H := hP
  have hD : va_D A [(a_o, .inr (1, [.int 0, .int 0, .int 0, .int 0, .ref q1, .ref q2, .ref q3, .null, .null, .null])), (q1, .inl (tI, 5, .inl (fun _ => 0))), (q2, .inl (tI, 6, .inl (fun _ => 0))), (q3, .inl (tI, 6, .inl (fun _ => 0)))] := hD
  refine lv_aload_n hx hb dX1_init_27 rfl (lv_at hl 0 rfl) ?_
  refine lv_bipush (v := (6 : Int32)) hx hb dX1_init_28 (by decide) ?_
  refine fnewa E 1 rfl (atype := .int) rfl wac_int (fun _ _ h => h) hP hD hS hA (a0 := (6, .inl (fun _ => 0))) (N' := 6) (fun _ => rfl) (by decide) (by decide) (by decide) (Nat.le_of_ble_eq_true rfl) (Nat.le_of_ble_eq_true rfl) dX1_init_30 (fun q4 H hP hD hS => ?_)
  have hP : va_P D vwCl [(a_o, .inr (1, [.int 0, .int 0, .int 0, .int 0, .ref q1, .ref q2, .ref q3, .null, .null, .null])), (q1, .inl (tI, 5, .inl (fun _ => 0))), (q2, .inl (tI, 6, .inl (fun _ => 0))), (q3, .inl (tI, 6, .inl (fun _ => 0))), (q4, .inl (tI, 6, .inl (fun _ => 0)))] H := hP
  have hD : va_D A [(a_o, .inr (1, [.int 0, .int 0, .int 0, .int 0, .ref q1, .ref q2, .ref q3, .null, .null, .null])), (q1, .inl (tI, 5, .inl (fun _ => 0))), (q2, .inl (tI, 6, .inl (fun _ => 0))), (q3, .inl (tI, 6, .inl (fun _ => 0))), (q4, .inl (tI, 6, .inl (fun _ => 0)))] := hD
  refine W.widen (k := 4) (n := 23) (by omega) (by omega) ?_
  refine fputF E hP hD hS 0 rfl fd_X1_21 fp_X1 (ty := .array .int) (v := .ref q4) rfl hin rfl rfl rfl rfl (Nat.le_of_ble_eq_true rfl) dX1_init_32 (fun H locs hP hD hS => ?_)
  have hP : va_P D vwCl [(a_o, .inr (1, [.int 0, .int 0, .int 0, .int 0, .ref q1, .ref q2, .ref q3, .ref q4, .null, .null])), (q1, .inl (tI, 5, .inl (fun _ => 0))), (q2, .inl (tI, 6, .inl (fun _ => 0))), (q3, .inl (tI, 6, .inl (fun _ => 0))), (q4, .inl (tI, 6, .inl (fun _ => 0)))] H := hP
  have hD : va_D A [(a_o, .inr (1, [.int 0, .int 0, .int 0, .int 0, .ref q1, .ref q2, .ref q3, .ref q4, .null, .null])), (q1, .inl (tI, 5, .inl (fun _ => 0))), (q2, .inl (tI, 6, .inl (fun _ => 0))), (q3, .inl (tI, 6, .inl (fun _ => 0))), (q4, .inl (tI, 6, .inl (fun _ => 0)))] := hD
  refine lv_aload_n hx hb dX1_init_35 rfl (lv_at hl 0 rfl) ?_
  refine lv_iconst (v := (5 : Int32)) hx hb dX1_init_36 (by decide) ?_
  refine fnewa E 1 rfl (atype := .int) rfl wac_int (fun _ _ h => h) hP hD hS hA (a0 := (5, .inl (fun _ => 0))) (N' := 5) (fun _ => rfl) (by decide) (by decide) (by decide) (Nat.le_of_ble_eq_true rfl) (Nat.le_of_ble_eq_true rfl) dX1_init_37 (fun q5 H hP hD hS => ?_)
  have hP : va_P D vwCl [(a_o, .inr (1, [.int 0, .int 0, .int 0, .int 0, .ref q1, .ref q2, .ref q3, .ref q4, .null, .null])), (q1, .inl (tI, 5, .inl (fun _ => 0))), (q2, .inl (tI, 6, .inl (fun _ => 0))), (q3, .inl (tI, 6, .inl (fun _ => 0))), (q4, .inl (tI, 6, .inl (fun _ => 0))), (q5, .inl (tI, 5, .inl (fun _ => 0)))] H := hP
  have hD : va_D A [(a_o, .inr (1, [.int 0, .int 0, .int 0, .int 0, .ref q1, .ref q2, .ref q3, .ref q4, .null, .null])), (q1, .inl (tI, 5, .inl (fun _ => 0))), (q2, .inl (tI, 6, .inl (fun _ => 0))), (q3, .inl (tI, 6, .inl (fun _ => 0))), (q4, .inl (tI, 6, .inl (fun _ => 0))), (q5, .inl (tI, 5, .inl (fun _ => 0)))] := hD
  refine W.widen (k := 5) (n := 28) (by omega) (by omega) ?_
  refine fputF E hP hD hS 0 rfl fd_X1_24 fp_X1 (ty := .array .int) (v := .ref q5) rfl hin rfl rfl rfl rfl (Nat.le_of_ble_eq_true rfl) dX1_init_39 (fun H locs hP hD hS => ?_)
  have hP : va_P D vwCl [(a_o, .inr (1, [.int 0, .int 0, .int 0, .int 0, .ref q1, .ref q2, .ref q3, .ref q4, .ref q5, .null])), (q1, .inl (tI, 5, .inl (fun _ => 0))), (q2, .inl (tI, 6, .inl (fun _ => 0))), (q3, .inl (tI, 6, .inl (fun _ => 0))), (q4, .inl (tI, 6, .inl (fun _ => 0))), (q5, .inl (tI, 5, .inl (fun _ => 0)))] H := hP
  have hD : va_D A [(a_o, .inr (1, [.int 0, .int 0, .int 0, .int 0, .ref q1, .ref q2, .ref q3, .ref q4, .ref q5, .null])), (q1, .inl (tI, 5, .inl (fun _ => 0))), (q2, .inl (tI, 6, .inl (fun _ => 0))), (q3, .inl (tI, 6, .inl (fun _ => 0))), (q4, .inl (tI, 6, .inl (fun _ => 0))), (q5, .inl (tI, 5, .inl (fun _ => 0)))] := hD
  refine lv_aload_n hx hb dX1_init_42 rfl (lv_at hl 0 rfl) ?_
  refine lv_iconst (v := (5 : Int32)) hx hb dX1_init_43 (by decide) ?_
  refine fnewa E 1 rfl (atype := .int) rfl wac_int (fun _ _ h => h) hP hD hS hA (a0 := (5, .inl (fun _ => 0))) (N' := 5) (fun _ => rfl) (by decide) (by decide) (by decide) (Nat.le_of_ble_eq_true rfl) (Nat.le_of_ble_eq_true rfl) dX1_init_44 (fun q6 H hP hD hS => ?_)
  have hP : va_P D vwCl [(a_o, .inr (1, [.int 0, .int 0, .int 0, .int 0, .ref q1, .ref q2, .ref q3, .ref q4, .ref q5, .null])), (q1, .inl (tI, 5, .inl (fun _ => 0))), (q2, .inl (tI, 6, .inl (fun _ => 0))), (q3, .inl (tI, 6, .inl (fun _ => 0))), (q4, .inl (tI, 6, .inl (fun _ => 0))), (q5, .inl (tI, 5, .inl (fun _ => 0))), (q6, .inl (tI, 5, .inl (fun _ => 0)))] H := hP
  have hD : va_D A [(a_o, .inr (1, [.int 0, .int 0, .int 0, .int 0, .ref q1, .ref q2, .ref q3, .ref q4, .ref q5, .null])), (q1, .inl (tI, 5, .inl (fun _ => 0))), (q2, .inl (tI, 6, .inl (fun _ => 0))), (q3, .inl (tI, 6, .inl (fun _ => 0))), (q4, .inl (tI, 6, .inl (fun _ => 0))), (q5, .inl (tI, 5, .inl (fun _ => 0))), (q6, .inl (tI, 5, .inl (fun _ => 0)))] := hD
  refine W.widen (k := 6) (n := 33) (by omega) (by omega) ?_
  refine fputF E hP hD hS 0 rfl fd_X1_27 fp_X1 (ty := .array .int) (v := .ref q6) rfl hin rfl rfl rfl rfl (Nat.le_of_ble_eq_true rfl) dX1_init_46 (fun H locs hP hD hS => ?_)
  have hP : va_P D vwCl [(a_o, .inr (1, [.int 0, .int 0, .int 0, .int 0, .ref q1, .ref q2, .ref q3, .ref q4, .ref q5, .ref q6])), (q1, .inl (tI, 5, .inl (fun _ => 0))), (q2, .inl (tI, 6, .inl (fun _ => 0))), (q3, .inl (tI, 6, .inl (fun _ => 0))), (q4, .inl (tI, 6, .inl (fun _ => 0))), (q5, .inl (tI, 5, .inl (fun _ => 0))), (q6, .inl (tI, 5, .inl (fun _ => 0)))] H := hP
  have hD : va_D A [(a_o, .inr (1, [.int 0, .int 0, .int 0, .int 0, .ref q1, .ref q2, .ref q3, .ref q4, .ref q5, .ref q6])), (q1, .inl (tI, 5, .inl (fun _ => 0))), (q2, .inl (tI, 6, .inl (fun _ => 0))), (q3, .inl (tI, 6, .inl (fun _ => 0))), (q4, .inl (tI, 6, .inl (fun _ => 0))), (q5, .inl (tI, 5, .inl (fun _ => 0))), (q6, .inl (tI, 5, .inl (fun _ => 0)))] := hD
  refine lv_aload_n hx hb dX1_init_49 rfl (lv_at hl 0 rfl) ?_
  refine kcV E hl.1 (c_X1_clear l D tB tI tZ a_o q1 q2 q3 q4 q5 q6 0 0 0 0) cv_X1_clear wm_X1_30 hP hD hS hA [0] rfl (by decide) rfl (ws2 := [(a_o, .inr (1, [.int (10 : Int32), .int (nI 0), .int (nI 0), .int (nI 0), .ref q1, .ref q2, .ref q3, .ref q4, .ref q5, .ref q6])), (q1, .inl (tI, 5, .inl (fun _ => 0))), (q2, .inl (tI, 6, .inl (fun _ => 0))), (q3, .inl (tI, 6, .inl (fun _ => 0))), (q4, .inl (tI, 6, .inl (fun _ => 0))), (q5, .inl (tI, 5, .inl (fun _ => 0))), (q6, .inl (tI, 5, .inl (fun _ => 0)))]) rfl rfl 0 1 rfl rfl rfl rfl (Nat.le_of_ble_eq_true rfl) ⟨Nat.le_of_ble_eq_true rfl, Nat.le_of_ble_eq_true rfl⟩ ⟨Nat.le_of_ble_eq_true rfl, Nat.le_of_ble_eq_true rfl⟩ dX1_init_50 (fun H locs hP hD hS => ?_)
  exact hF (fun k => ([q1, q2, q3, q4, q5, q6] : List Nat).getD k 0) _ _ _ _ hP hD hS dX1_init_53
theorem c_X0_init (l : Launch) (D : va_G) (tB tI tZ : ClassId) (a_o x1 : Nat) : CN l D (tyL tB tI tZ) yX0_init (.code yX0_init cX0_init 2 none) 1 5 101 21 [.ref a_o, .ref x1] [(a_o, .inr (0, [.null, .int 0, .int 0, .int 0, .null, .null, .null, .null, .null]))] (fun u => [(a_o, .inr (0, [.ref x1, .int (0 : Int32), .int (0 : Int32), .int (0 : Int32), .ref (u 0), .ref (u 1), .ref (u 2), .ref (u 3), .ref (u 4)])), (u 0, .inl (tI, 6, .inl (fun _ => 0))), (u 1, .inl (tI, 5, .inl ((S_X0_forget (fun _ => 0) (fun _ => 0) (fun _ => 0) (fun _ => 0)).1))), (u 2, .inl (tI, 30, .inl ((S_X0_forget (fun _ => 0) (fun _ => 0) (fun _ => 0) (fun _ => 0)).2.1))), (u 3, .inl (tI, 30, .inl ((S_X0_forget (fun _ => 0) (fun _ => 0) (fun _ => 0) (fun _ => 0)).2.2.1))), (u 4, .inl (tI, 30, .inl ((S_X0_forget (fun _ => 0) (fun _ => 0) (fun _ => 0) (fun _ => 0)).2.2.2)))]) := by
  refine CN.intro (Nat.le_of_ble_eq_true rfl) (by decide) rfl ?_
  intro p e s m below meth c Q A ls E hin hA hP hD hS hl hF
  obtain ⟨⟨hx, hb, hml, hown, hts⟩, hK⟩ := id E
  have hl : lv_has ls 2 [(0, .ref a_o), (1, .ref x1)] := hl
  refine lv_aload_n hx hb dX0_init_0 rfl (lv_at hl 0 rfl) ?_
  refine fobj E hl.1 wm_X0_3 (Nat.le_of_ble_eq_true rfl) (Nat.le_of_ble_eq_true rfl) dX0_init_1 ?_
  refine lv_aload_n hx hb dX0_init_4 rfl (lv_at hl 0 rfl) ?_
  refine lv_iconst (v := (0 : Int32)) hx hb dX0_init_5 (by decide) ?_
  refine fput E hP hD hS 0 rfl fd_X0_9 fp_X0 (ty := .int) (v := .int (0 : Int32)) rfl rfl rfl rfl (Nat.le_of_ble_eq_true rfl) dX0_init_6 (fun H locs hP hD hS => ?_)
  have hP : va_P D vwCl [(a_o, .inr (0, [.null, .int (0 : Int32), .int 0, .int 0, .null, .null, .null, .null, .null]))] H := hP
  have hD : va_D A [(a_o, .inr (0, [.null, .int (0 : Int32), .int 0, .int 0, .null, .null, .null, .null, .null]))] := hD
  refine lv_aload_n hx hb dX0_init_9 rfl (lv_at hl 0 rfl) ?_
  refine lv_iconst (v := (0 : Int32)) hx hb dX0_init_10 (by decide) ?_
  refine fput E hP hD hS 0 rfl fd_X0_15 fp_X0 (ty := .int) (v := .int (0 : Int32)) rfl rfl rfl rfl (Nat.le_of_ble_eq_true rfl) dX0_init_11 (fun H locs hP hD hS => ?_)
  have hP : va_P D vwCl [(a_o, .inr (0, [.null, .int (0 : Int32), .int (0 : Int32), .int 0, .null, .null, .null, .null, .null]))] H := hP
  have hD : va_D A [(a_o, .inr (0, [.null, .int (0 : Int32), .int (0 : Int32), .int 0, .null, .null, .null, .null, .null]))] := hD
  refine lv_aload_n hx hb dX0_init_14 rfl (lv_at hl 0 rfl) ?_
  refine lv_iconst (v := (0 : Int32)) hx hb dX0_init_15 (by decide) ?_
  refine fput E hP hD hS 0 rfl fd_X0_18 fp_X0 (ty := .int) (v := .int (0 : Int32)) rfl rfl rfl rfl (Nat.le_of_ble_eq_true rfl) dX0_init_16 (fun H locs hP hD hS => ?_)
  have hP : va_P D vwCl [(a_o, .inr (0, [.null, .int (0 : Int32), .int (0 : Int32), .int (0 : Int32), .null, .null, .null, .null, .null]))] H := hP
  have hD : va_D A [(a_o, .inr (0, [.null, .int (0 : Int32), .int (0 : Int32), .int (0 : Int32), .null, .null, .null, .null, .null]))] := hD
  refine lv_aload_n hx hb dX0_init_19 rfl (lv_at hl 0 rfl) ?_
  refine lv_bipush (v := (6 : Int32)) hx hb dX0_init_20 (by decide) ?_
  refine fnewa E 1 rfl (atype := .int) rfl wac_int (fun _ _ h => h) hP hD hS hA (a0 := (6, .inl (fun _ => 0))) (N' := 6) (fun _ => rfl) (by decide) (by decide) (by decide) (Nat.le_of_ble_eq_true rfl) (Nat.le_of_ble_eq_true rfl) dX0_init_22 (fun q1 H hP hD hS => ?_)
  have hP : va_P D vwCl [(a_o, .inr (0, [.null, .int (0 : Int32), .int (0 : Int32), .int (0 : Int32), .null, .null, .null, .null, .null])), (q1, .inl (tI, 6, .inl (fun _ => 0)))] H := hP
  have hD : va_D A [(a_o, .inr (0, [.null, .int (0 : Int32), .int (0 : Int32), .int (0 : Int32), .null, .null, .null, .null, .null])), (q1, .inl (tI, 6, .inl (fun _ => 0)))] := hD
  refine W.widen (k := 1) (n := 6) (by omega) (by omega) ?_
  refine fputF E hP hD hS 0 rfl fd_X0_21 fp_X0 (ty := .array .int) (v := .ref q1) rfl hin rfl rfl rfl rfl (Nat.le_of_ble_eq_true rfl) dX0_init_24 (fun H locs hP hD hS => ?_)
  have hP : va_P D vwCl [(a_o, .inr (0, [.null, .int (0 : Int32), .int (0 : Int32), .int (0 : Int32), .ref q1, .null, .null, .null, .null])), (q1, .inl (tI, 6, .inl (fun _ => 0)))] H := hP
  have hD : va_D A [(a_o, .inr (0, [.null, .int (0 : Int32), .int (0 : Int32), .int (0 : Int32), .ref q1, .null, .null, .null, .null])), (q1, .inl (tI, 6, .inl (fun _ => 0)))] := hD
  refine lv_aload_n hx hb dX0_init_27 rfl (lv_at hl 0 rfl) ?_
  refine lv_iconst (v := (5 : Int32)) hx hb dX0_init_28 (by decide) ?_
  refine fnewa E 1 rfl (atype := .int) rfl wac_int (fun _ _ h => h) hP hD hS hA (a0 := (5, .inl (fun _ => 0))) (N' := 5) (fun _ => rfl) (by decide) (by decide) (by decide) (Nat.le_of_ble_eq_true rfl) (Nat.le_of_ble_eq_true rfl) dX0_init_29 (fun q2 H hP hD hS => ?_)
  have hP : va_P D vwCl [(a_o, .inr (0, [.null, .int (0 : Int32), .int (0 : Int32), .int (0 : Int32), .ref q1, .null, .null, .null, .null])), (q1, .inl (tI, 6, .inl (fun _ => 0))), (q2, .inl (tI, 5, .inl (fun _ => 0)))] H := hP
  have hD : va_D A [(a_o, .inr (0, [.null, .int (0 : Int32), .int (0 : Int32), .int (0 : Int32), .ref q1, .null, .null, .null, .null])), (q1, .inl (tI, 6, .inl (fun _ => 0))), (q2, .inl (tI, 5, .inl (fun _ => 0)))] := hD
  refine W.widen (k := 2) (n := 11) (by omega) (by omega) ?_
  refine fputF E hP hD hS 0 rfl fd_X0_25 fp_X0 (ty := .array .int) (v := .ref q2) rfl hin rfl rfl rfl rfl (Nat.le_of_ble_eq_true rfl) dX0_init_31 (fun H locs hP hD hS => ?_)
  have hP : va_P D vwCl [(a_o, .inr (0, [.null, .int (0 : Int32), .int (0 : Int32), .int (0 : Int32), .ref q1, .ref q2, .null, .null, .null])), (q1, .inl (tI, 6, .inl (fun _ => 0))), (q2, .inl (tI, 5, .inl (fun _ => 0)))] H := hP
  have hD : va_D A [(a_o, .inr (0, [.null, .int (0 : Int32), .int (0 : Int32), .int (0 : Int32), .ref q1, .ref q2, .null, .null, .null])), (q1, .inl (tI, 6, .inl (fun _ => 0))), (q2, .inl (tI, 5, .inl (fun _ => 0)))] := hD
  refine lv_aload_n hx hb dX0_init_34 rfl (lv_at hl 0 rfl) ?_
  refine lv_bipush (v := (30 : Int32)) hx hb dX0_init_35 (by decide) ?_
  refine fnewa E 1 rfl (atype := .int) rfl wac_int (fun _ _ h => h) hP hD hS hA (a0 := (30, .inl (fun _ => 0))) (N' := 30) (fun _ => rfl) (by decide) (by decide) (by decide) (Nat.le_of_ble_eq_true rfl) (Nat.le_of_ble_eq_true rfl) dX0_init_37 (fun q3 H hP hD hS => ?_)
  have hP : va_P D vwCl [(a_o, .inr (0, [.null, .int (0 : Int32), .int (0 : Int32), .int (0 : Int32), .ref q1, .ref q2, .null, .null, .null])), (q1, .inl (tI, 6, .inl (fun _ => 0))), (q2, .inl (tI, 5, .inl (fun _ => 0))), (q3, .inl (tI, 30, .inl (fun _ => 0)))] H := hP
  have hD : va_D A [(a_o, .inr (0, [.null, .int (0 : Int32), .int (0 : Int32), .int (0 : Int32), .ref q1, .ref q2, .null, .null, .null])), (q1, .inl (tI, 6, .inl (fun _ => 0))), (q2, .inl (tI, 5, .inl (fun _ => 0))), (q3, .inl (tI, 30, .inl (fun _ => 0)))] := hD
  refine W.widen (k := 3) (n := 41) (by omega) (by omega) ?_
  refine fputF E hP hD hS 0 rfl fd_X0_28 fp_X0 (ty := .array .int) (v := .ref q3) rfl hin rfl rfl rfl rfl (Nat.le_of_ble_eq_true rfl) dX0_init_39 (fun H locs hP hD hS => ?_)
  have hP : va_P D vwCl [(a_o, .inr (0, [.null, .int (0 : Int32), .int (0 : Int32), .int (0 : Int32), .ref q1, .ref q2, .ref q3, .null, .null])), (q1, .inl (tI, 6, .inl (fun _ => 0))), (q2, .inl (tI, 5, .inl (fun _ => 0))), (q3, .inl (tI, 30, .inl (fun _ => 0)))] H := hP
  have hD : va_D A [(a_o, .inr (0, [.null, .int (0 : Int32), .int (0 : Int32), .int (0 : Int32), .ref q1, .ref q2, .ref q3, .null, .null])), (q1, .inl (tI, 6, .inl (fun _ => 0))), (q2, .inl (tI, 5, .inl (fun _ => 0))), (q3, .inl (tI, 30, .inl (fun _ => 0)))] := hD
  refine lv_aload_n hx hb dX0_init_42 rfl (lv_at hl 0 rfl) ?_
  refine lv_bipush (v := (30 : Int32)) hx hb dX0_init_43 (by decide) ?_
  refine fnewa E 1 rfl (atype := .int) rfl wac_int (fun _ _ h => h) hP hD hS hA (a0 := (30, .inl (fun _ => 0))) (N' := 30) (fun _ => rfl) (by decide) (by decide) (by decide) (Nat.le_of_ble_eq_true rfl) (Nat.le_of_ble_eq_true rfl) dX0_init_45 (fun q4 H hP hD hS => ?_)
  have hP : va_P D vwCl [(a_o, .inr (0, [.null, .int (0 : Int32), .int (0 : Int32), .int (0 : Int32), .ref q1, .ref q2, .ref q3, .null, .null])), (q1, .inl (tI, 6, .inl (fun _ => 0))), (q2, .inl (tI, 5, .inl (fun _ => 0))), (q3, .inl (tI, 30, .inl (fun _ => 0))), (q4, .inl (tI, 30, .inl (fun _ => 0)))] H := hP
  have hD : va_D A [(a_o, .inr (0, [.null, .int (0 : Int32), .int (0 : Int32), .int (0 : Int32), .ref q1, .ref q2, .ref q3, .null, .null])), (q1, .inl (tI, 6, .inl (fun _ => 0))), (q2, .inl (tI, 5, .inl (fun _ => 0))), (q3, .inl (tI, 30, .inl (fun _ => 0))), (q4, .inl (tI, 30, .inl (fun _ => 0)))] := hD
  refine W.widen (k := 4) (n := 71) (by omega) (by omega) ?_
  refine fputF E hP hD hS 0 rfl fd_X0_31 fp_X0 (ty := .array .int) (v := .ref q4) rfl hin rfl rfl rfl rfl (Nat.le_of_ble_eq_true rfl) dX0_init_47 (fun H locs hP hD hS => ?_)
  have hP : va_P D vwCl [(a_o, .inr (0, [.null, .int (0 : Int32), .int (0 : Int32), .int (0 : Int32), .ref q1, .ref q2, .ref q3, .ref q4, .null])), (q1, .inl (tI, 6, .inl (fun _ => 0))), (q2, .inl (tI, 5, .inl (fun _ => 0))), (q3, .inl (tI, 30, .inl (fun _ => 0))), (q4, .inl (tI, 30, .inl (fun _ => 0)))] H := hP
  have hD : va_D A [(a_o, .inr (0, [.null, .int (0 : Int32), .int (0 : Int32), .int (0 : Int32), .ref q1, .ref q2, .ref q3, .ref q4, .null])), (q1, .inl (tI, 6, .inl (fun _ => 0))), (q2, .inl (tI, 5, .inl (fun _ => 0))), (q3, .inl (tI, 30, .inl (fun _ => 0))), (q4, .inl (tI, 30, .inl (fun _ => 0)))] := hD
  refine lv_aload_n hx hb dX0_init_50 rfl (lv_at hl 0 rfl) ?_
  refine lv_bipush (v := (30 : Int32)) hx hb dX0_init_51 (by decide) ?_
  refine fnewa E 1 rfl (atype := .int) rfl wac_int (fun _ _ h => h) hP hD hS hA (a0 := (30, .inl (fun _ => 0))) (N' := 30) (fun _ => rfl) (by decide) (by decide) (by decide) (Nat.le_of_ble_eq_true rfl) (Nat.le_of_ble_eq_true rfl) dX0_init_53 (fun q5 H hP hD hS => ?_)
  have hP : va_P D vwCl [(a_o, .inr (0, [.null, .int (0 : Int32), .int (0 : Int32), .int (0 : Int32), .ref q1, .ref q2, .ref q3, .ref q4, .null])), (q1, .inl (tI, 6, .inl (fun _ => 0))), (q2, .inl (tI, 5, .inl (fun _ => 0))), (q3, .inl (tI, 30, .inl (fun _ => 0))), (q4, .inl (tI, 30, .inl (fun _ => 0))), (q5, .inl (tI, 30, .inl (fun _ => 0)))] H := hP
  have hD : va_D A [(a_o, .inr (0, [.null, .int (0 : Int32), .int (0 : Int32), .int (0 : Int32), .ref q1, .ref q2, .ref q3, .ref q4, .null])), (q1, .inl (tI, 6, .inl (fun _ => 0))), (q2, .inl (tI, 5, .inl (fun _ => 0))), (q3, .inl (tI, 30, .inl (fun _ => 0))), (q4, .inl (tI, 30, .inl (fun _ => 0))), (q5, .inl (tI, 30, .inl (fun _ => 0)))] := hD
  refine W.widen (k := 5) (n := 101) (by omega) (by omega) ?_
  refine fputF E hP hD hS 0 rfl fd_X0_34 fp_X0 (ty := .array .int) (v := .ref q5) rfl hin rfl rfl rfl rfl (Nat.le_of_ble_eq_true rfl) dX0_init_55 (fun H locs hP hD hS => ?_)
  have hP : va_P D vwCl [(a_o, .inr (0, [.null, .int (0 : Int32), .int (0 : Int32), .int (0 : Int32), .ref q1, .ref q2, .ref q3, .ref q4, .ref q5])), (q1, .inl (tI, 6, .inl (fun _ => 0))), (q2, .inl (tI, 5, .inl (fun _ => 0))), (q3, .inl (tI, 30, .inl (fun _ => 0))), (q4, .inl (tI, 30, .inl (fun _ => 0))), (q5, .inl (tI, 30, .inl (fun _ => 0)))] H := hP
  have hD : va_D A [(a_o, .inr (0, [.null, .int (0 : Int32), .int (0 : Int32), .int (0 : Int32), .ref q1, .ref q2, .ref q3, .ref q4, .ref q5])), (q1, .inl (tI, 6, .inl (fun _ => 0))), (q2, .inl (tI, 5, .inl (fun _ => 0))), (q3, .inl (tI, 30, .inl (fun _ => 0))), (q4, .inl (tI, 30, .inl (fun _ => 0))), (q5, .inl (tI, 30, .inl (fun _ => 0)))] := hD
  refine lv_aload_n hx hb dX0_init_58 rfl (lv_at hl 0 rfl) ?_
  refine lv_aload_n hx hb dX0_init_59 rfl (lv_at hl 1 rfl) ?_
  refine fputF E hP hD hS 0 rfl fd_X0_37 fp_X0 (ty := .object "HeavierToCome$Land") (v := .ref x1) rfl hin rfl rfl rfl rfl (Nat.le_of_ble_eq_true rfl) dX0_init_60 (fun H locs hP hD hS => ?_)
  have hP : va_P D vwCl [(a_o, .inr (0, [.ref x1, .int (0 : Int32), .int (0 : Int32), .int (0 : Int32), .ref q1, .ref q2, .ref q3, .ref q4, .ref q5])), (q1, .inl (tI, 6, .inl (fun _ => 0))), (q2, .inl (tI, 5, .inl (fun _ => 0))), (q3, .inl (tI, 30, .inl (fun _ => 0))), (q4, .inl (tI, 30, .inl (fun _ => 0))), (q5, .inl (tI, 30, .inl (fun _ => 0)))] H := hP
  have hD : va_D A [(a_o, .inr (0, [.ref x1, .int (0 : Int32), .int (0 : Int32), .int (0 : Int32), .ref q1, .ref q2, .ref q3, .ref q4, .ref q5])), (q1, .inl (tI, 6, .inl (fun _ => 0))), (q2, .inl (tI, 5, .inl (fun _ => 0))), (q3, .inl (tI, 30, .inl (fun _ => 0))), (q4, .inl (tI, 30, .inl (fun _ => 0))), (q5, .inl (tI, 30, .inl (fun _ => 0)))] := hD
  refine lv_aload_n hx hb dX0_init_63 rfl (lv_at hl 0 rfl) ?_
  refine kcV E hl.1 (c_X0_forget l D tB tI tZ a_o x1 q1 q2 q3 q4 q5 0 0 0 (fun _ => 0) (fun _ => 0) (fun _ => 0) (fun _ => 0)) cv_X0_forget wm_X0_41 hP hD hS hA [0, 2, 3, 4, 5] rfl (by decide) rfl (ws2 := [(a_o, .inr (0, [.ref x1, .int (0 : Int32), .int (0 : Int32), .int (0 : Int32), .ref q1, .ref q2, .ref q3, .ref q4, .ref q5])), (q1, .inl (tI, 6, .inl (fun _ => 0))), (q2, .inl (tI, 5, .inl ((S_X0_forget (fun _ => 0) (fun _ => 0) (fun _ => 0) (fun _ => 0)).1))), (q3, .inl (tI, 30, .inl ((S_X0_forget (fun _ => 0) (fun _ => 0) (fun _ => 0) (fun _ => 0)).2.1))), (q4, .inl (tI, 30, .inl ((S_X0_forget (fun _ => 0) (fun _ => 0) (fun _ => 0) (fun _ => 0)).2.2.1))), (q5, .inl (tI, 30, .inl ((S_X0_forget (fun _ => 0) (fun _ => 0) (fun _ => 0) (fun _ => 0)).2.2.2)))]) rfl rfl 0 0 rfl rfl rfl rfl (Nat.le_of_ble_eq_true rfl) ⟨Nat.le_of_ble_eq_true rfl, Nat.le_of_ble_eq_true rfl⟩ ⟨Nat.le_of_ble_eq_true rfl, Nat.le_of_ble_eq_true rfl⟩ dX0_init_64 (fun H locs hP hD hS => ?_)
  exact hF (fun k => ([q1, q2, q3, q4, q5] : List Nat).getD k 0) _ _ _ _ hP hD hS dX0_init_67
theorem c_X3_init (l : Launch) (D : va_G) (tB tI tZ : ClassId) (a_o : Nat) : CN l D (tyL tB tI tZ) yX3_init (.code yX3_init cX3_init 1 none) 1 1 500 12 [.ref a_o] [(a_o, .inr (3, [.null, .int 0, .int 0, .int 0, .int 0, .int 0, .int 0, .int 0, .int 0]))] (fun u => [(a_o, .inr (3, [.ref (u 0), .int (0 : Int32), .int (-1 : Int32), .int (0 : Int32), .int (0 : Int32), .int (0 : Int32), .int (0 : Int32), .int (0 : Int32), .int (0 : Int32)])), (u 0, .inl (tB, 500, .inl (fun _ => 0)))]) := by
  refine CN.intro (Nat.le_of_ble_eq_true rfl) (by decide) rfl ?_
  intro p e s m below meth c Q A ls E hin hA hP hD hS hl hF
  obtain ⟨⟨hx, hb, hml, hown, hts⟩, hK⟩ := id E
  have hl : lv_has ls 1 [(0, .ref a_o)] := hl
  refine lv_aload_n hx hb dX3_init_0 rfl (lv_at hl 0 rfl) ?_
  refine fobj E hl.1 wm_X3_3 (Nat.le_of_ble_eq_true rfl) (Nat.le_of_ble_eq_true rfl) dX3_init_1 ?_
  refine lv_aload_n hx hb dX3_init_4 rfl (lv_at hl 0 rfl) ?_
  refine lv_sipush (v := (500 : Int32)) hx hb dX3_init_5 (by decide) ?_
  refine fnewa E 0 rfl (atype := .byte) rfl wac_byte (fun _ _ h => h) hP hD hS hA (a0 := (500, .inl (fun _ => 0))) (N' := 500) (fun _ => rfl) (by decide) (by decide) (by decide) (Nat.le_of_ble_eq_true rfl) (Nat.le_of_ble_eq_true rfl) dX3_init_8 (fun q1 H hP hD hS => ?_)
  have hP : va_P D vwCl [(a_o, .inr (3, [.null, .int 0, .int 0, .int 0, .int 0, .int 0, .int 0, .int 0, .int 0])), (q1, .inl (tB, 500, .inl (fun _ => 0)))] H := hP
  have hD : va_D A [(a_o, .inr (3, [.null, .int 0, .int 0, .int 0, .int 0, .int 0, .int 0, .int 0, .int 0])), (q1, .inl (tB, 500, .inl (fun _ => 0)))] := hD
  refine W.widen (k := 1) (n := 500) (by omega) (by omega) ?_
  refine fputF E hP hD hS 0 rfl fd_X3_9 fp_X3 (ty := .array .byte) (v := .ref q1) rfl hin rfl rfl rfl rfl (Nat.le_of_ble_eq_true rfl) dX3_init_10 (fun H locs hP hD hS => ?_)
  have hP : va_P D vwCl [(a_o, .inr (3, [.ref q1, .int 0, .int 0, .int 0, .int 0, .int 0, .int 0, .int 0, .int 0])), (q1, .inl (tB, 500, .inl (fun _ => 0)))] H := hP
  have hD : va_D A [(a_o, .inr (3, [.ref q1, .int 0, .int 0, .int 0, .int 0, .int 0, .int 0, .int 0, .int 0])), (q1, .inl (tB, 500, .inl (fun _ => 0)))] := hD
  refine lv_aload_n hx hb dX3_init_13 rfl (lv_at hl 0 rfl) ?_
  refine lv_iconst (v := (0 : Int32)) hx hb dX3_init_14 (by decide) ?_
  refine fput E hP hD hS 0 rfl fd_X3_15 fp_X3 (ty := .int) (v := .int (0 : Int32)) rfl rfl rfl rfl (Nat.le_of_ble_eq_true rfl) dX3_init_15 (fun H locs hP hD hS => ?_)
  have hP : va_P D vwCl [(a_o, .inr (3, [.ref q1, .int (0 : Int32), .int 0, .int 0, .int 0, .int 0, .int 0, .int 0, .int 0])), (q1, .inl (tB, 500, .inl (fun _ => 0)))] H := hP
  have hD : va_D A [(a_o, .inr (3, [.ref q1, .int (0 : Int32), .int 0, .int 0, .int 0, .int 0, .int 0, .int 0, .int 0])), (q1, .inl (tB, 500, .inl (fun _ => 0)))] := hD
  refine lv_aload_n hx hb dX3_init_18 rfl (lv_at hl 0 rfl) ?_
  refine lv_iconst (v := (-1 : Int32)) hx hb dX3_init_19 (by decide) ?_
  refine fput E hP hD hS 0 rfl fd_X3_19 fp_X3 (ty := .int) (v := .int (-1 : Int32)) rfl rfl rfl rfl (Nat.le_of_ble_eq_true rfl) dX3_init_20 (fun H locs hP hD hS => ?_)
  have hP : va_P D vwCl [(a_o, .inr (3, [.ref q1, .int (0 : Int32), .int (-1 : Int32), .int 0, .int 0, .int 0, .int 0, .int 0, .int 0])), (q1, .inl (tB, 500, .inl (fun _ => 0)))] H := hP
  have hD : va_D A [(a_o, .inr (3, [.ref q1, .int (0 : Int32), .int (-1 : Int32), .int 0, .int 0, .int 0, .int 0, .int 0, .int 0])), (q1, .inl (tB, 500, .inl (fun _ => 0)))] := hD
  refine lv_aload_n hx hb dX3_init_23 rfl (lv_at hl 0 rfl) ?_
  refine lv_iconst (v := (0 : Int32)) hx hb dX3_init_24 (by decide) ?_
  refine fput E hP hD hS 0 rfl fd_X3_22 fp_X3 (ty := .int) (v := .int (0 : Int32)) rfl rfl rfl rfl (Nat.le_of_ble_eq_true rfl) dX3_init_25 (fun H locs hP hD hS => ?_)
  have hP : va_P D vwCl [(a_o, .inr (3, [.ref q1, .int (0 : Int32), .int (-1 : Int32), .int (0 : Int32), .int 0, .int 0, .int 0, .int 0, .int 0])), (q1, .inl (tB, 500, .inl (fun _ => 0)))] H := hP
  have hD : va_D A [(a_o, .inr (3, [.ref q1, .int (0 : Int32), .int (-1 : Int32), .int (0 : Int32), .int 0, .int 0, .int 0, .int 0, .int 0])), (q1, .inl (tB, 500, .inl (fun _ => 0)))] := hD
  refine lv_aload_n hx hb dX3_init_28 rfl (lv_at hl 0 rfl) ?_
  refine lv_iconst (v := (0 : Int32)) hx hb dX3_init_29 (by decide) ?_
  refine fput E hP hD hS 0 rfl fd_X3_25 fp_X3 (ty := .int) (v := .int (0 : Int32)) rfl rfl rfl rfl (Nat.le_of_ble_eq_true rfl) dX3_init_30 (fun H locs hP hD hS => ?_)
  have hP : va_P D vwCl [(a_o, .inr (3, [.ref q1, .int (0 : Int32), .int (-1 : Int32), .int (0 : Int32), .int (0 : Int32), .int 0, .int 0, .int 0, .int 0])), (q1, .inl (tB, 500, .inl (fun _ => 0)))] H := hP
  have hD : va_D A [(a_o, .inr (3, [.ref q1, .int (0 : Int32), .int (-1 : Int32), .int (0 : Int32), .int (0 : Int32), .int 0, .int 0, .int 0, .int 0])), (q1, .inl (tB, 500, .inl (fun _ => 0)))] := hD
  refine lv_aload_n hx hb dX3_init_33 rfl (lv_at hl 0 rfl) ?_
  refine lv_iconst (v := (0 : Int32)) hx hb dX3_init_34 (by decide) ?_
  refine fput E hP hD hS 0 rfl fd_X3_28 fp_X3 (ty := .int) (v := .int (0 : Int32)) rfl rfl rfl rfl (Nat.le_of_ble_eq_true rfl) dX3_init_35 (fun H locs hP hD hS => ?_)
  have hP : va_P D vwCl [(a_o, .inr (3, [.ref q1, .int (0 : Int32), .int (-1 : Int32), .int (0 : Int32), .int (0 : Int32), .int (0 : Int32), .int 0, .int 0, .int 0])), (q1, .inl (tB, 500, .inl (fun _ => 0)))] H := hP
  have hD : va_D A [(a_o, .inr (3, [.ref q1, .int (0 : Int32), .int (-1 : Int32), .int (0 : Int32), .int (0 : Int32), .int (0 : Int32), .int 0, .int 0, .int 0])), (q1, .inl (tB, 500, .inl (fun _ => 0)))] := hD
  refine lv_aload_n hx hb dX3_init_38 rfl (lv_at hl 0 rfl) ?_
  refine lv_iconst (v := (0 : Int32)) hx hb dX3_init_39 (by decide) ?_
  refine fput E hP hD hS 0 rfl fd_X3_31 fp_X3 (ty := .int) (v := .int (0 : Int32)) rfl rfl rfl rfl (Nat.le_of_ble_eq_true rfl) dX3_init_40 (fun H locs hP hD hS => ?_)
  have hP : va_P D vwCl [(a_o, .inr (3, [.ref q1, .int (0 : Int32), .int (-1 : Int32), .int (0 : Int32), .int (0 : Int32), .int (0 : Int32), .int (0 : Int32), .int 0, .int 0])), (q1, .inl (tB, 500, .inl (fun _ => 0)))] H := hP
  have hD : va_D A [(a_o, .inr (3, [.ref q1, .int (0 : Int32), .int (-1 : Int32), .int (0 : Int32), .int (0 : Int32), .int (0 : Int32), .int (0 : Int32), .int 0, .int 0])), (q1, .inl (tB, 500, .inl (fun _ => 0)))] := hD
  refine lv_aload_n hx hb dX3_init_43 rfl (lv_at hl 0 rfl) ?_
  refine lv_iconst (v := (0 : Int32)) hx hb dX3_init_44 (by decide) ?_
  refine fput E hP hD hS 0 rfl fd_X3_34 fp_X3 (ty := .int) (v := .int (0 : Int32)) rfl rfl rfl rfl (Nat.le_of_ble_eq_true rfl) dX3_init_45 (fun H locs hP hD hS => ?_)
  have hP : va_P D vwCl [(a_o, .inr (3, [.ref q1, .int (0 : Int32), .int (-1 : Int32), .int (0 : Int32), .int (0 : Int32), .int (0 : Int32), .int (0 : Int32), .int (0 : Int32), .int 0])), (q1, .inl (tB, 500, .inl (fun _ => 0)))] H := hP
  have hD : va_D A [(a_o, .inr (3, [.ref q1, .int (0 : Int32), .int (-1 : Int32), .int (0 : Int32), .int (0 : Int32), .int (0 : Int32), .int (0 : Int32), .int (0 : Int32), .int 0])), (q1, .inl (tB, 500, .inl (fun _ => 0)))] := hD
  refine lv_aload_n hx hb dX3_init_48 rfl (lv_at hl 0 rfl) ?_
  refine lv_iconst (v := (0 : Int32)) hx hb dX3_init_49 (by decide) ?_
  refine fput E hP hD hS 0 rfl fd_X3_37 fp_X3 (ty := .int) (v := .int (0 : Int32)) rfl rfl rfl rfl (Nat.le_of_ble_eq_true rfl) dX3_init_50 (fun H locs hP hD hS => ?_)
  have hP : va_P D vwCl [(a_o, .inr (3, [.ref q1, .int (0 : Int32), .int (-1 : Int32), .int (0 : Int32), .int (0 : Int32), .int (0 : Int32), .int (0 : Int32), .int (0 : Int32), .int (0 : Int32)])), (q1, .inl (tB, 500, .inl (fun _ => 0)))] H := hP
  have hD : va_D A [(a_o, .inr (3, [.ref q1, .int (0 : Int32), .int (-1 : Int32), .int (0 : Int32), .int (0 : Int32), .int (0 : Int32), .int (0 : Int32), .int (0 : Int32), .int (0 : Int32)])), (q1, .inl (tB, 500, .inl (fun _ => 0)))] := hD
  exact hF (fun k => ([q1] : List Nat).getD k 0) _ _ _ _ hP hD hS dX3_init_53
theorem c_X5_init (l : Launch) (D : va_G) (tB tI tZ : ClassId) (a_o x1 x2 : Nat) : CN l D (tyL tB tI tZ) yX5_init (.code yX5_init cX5_init 3 none) 1 2 12 12 [.ref a_o, .ref x1, .ref x2] [(a_o, .inr (5, [.null, .null, .int 0, .int 0, .int 0, .null, .null, .int 0]))] (fun u => [(a_o, .inr (5, [.ref x1, .ref x2, .int (0 : Int32), .int (0 : Int32), .int (0 : Int32), .ref (u 0), .ref (u 1), .int (0 : Int32)])), (u 0, .inl (tI, 6, .inl (fun _ => 0))), (u 1, .inl (tI, 6, .inl (fun _ => 0)))]) := by
  refine CN.intro (Nat.le_of_ble_eq_true rfl) (by decide) rfl ?_
  intro p e s m below meth c Q A ls E hin hA hP hD hS hl hF
  obtain ⟨⟨hx, hb, hml, hown, hts⟩, hK⟩ := id E
  have hl : lv_has ls 3 [(0, .ref a_o), (1, .ref x1), (2, .ref x2)] := hl
  refine lv_aload_n hx hb dX5_init_0 rfl (lv_at hl 0 rfl) ?_
  refine fobj E hl.1 wm_X5_3 (Nat.le_of_ble_eq_true rfl) (Nat.le_of_ble_eq_true rfl) dX5_init_1 ?_
  refine lv_aload_n hx hb dX5_init_4 rfl (lv_at hl 0 rfl) ?_
  refine lv_iconst (v := (0 : Int32)) hx hb dX5_init_5 (by decide) ?_
  refine fput E hP hD hS 0 rfl fd_X5_9 fp_X5 (ty := .int) (v := .int (0 : Int32)) rfl rfl rfl rfl (Nat.le_of_ble_eq_true rfl) dX5_init_6 (fun H locs hP hD hS => ?_)
  have hP : va_P D vwCl [(a_o, .inr (5, [.null, .null, .int (0 : Int32), .int 0, .int 0, .null, .null, .int 0]))] H := hP
  have hD : va_D A [(a_o, .inr (5, [.null, .null, .int (0 : Int32), .int 0, .int 0, .null, .null, .int 0]))] := hD
  refine lv_aload_n hx hb dX5_init_9 rfl (lv_at hl 0 rfl) ?_
  refine lv_iconst (v := (0 : Int32)) hx hb dX5_init_10 (by decide) ?_
  refine fput E hP hD hS 0 rfl fd_X5_15 fp_X5 (ty := .int) (v := .int (0 : Int32)) rfl rfl rfl rfl (Nat.le_of_ble_eq_true rfl) dX5_init_11 (fun H locs hP hD hS => ?_)
  have hP : va_P D vwCl [(a_o, .inr (5, [.null, .null, .int (0 : Int32), .int (0 : Int32), .int 0, .null, .null, .int 0]))] H := hP
  have hD : va_D A [(a_o, .inr (5, [.null, .null, .int (0 : Int32), .int (0 : Int32), .int 0, .null, .null, .int 0]))] := hD
  refine lv_aload_n hx hb dX5_init_14 rfl (lv_at hl 0 rfl) ?_
  refine lv_iconst (v := (0 : Int32)) hx hb dX5_init_15 (by decide) ?_
  refine fput E hP hD hS 0 rfl fd_X5_18 fp_X5 (ty := .int) (v := .int (0 : Int32)) rfl rfl rfl rfl (Nat.le_of_ble_eq_true rfl) dX5_init_16 (fun H locs hP hD hS => ?_)
  have hP : va_P D vwCl [(a_o, .inr (5, [.null, .null, .int (0 : Int32), .int (0 : Int32), .int (0 : Int32), .null, .null, .int 0]))] H := hP
  have hD : va_D A [(a_o, .inr (5, [.null, .null, .int (0 : Int32), .int (0 : Int32), .int (0 : Int32), .null, .null, .int 0]))] := hD
  refine lv_aload_n hx hb dX5_init_19 rfl (lv_at hl 0 rfl) ?_
  refine lv_bipush (v := (6 : Int32)) hx hb dX5_init_20 (by decide) ?_
  refine fnewa E 1 rfl (atype := .int) rfl wac_int (fun _ _ h => h) hP hD hS hA (a0 := (6, .inl (fun _ => 0))) (N' := 6) (fun _ => rfl) (by decide) (by decide) (by decide) (Nat.le_of_ble_eq_true rfl) (Nat.le_of_ble_eq_true rfl) dX5_init_22 (fun q1 H hP hD hS => ?_)
  have hP : va_P D vwCl [(a_o, .inr (5, [.null, .null, .int (0 : Int32), .int (0 : Int32), .int (0 : Int32), .null, .null, .int 0])), (q1, .inl (tI, 6, .inl (fun _ => 0)))] H := hP
  have hD : va_D A [(a_o, .inr (5, [.null, .null, .int (0 : Int32), .int (0 : Int32), .int (0 : Int32), .null, .null, .int 0])), (q1, .inl (tI, 6, .inl (fun _ => 0)))] := hD
  refine W.widen (k := 1) (n := 6) (by omega) (by omega) ?_
  refine fputF E hP hD hS 0 rfl fd_X5_21 fp_X5 (ty := .array .int) (v := .ref q1) rfl hin rfl rfl rfl rfl (Nat.le_of_ble_eq_true rfl) dX5_init_24 (fun H locs hP hD hS => ?_)
  have hP : va_P D vwCl [(a_o, .inr (5, [.null, .null, .int (0 : Int32), .int (0 : Int32), .int (0 : Int32), .ref q1, .null, .int 0])), (q1, .inl (tI, 6, .inl (fun _ => 0)))] H := hP
  have hD : va_D A [(a_o, .inr (5, [.null, .null, .int (0 : Int32), .int (0 : Int32), .int (0 : Int32), .ref q1, .null, .int 0])), (q1, .inl (tI, 6, .inl (fun _ => 0)))] := hD
  refine lv_aload_n hx hb dX5_init_27 rfl (lv_at hl 0 rfl) ?_
  refine lv_bipush (v := (6 : Int32)) hx hb dX5_init_28 (by decide) ?_
  refine fnewa E 1 rfl (atype := .int) rfl wac_int (fun _ _ h => h) hP hD hS hA (a0 := (6, .inl (fun _ => 0))) (N' := 6) (fun _ => rfl) (by decide) (by decide) (by decide) (Nat.le_of_ble_eq_true rfl) (Nat.le_of_ble_eq_true rfl) dX5_init_30 (fun q2 H hP hD hS => ?_)
  have hP : va_P D vwCl [(a_o, .inr (5, [.null, .null, .int (0 : Int32), .int (0 : Int32), .int (0 : Int32), .ref q1, .null, .int 0])), (q1, .inl (tI, 6, .inl (fun _ => 0))), (q2, .inl (tI, 6, .inl (fun _ => 0)))] H := hP
  have hD : va_D A [(a_o, .inr (5, [.null, .null, .int (0 : Int32), .int (0 : Int32), .int (0 : Int32), .ref q1, .null, .int 0])), (q1, .inl (tI, 6, .inl (fun _ => 0))), (q2, .inl (tI, 6, .inl (fun _ => 0)))] := hD
  refine W.widen (k := 2) (n := 12) (by omega) (by omega) ?_
  refine fputF E hP hD hS 0 rfl fd_X5_25 fp_X5 (ty := .array .int) (v := .ref q2) rfl hin rfl rfl rfl rfl (Nat.le_of_ble_eq_true rfl) dX5_init_32 (fun H locs hP hD hS => ?_)
  have hP : va_P D vwCl [(a_o, .inr (5, [.null, .null, .int (0 : Int32), .int (0 : Int32), .int (0 : Int32), .ref q1, .ref q2, .int 0])), (q1, .inl (tI, 6, .inl (fun _ => 0))), (q2, .inl (tI, 6, .inl (fun _ => 0)))] H := hP
  have hD : va_D A [(a_o, .inr (5, [.null, .null, .int (0 : Int32), .int (0 : Int32), .int (0 : Int32), .ref q1, .ref q2, .int 0])), (q1, .inl (tI, 6, .inl (fun _ => 0))), (q2, .inl (tI, 6, .inl (fun _ => 0)))] := hD
  refine lv_aload_n hx hb dX5_init_35 rfl (lv_at hl 0 rfl) ?_
  refine lv_iconst (v := (0 : Int32)) hx hb dX5_init_36 (by decide) ?_
  refine fput E hP hD hS 0 rfl fd_X5_28 fp_X5 (ty := .int) (v := .int (0 : Int32)) rfl rfl rfl rfl (Nat.le_of_ble_eq_true rfl) dX5_init_37 (fun H locs hP hD hS => ?_)
  have hP : va_P D vwCl [(a_o, .inr (5, [.null, .null, .int (0 : Int32), .int (0 : Int32), .int (0 : Int32), .ref q1, .ref q2, .int (0 : Int32)])), (q1, .inl (tI, 6, .inl (fun _ => 0))), (q2, .inl (tI, 6, .inl (fun _ => 0)))] H := hP
  have hD : va_D A [(a_o, .inr (5, [.null, .null, .int (0 : Int32), .int (0 : Int32), .int (0 : Int32), .ref q1, .ref q2, .int (0 : Int32)])), (q1, .inl (tI, 6, .inl (fun _ => 0))), (q2, .inl (tI, 6, .inl (fun _ => 0)))] := hD
  refine lv_aload_n hx hb dX5_init_40 rfl (lv_at hl 0 rfl) ?_
  refine lv_aload_n hx hb dX5_init_41 rfl (lv_at hl 1 rfl) ?_
  refine fputF E hP hD hS 0 rfl fd_X5_31 fp_X5 (ty := .object "HeavierToCome$Land") (v := .ref x1) rfl hin rfl rfl rfl rfl (Nat.le_of_ble_eq_true rfl) dX5_init_42 (fun H locs hP hD hS => ?_)
  have hP : va_P D vwCl [(a_o, .inr (5, [.ref x1, .null, .int (0 : Int32), .int (0 : Int32), .int (0 : Int32), .ref q1, .ref q2, .int (0 : Int32)])), (q1, .inl (tI, 6, .inl (fun _ => 0))), (q2, .inl (tI, 6, .inl (fun _ => 0)))] H := hP
  have hD : va_D A [(a_o, .inr (5, [.ref x1, .null, .int (0 : Int32), .int (0 : Int32), .int (0 : Int32), .ref q1, .ref q2, .int (0 : Int32)])), (q1, .inl (tI, 6, .inl (fun _ => 0))), (q2, .inl (tI, 6, .inl (fun _ => 0)))] := hD
  refine lv_aload_n hx hb dX5_init_45 rfl (lv_at hl 0 rfl) ?_
  refine lv_aload_n hx hb dX5_init_46 rfl (lv_at hl 2 rfl) ?_
  refine fputF E hP hD hS 0 rfl fd_X5_35 fp_X5 (ty := .object "HeavierToCome$Days") (v := .ref x2) rfl hin rfl rfl rfl rfl (Nat.le_of_ble_eq_true rfl) dX5_init_47 (fun H locs hP hD hS => ?_)
  have hP : va_P D vwCl [(a_o, .inr (5, [.ref x1, .ref x2, .int (0 : Int32), .int (0 : Int32), .int (0 : Int32), .ref q1, .ref q2, .int (0 : Int32)])), (q1, .inl (tI, 6, .inl (fun _ => 0))), (q2, .inl (tI, 6, .inl (fun _ => 0)))] H := hP
  have hD : va_D A [(a_o, .inr (5, [.ref x1, .ref x2, .int (0 : Int32), .int (0 : Int32), .int (0 : Int32), .ref q1, .ref q2, .int (0 : Int32)])), (q1, .inl (tI, 6, .inl (fun _ => 0))), (q2, .inl (tI, 6, .inl (fun _ => 0)))] := hD
  exact hF (fun k => ([q1, q2] : List Nat).getD k 0) _ _ _ _ hP hD hS dX5_init_50
theorem c_X4_init (l : Launch) (D : va_G) (tB tI tZ : ClassId) (a_o : Nat) : CN l D (tyL tB tI tZ) yX4_init (.code yX4_init cX4_init 1 none) 1 2 70 12 [.ref a_o] [(a_o, .inr (4, [.int 0, .null, .null]))] (fun u => [(a_o, .inr (4, [.int (0 : Int32), .ref (u 0), .ref (u 1)])), (u 0, .inl (tI, 6, .inl (fun _ => 0))), (u 1, .inl (tI, 64, .inl (fun _ => 0)))]) := by
  refine CN.intro (Nat.le_of_ble_eq_true rfl) (by decide) rfl ?_
  intro p e s m below meth c Q A ls E hin hA hP hD hS hl hF
  obtain ⟨⟨hx, hb, hml, hown, hts⟩, hK⟩ := id E
  have hl : lv_has ls 1 [(0, .ref a_o)] := hl
  refine lv_aload_n hx hb dX4_init_0 rfl (lv_at hl 0 rfl) ?_
  refine fobj E hl.1 wm_X4_3 (Nat.le_of_ble_eq_true rfl) (Nat.le_of_ble_eq_true rfl) dX4_init_1 ?_
  refine lv_aload_n hx hb dX4_init_4 rfl (lv_at hl 0 rfl) ?_
  refine lv_iconst (v := (0 : Int32)) hx hb dX4_init_5 (by decide) ?_
  refine fput E hP hD hS 0 rfl fd_X4_9 fp_X4 (ty := .int) (v := .int (0 : Int32)) rfl rfl rfl rfl (Nat.le_of_ble_eq_true rfl) dX4_init_6 (fun H locs hP hD hS => ?_)
  have hP : va_P D vwCl [(a_o, .inr (4, [.int (0 : Int32), .null, .null]))] H := hP
  have hD : va_D A [(a_o, .inr (4, [.int (0 : Int32), .null, .null]))] := hD
  refine lv_aload_n hx hb dX4_init_9 rfl (lv_at hl 0 rfl) ?_
  refine lv_bipush (v := (6 : Int32)) hx hb dX4_init_10 (by decide) ?_
  refine fnewa E 1 rfl (atype := .int) rfl wac_int (fun _ _ h => h) hP hD hS hA (a0 := (6, .inl (fun _ => 0))) (N' := 6) (fun _ => rfl) (by decide) (by decide) (by decide) (Nat.le_of_ble_eq_true rfl) (Nat.le_of_ble_eq_true rfl) dX4_init_12 (fun q1 H hP hD hS => ?_)
  have hP : va_P D vwCl [(a_o, .inr (4, [.int (0 : Int32), .null, .null])), (q1, .inl (tI, 6, .inl (fun _ => 0)))] H := hP
  have hD : va_D A [(a_o, .inr (4, [.int (0 : Int32), .null, .null])), (q1, .inl (tI, 6, .inl (fun _ => 0)))] := hD
  refine W.widen (k := 1) (n := 6) (by omega) (by omega) ?_
  refine fputF E hP hD hS 0 rfl fd_X4_15 fp_X4 (ty := .array .int) (v := .ref q1) rfl hin rfl rfl rfl rfl (Nat.le_of_ble_eq_true rfl) dX4_init_14 (fun H locs hP hD hS => ?_)
  have hP : va_P D vwCl [(a_o, .inr (4, [.int (0 : Int32), .ref q1, .null])), (q1, .inl (tI, 6, .inl (fun _ => 0)))] H := hP
  have hD : va_D A [(a_o, .inr (4, [.int (0 : Int32), .ref q1, .null])), (q1, .inl (tI, 6, .inl (fun _ => 0)))] := hD
  refine lv_aload_n hx hb dX4_init_17 rfl (lv_at hl 0 rfl) ?_
  refine lv_bipush (v := (64 : Int32)) hx hb dX4_init_18 (by decide) ?_
  refine fnewa E 1 rfl (atype := .int) rfl wac_int (fun _ _ h => h) hP hD hS hA (a0 := (64, .inl (fun _ => 0))) (N' := 64) (fun _ => rfl) (by decide) (by decide) (by decide) (Nat.le_of_ble_eq_true rfl) (Nat.le_of_ble_eq_true rfl) dX4_init_20 (fun q2 H hP hD hS => ?_)
  have hP : va_P D vwCl [(a_o, .inr (4, [.int (0 : Int32), .ref q1, .null])), (q1, .inl (tI, 6, .inl (fun _ => 0))), (q2, .inl (tI, 64, .inl (fun _ => 0)))] H := hP
  have hD : va_D A [(a_o, .inr (4, [.int (0 : Int32), .ref q1, .null])), (q1, .inl (tI, 6, .inl (fun _ => 0))), (q2, .inl (tI, 64, .inl (fun _ => 0)))] := hD
  refine W.widen (k := 2) (n := 70) (by omega) (by omega) ?_
  refine fputF E hP hD hS 0 rfl fd_X4_19 fp_X4 (ty := .array .int) (v := .ref q2) rfl hin rfl rfl rfl rfl (Nat.le_of_ble_eq_true rfl) dX4_init_22 (fun H locs hP hD hS => ?_)
  have hP : va_P D vwCl [(a_o, .inr (4, [.int (0 : Int32), .ref q1, .ref q2])), (q1, .inl (tI, 6, .inl (fun _ => 0))), (q2, .inl (tI, 64, .inl (fun _ => 0)))] H := hP
  have hD : va_D A [(a_o, .inr (4, [.int (0 : Int32), .ref q1, .ref q2])), (q1, .inl (tI, 6, .inl (fun _ => 0))), (q2, .inl (tI, 64, .inl (fun _ => 0)))] := hD
  exact hF (fun k => ([q1, q2] : List Nat).getD k 0) _ _ _ _ hP hD hS dX4_init_25
theorem c_X2_init (l : Launch) (D : va_G) (tB tI tZ : ClassId) (a_o : Nat) : CN l D (tyL tB tI tZ) yX2_init (.code yX2_init cX2_init 1 none) 1 2 12 12 [.ref a_o] [(a_o, .inr (2, [.int 0, .null, .null]))] (fun u => [(a_o, .inr (2, [.int (0 : Int32), .ref (u 0), .ref (u 1)])), (u 0, .inl (tI, 6, .inl (fun _ => 0))), (u 1, .inl (tI, 6, .inl (fun _ => 0)))]) := by
  refine CN.intro (Nat.le_of_ble_eq_true rfl) (by decide) rfl ?_
  intro p e s m below meth c Q A ls E hin hA hP hD hS hl hF
  obtain ⟨⟨hx, hb, hml, hown, hts⟩, hK⟩ := id E
  have hl : lv_has ls 1 [(0, .ref a_o)] := hl
  refine lv_aload_n hx hb dX2_init_0 rfl (lv_at hl 0 rfl) ?_
  refine fobj E hl.1 wm_X2_3 (Nat.le_of_ble_eq_true rfl) (Nat.le_of_ble_eq_true rfl) dX2_init_1 ?_
  refine lv_aload_n hx hb dX2_init_4 rfl (lv_at hl 0 rfl) ?_
  refine lv_iconst (v := (0 : Int32)) hx hb dX2_init_5 (by decide) ?_
  refine fput E hP hD hS 0 rfl fd_X2_9 fp_X2 (ty := .int) (v := .int (0 : Int32)) rfl rfl rfl rfl (Nat.le_of_ble_eq_true rfl) dX2_init_6 (fun H locs hP hD hS => ?_)
  have hP : va_P D vwCl [(a_o, .inr (2, [.int (0 : Int32), .null, .null]))] H := hP
  have hD : va_D A [(a_o, .inr (2, [.int (0 : Int32), .null, .null]))] := hD
  refine lv_aload_n hx hb dX2_init_9 rfl (lv_at hl 0 rfl) ?_
  refine lv_bipush (v := (6 : Int32)) hx hb dX2_init_10 (by decide) ?_
  refine fnewa E 1 rfl (atype := .int) rfl wac_int (fun _ _ h => h) hP hD hS hA (a0 := (6, .inl (fun _ => 0))) (N' := 6) (fun _ => rfl) (by decide) (by decide) (by decide) (Nat.le_of_ble_eq_true rfl) (Nat.le_of_ble_eq_true rfl) dX2_init_12 (fun q1 H hP hD hS => ?_)
  have hP : va_P D vwCl [(a_o, .inr (2, [.int (0 : Int32), .null, .null])), (q1, .inl (tI, 6, .inl (fun _ => 0)))] H := hP
  have hD : va_D A [(a_o, .inr (2, [.int (0 : Int32), .null, .null])), (q1, .inl (tI, 6, .inl (fun _ => 0)))] := hD
  refine W.widen (k := 1) (n := 6) (by omega) (by omega) ?_
  refine fputF E hP hD hS 0 rfl fd_X2_15 fp_X2 (ty := .array .int) (v := .ref q1) rfl hin rfl rfl rfl rfl (Nat.le_of_ble_eq_true rfl) dX2_init_14 (fun H locs hP hD hS => ?_)
  have hP : va_P D vwCl [(a_o, .inr (2, [.int (0 : Int32), .ref q1, .null])), (q1, .inl (tI, 6, .inl (fun _ => 0)))] H := hP
  have hD : va_D A [(a_o, .inr (2, [.int (0 : Int32), .ref q1, .null])), (q1, .inl (tI, 6, .inl (fun _ => 0)))] := hD
  refine lv_aload_n hx hb dX2_init_17 rfl (lv_at hl 0 rfl) ?_
  refine lv_bipush (v := (6 : Int32)) hx hb dX2_init_18 (by decide) ?_
  refine fnewa E 1 rfl (atype := .int) rfl wac_int (fun _ _ h => h) hP hD hS hA (a0 := (6, .inl (fun _ => 0))) (N' := 6) (fun _ => rfl) (by decide) (by decide) (by decide) (Nat.le_of_ble_eq_true rfl) (Nat.le_of_ble_eq_true rfl) dX2_init_20 (fun q2 H hP hD hS => ?_)
  have hP : va_P D vwCl [(a_o, .inr (2, [.int (0 : Int32), .ref q1, .null])), (q1, .inl (tI, 6, .inl (fun _ => 0))), (q2, .inl (tI, 6, .inl (fun _ => 0)))] H := hP
  have hD : va_D A [(a_o, .inr (2, [.int (0 : Int32), .ref q1, .null])), (q1, .inl (tI, 6, .inl (fun _ => 0))), (q2, .inl (tI, 6, .inl (fun _ => 0)))] := hD
  refine W.widen (k := 2) (n := 12) (by omega) (by omega) ?_
  refine fputF E hP hD hS 0 rfl fd_X2_19 fp_X2 (ty := .array .int) (v := .ref q2) rfl hin rfl rfl rfl rfl (Nat.le_of_ble_eq_true rfl) dX2_init_22 (fun H locs hP hD hS => ?_)
  have hP : va_P D vwCl [(a_o, .inr (2, [.int (0 : Int32), .ref q1, .ref q2])), (q1, .inl (tI, 6, .inl (fun _ => 0))), (q2, .inl (tI, 6, .inl (fun _ => 0)))] H := hP
  have hD : va_D A [(a_o, .inr (2, [.int (0 : Int32), .ref q1, .ref q2])), (q1, .inl (tI, 6, .inl (fun _ => 0))), (q2, .inl (tI, 6, .inl (fun _ => 0)))] := hD
  exact hF (fun k => ([q1, q2] : List Nat).getD k 0) _ _ _ _ hP hD hS dX2_init_25
