
theorem shl_nat {k : Nat} (h : k < 31) : ((1 : Int32) <<< ((nI k) &&& 31)) = nI (2 ^ k) := bit_nat h
theorem zb {x : Int32} (h : x = 0 ∨ x = 1) : vp_nar .boolean x = x := by rcases h with rfl | rfl <;> rfl
theorem cd_step {a k m : Nat} (h : a ≤ 6 ^ k) (hm : m ≤ 6) : a * m ≤ 6 ^ (k + 1) := by rw [Nat.pow_succ]; exact Nat.mul_le_mul h hm
theorem cd_end {a k : Nat} (h : a ≤ 6 ^ k) (hk : k ≤ 6) : a ≤ 46656 := by
  have : ∀ k, k < 7 → 6 ^ k ≤ 46656 := by decide
  exact Nat.le_trans h (this k (by omega))
theorem w64 (x : Int32) : x.toInt64.toInt = x.toInt := Int32.toInt_toInt64 x

def S_X7_in (x0 : Int64) (x2 : Int64) (x4 : Int64) : Int32 := (if (lg_cmp x0 x2) < 0 then (0 : Int32) else (if 0 < (lg_cmp x0 x4) then (0 : Int32) else (1 : Int32)))
theorem z_X7_in (x0 : Int64) (x2 : Int64) (x4 : Int64)  : S_X7_in x0 x2 x4 = 0 ∨ S_X7_in x0 x2 x4 = 1 := by unfold S_X7_in; (repeat' split) <;> first | exact Or.inl rfl | exact Or.inr rfl | assumption
set_option maxHeartbeats 4000000 in
set_option maxRecDepth 100000 in
theorem c_X7_in (l : Launch) (D : va_G) (tB tI tZ : ClassId)   (x0 : Int64) (x2 : Int64) (x4 : Int64)  : CT l D (tyL tB tI tZ) yX7_in (.code yX7_in cX7_in 6 (some .boolean)) 0 0 [.long x0, .long x2, .long x4] [] (fun u : Int32 => some (.int (u))) (fun _ : Int32 => []) (S_X7_in x0 x2 x4) := by
  refine CT.intro (k := 0) (Nat.le_of_ble_eq_true rfl) (by decide) ?_
  intro p e s m below meth c Q A ls E hA hP hD hS hl hF
  obtain ⟨⟨hx, hb, hml, hown, hts⟩, hK⟩ := id E
  generalize hR : S_X7_in x0 x2 x4 = RES at hF
  unfold S_X7_in at hR
  have hl : lv_has ls 6 [(0, .long x0), (2, .long x2), (4, .long x4)] := hl
  refine lv_lload_n hx hb dX7_in_0 rfl (lv_at hl 0 rfl) ?_
  refine lv_lload_n hx hb dX7_in_1 rfl (lv_at hl 1 rfl) ?_
  refine W.lcmp hx hb dX7_in_2 ?_
  refine lv_if_lt (tgt := 17) hx hb dX7_in_3 (by decide) (fun c_1 => ?_) (fun c_1 => ?_)
  · rw [if_pos c_1] at hR
    refine lv_iconst (v := (0 : Int32)) hx hb dX7_in_17 (by decide) ?_
    subst hR
    exact (hF _ _ _ _ hP hS).1 _ rfl ⟨.boolean, rfl, rfl⟩ dX7_in_18
  · rw [if_neg c_1] at hR
    refine lv_lload_n hx hb dX7_in_6 rfl (lv_at hl 0 rfl) ?_
    refine lv_lload hx hb dX7_in_7 (lv_at hl 2 rfl) ?_
    refine W.lcmp hx hb dX7_in_9 ?_
    refine lv_if_gt (tgt := 17) hx hb dX7_in_10 (by decide) (fun c_2 => ?_) (fun c_2 => ?_)
    · rw [if_pos c_2] at hR
      refine lv_iconst (v := (0 : Int32)) hx hb dX7_in_17 (by decide) ?_
      subst hR
      exact (hF _ _ _ _ hP hS).1 _ rfl ⟨.boolean, rfl, rfl⟩ dX7_in_18
    · rw [if_neg c_2] at hR
      refine lv_iconst (v := (1 : Int32)) hx hb dX7_in_13 (by decide) ?_
      refine lv_goto (tgt := 18) hx hb dX7_in_14 (by decide) ?_
      subst hR
      exact (hF _ _ _ _ hP hS).1 _ rfl ⟨.boolean, rfl, rfl⟩ dX7_in_18

def S_X7_has (x0 : Int32) (x1 : Int32) : Int32 := (if ((x0 >>> (x1 &&& 31)) &&& (1 : Int32)) = (1 : Int32) then (1 : Int32) else (0 : Int32))
theorem z_X7_has (x0 : Int32) (x1 : Int32)  : S_X7_has x0 x1 = 0 ∨ S_X7_has x0 x1 = 1 := by unfold S_X7_has; (repeat' split) <;> first | exact Or.inl rfl | exact Or.inr rfl | assumption
set_option maxHeartbeats 4000000 in
set_option maxRecDepth 100000 in
theorem c_X7_has (l : Launch) (D : va_G) (tB tI tZ : ClassId)   (x0 : Int32) (x1 : Int32)  : CT l D (tyL tB tI tZ) yX7_has (.code yX7_has cX7_has 2 (some .boolean)) 0 0 [.int x0, .int x1] [] (fun u : Int32 => some (.int (u))) (fun _ : Int32 => []) (S_X7_has x0 x1) := by
  refine CT.intro (k := 0) (Nat.le_of_ble_eq_true rfl) (by decide) ?_
  intro p e s m below meth c Q A ls E hA hP hD hS hl hF
  obtain ⟨⟨hx, hb, hml, hown, hts⟩, hK⟩ := id E
  generalize hR : S_X7_has x0 x1 = RES at hF
  unfold S_X7_has at hR
  have hl : lv_has ls 2 [(0, .int x0), (1, .int x1)] := hl
  refine lv_iload_n hx hb dX7_has_0 rfl (lv_at hl 0 rfl) ?_
  refine lv_iload_n hx hb dX7_has_1 rfl (lv_at hl 1 rfl) ?_
  refine lv_ishr hx hb dX7_has_2 ?_
  refine lv_iconst (v := (1 : Int32)) hx hb dX7_has_3 (by decide) ?_
  refine lv_iand hx hb dX7_has_4 ?_
  refine lv_iconst (v := (1 : Int32)) hx hb dX7_has_5 (by decide) ?_
  refine lv_icmp_ne (tgt := 13) hx hb dX7_has_6 (by decide) (fun c_1 => ?_) (fun c_1 => ?_)
  · rw [if_neg c_1] at hR
    refine lv_iconst (v := (0 : Int32)) hx hb dX7_has_13 (by decide) ?_
    subst hR
    exact (hF _ _ _ _ hP hS).1 _ rfl ⟨.boolean, rfl, rfl⟩ dX7_has_14
  · rw [if_pos c_1] at hR
    refine lv_iconst (v := (1 : Int32)) hx hb dX7_has_9 (by decide) ?_
    refine lv_goto (tgt := 14) hx hb dX7_has_10 (by decide) ?_
    subst hR
    exact (hF _ _ _ _ hP hS).1 _ rfl ⟨.boolean, rfl, rfl⟩ dX7_has_14

theorem in_of {x : Int32} {a b : Nat} (h : ¬ S_X7_in x.toInt64 (lN a) (lN b) = 0) (hb : b ≤ 1000) (ha : a ≤ 1000 := by omega) : x = nI x.toNatClampNeg ∧ x.toNatClampNeg ≤ b ∧ a ≤ x.toNatClampNeg := by
  unfold S_X7_in at h
  by_cases h0 : lg_cmp x.toInt64 (lN a) < 0
  · rw [if_pos h0] at h; exact absurd rfl h
  · rw [if_neg h0] at h
    by_cases h1 : 0 < lg_cmp x.toInt64 (lN b)
    · rw [if_pos h1] at h; exact absurd rfl h
    · rw [lg_cmp_lt, Int64.lt_iff_toInt_lt, w64, lN_toInt (by omega)] at h0
      rw [lg_cmp_gt, Int64.lt_iff_toInt_lt, w64, lN_toInt (by omega)] at h1
      have hx : ¬ x < 0 := fun z => by
        rw [Int32.lt_iff_toInt_lt] at z
        have e0 : (0 : Int32).toInt = 0 := by decide
        omega
      obtain ⟨j, hj, rfl⟩ := nI_of hx
      rw [nI_toInt hj] at h0 h1
      rw [nI_clamp hj]
      exact ⟨rfl, by omega, by omega⟩
theorem inB_of {x : Int32} {n : Nat} (h : ¬ S_X7_in x.toInt64 (0 : Int64) ((nI n) - (1 : Int32)).toInt64 = 0) (hn : n ≤ 1000) : x = nI x.toNatClampNeg ∧ x.toNatClampNeg < n := by
  unfold S_X7_in at h
  by_cases h0 : lg_cmp x.toInt64 (0 : Int64) < 0
  · rw [if_pos h0] at h; exact absurd rfl h
  · rw [if_neg h0] at h
    by_cases h1 : 0 < lg_cmp x.toInt64 ((nI n) - (1 : Int32)).toInt64
    · rw [if_pos h1] at h; exact absurd rfl h
    · have e1 : ((nI n) - (1 : Int32)).toInt = (n : Int) - 1 := pk_sub_toInt (a := n) (b := 1) (by omega) (by decide)
      rw [lg_cmp_lt, Int64.lt_iff_toInt_lt, w64, show (0 : Int64).toInt = 0 from by decide] at h0
      rw [lg_cmp_gt, Int64.lt_iff_toInt_lt, w64, w64, e1] at h1
      have hx : ¬ x < 0 := fun z => by
        rw [Int32.lt_iff_toInt_lt] at z
        have e0 : (0 : Int32).toInt = 0 := by decide
        omega
      obtain ⟨j, hj, rfl⟩ := nI_of hx
      rw [nI_toInt hj] at h0 h1
      rw [nI_clamp hj]
      exact ⟨rfl, by omega⟩

def S_X7_isBridge (x1 : Int32) (o_bridges : Nat) : Int32 := (S_X7_in (x1.toInt64) (0 : Int64) (((nI o_bridges) - (1 : Int32)).toInt64))
theorem z_X7_isBridge (x1 : Int32) (o_bridges : Nat)  : S_X7_isBridge x1 o_bridges = 0 ∨ S_X7_isBridge x1 o_bridges = 1 := by unfold S_X7_isBridge; (repeat' split) <;> first | exact Or.inl rfl | exact Or.inr rfl | assumption | exact z_X7_in _ _ _
set_option maxHeartbeats 4000000 in
set_option maxRecDepth 100000 in
theorem c_X7_isBridge (l : Launch) (D : va_G) (tB tI tZ : ClassId) (a_o a_o_forgets a_o_weight a_o_comes a_o_oxWeight a_o_oxPrice a_o_knows a_o_over a_o_named a_o_lieDay a_o_aloneYear a_o_text a_o_readForgets a_o_readWeight a_o_readComes a_o_readKnows a_o_readOx a_o_readPrice a_o_order a_o_orderNames a_o_seenWho a_o_seenNamed a_o_seenLetGo a_o_placeIn a_o_behind a_o_rowWho a_o_rowNames a_o_images a_o_isKept : Nat) (o_year : Int32) (o_bridges : Nat) (o_men : Nat) (o_oxen : Nat) (o_alive : Int32) (o_day : Int32) (o_seed : Int32) (o_texted : Nat) (o_faultPlace : Int32) (o_at0 : Nat) (o_said : Int64) (o_wordEnd : Nat) (o_number : Int32) (o_numberAt : Nat) (o_readYear : Int32) (o_readClauses : Int32) (o_readBridges : Nat) (o_readMen : Nat) (o_readMany : Int32) (o_readOxen : Nat) (o_sights : Nat) (o_rowMany : Nat) (x1 : Int32)  : CT l D (tyL tB tI tZ) yX7_isBridge (.code yX7_isBridge cX7_isBridge 2 (some .boolean)) 1 25 [.ref a_o, .int x1] [(a_o, .inr (7, (.int o_year :: .int (nI o_bridges) :: .ref a_o_forgets :: .int (nI o_men) :: .ref a_o_weight :: .ref a_o_comes :: .int (nI o_oxen) :: .ref a_o_oxWeight :: .ref a_o_oxPrice :: .ref a_o_knows :: .int o_alive :: .int o_day :: .ref a_o_over :: .ref a_o_named :: .ref a_o_lieDay :: .ref a_o_aloneYear :: .int o_seed :: .ref a_o_text :: .int (nI o_texted) :: .int o_faultPlace :: .int (nI o_at0) :: .long o_said :: .int (nI o_wordEnd) :: .int o_number :: .int (nI o_numberAt) :: .int o_readYear :: .int o_readClauses :: .int (nI o_readBridges) :: .ref a_o_readForgets :: .int (nI o_readMen) :: .ref a_o_readWeight :: .ref a_o_readComes :: .int o_readMany :: .ref a_o_readKnows :: .int (nI o_readOxen) :: .ref a_o_readOx :: .ref a_o_readPrice :: .ref a_o_order :: .ref a_o_orderNames :: .int (nI o_sights) :: .ref a_o_seenWho :: .ref a_o_seenNamed :: .ref a_o_seenLetGo :: .ref a_o_placeIn :: .ref a_o_behind :: .int (nI o_rowMany) :: .ref a_o_rowWho :: .ref a_o_rowNames :: .ref a_o_images :: .ref a_o_isKept :: [])))] (fun u : Int32 => some (.int (u))) (fun _ : Int32 => [(a_o, .inr (7, (.int o_year :: .int (nI o_bridges) :: .ref a_o_forgets :: .int (nI o_men) :: .ref a_o_weight :: .ref a_o_comes :: .int (nI o_oxen) :: .ref a_o_oxWeight :: .ref a_o_oxPrice :: .ref a_o_knows :: .int o_alive :: .int o_day :: .ref a_o_over :: .ref a_o_named :: .ref a_o_lieDay :: .ref a_o_aloneYear :: .int o_seed :: .ref a_o_text :: .int (nI o_texted) :: .int o_faultPlace :: .int (nI o_at0) :: .long o_said :: .int (nI o_wordEnd) :: .int o_number :: .int (nI o_numberAt) :: .int o_readYear :: .int o_readClauses :: .int (nI o_readBridges) :: .ref a_o_readForgets :: .int (nI o_readMen) :: .ref a_o_readWeight :: .ref a_o_readComes :: .int o_readMany :: .ref a_o_readKnows :: .int (nI o_readOxen) :: .ref a_o_readOx :: .ref a_o_readPrice :: .ref a_o_order :: .ref a_o_orderNames :: .int (nI o_sights) :: .ref a_o_seenWho :: .ref a_o_seenNamed :: .ref a_o_seenLetGo :: .ref a_o_placeIn :: .ref a_o_behind :: .int (nI o_rowMany) :: .ref a_o_rowWho :: .ref a_o_rowNames :: .ref a_o_images :: .ref a_o_isKept :: [])))]) (S_X7_isBridge x1 o_bridges) := by
  refine CT.intro (k := 0) (Nat.le_of_ble_eq_true rfl) (by decide) ?_
  intro p e s m below meth c Q A ls E hA hP hD hS hl hF
  obtain ⟨⟨hx, hb, hml, hown, hts⟩, hK⟩ := id E
  generalize hR : S_X7_isBridge x1 o_bridges = RES at hF
  unfold S_X7_isBridge at hR
  have hl : lv_has ls 2 [(0, .ref a_o), (1, .int x1)] := hl
  refine lv_iload_n hx hb dX7_isBridge_0 rfl (lv_at hl 1 rfl) ?_
  refine lv_i2l (v := (x1.toInt64)) hx hb dX7_isBridge_1 rfl ?_
  refine lv_lconst (v := (0 : Int64)) hx hb dX7_isBridge_2 (by decide) ?_
  refine lv_aload_n hx hb dX7_isBridge_3 rfl (lv_at hl 0 rfl) ?_
  refine fget E hP 0 rfl fd_X7_105 (v := .int (nI o_bridges)) rfl dX7_isBridge_4 ?_
  refine lv_iconst (v := (1 : Int32)) hx hb dX7_isBridge_7 (by decide) ?_
  refine lv_isub hx hb dX7_isBridge_8 ?_
  refine lv_i2l (v := (((nI o_bridges) - (1 : Int32)).toInt64)) hx hb dX7_isBridge_9 rfl ?_
  refine kcS E hl.1 (c_X7_in l D tB tI tZ (x1.toInt64) (0 : Int64) (((nI o_bridges) - (1 : Int32)).toInt64) ) cs_X7_in wm_X7_108 hP hD hS hA [] rfl rfl rfl (ws2 := [(a_o, .inr (7, (.int o_year :: .int (nI o_bridges) :: .ref a_o_forgets :: .int (nI o_men) :: .ref a_o_weight :: .ref a_o_comes :: .int (nI o_oxen) :: .ref a_o_oxWeight :: .ref a_o_oxPrice :: .ref a_o_knows :: .int o_alive :: .int o_day :: .ref a_o_over :: .ref a_o_named :: .ref a_o_lieDay :: .ref a_o_aloneYear :: .int o_seed :: .ref a_o_text :: .int (nI o_texted) :: .int o_faultPlace :: .int (nI o_at0) :: .long o_said :: .int (nI o_wordEnd) :: .int o_number :: .int (nI o_numberAt) :: .int o_readYear :: .int o_readClauses :: .int (nI o_readBridges) :: .ref a_o_readForgets :: .int (nI o_readMen) :: .ref a_o_readWeight :: .ref a_o_readComes :: .int o_readMany :: .ref a_o_readKnows :: .int (nI o_readOxen) :: .ref a_o_readOx :: .ref a_o_readPrice :: .ref a_o_order :: .ref a_o_orderNames :: .int (nI o_sights) :: .ref a_o_seenWho :: .ref a_o_seenNamed :: .ref a_o_seenLetGo :: .ref a_o_placeIn :: .ref a_o_behind :: .int (nI o_rowMany) :: .ref a_o_rowWho :: .ref a_o_rowNames :: .ref a_o_images :: .ref a_o_isKept :: [])))]) rfl rfl (As := [.long (x1.toInt64), .long (0 : Int64), .long (((nI o_bridges) - (1 : Int32)).toInt64)]) (rest := []) rfl rfl (Nat.le_of_ble_eq_true rfl) ⟨Nat.le_of_ble_eq_true rfl, Nat.le_of_ble_eq_true rfl⟩ ⟨Nat.zero_le _, Nat.zero_le _⟩ dX7_isBridge_10 (fun H locs hP hD hS => ?_)
  subst hR
  exact (hF _ _ _ _ hP hS).1 _ rfl ⟨.boolean, rfl, zn _ (z_X7_in _ _ _)⟩ dX7_isBridge_13

def S_X7_isMan (x1 : Int32) (o_men : Nat) : Int32 := (S_X7_in (x1.toInt64) (0 : Int64) (((nI o_men) - (1 : Int32)).toInt64))
theorem z_X7_isMan (x1 : Int32) (o_men : Nat)  : S_X7_isMan x1 o_men = 0 ∨ S_X7_isMan x1 o_men = 1 := by unfold S_X7_isMan; (repeat' split) <;> first | exact Or.inl rfl | exact Or.inr rfl | assumption | exact z_X7_in _ _ _
set_option maxHeartbeats 4000000 in
set_option maxRecDepth 100000 in
theorem c_X7_isMan (l : Launch) (D : va_G) (tB tI tZ : ClassId) (a_o a_o_forgets a_o_weight a_o_comes a_o_oxWeight a_o_oxPrice a_o_knows a_o_over a_o_named a_o_lieDay a_o_aloneYear a_o_text a_o_readForgets a_o_readWeight a_o_readComes a_o_readKnows a_o_readOx a_o_readPrice a_o_order a_o_orderNames a_o_seenWho a_o_seenNamed a_o_seenLetGo a_o_placeIn a_o_behind a_o_rowWho a_o_rowNames a_o_images a_o_isKept : Nat) (o_year : Int32) (o_bridges : Nat) (o_men : Nat) (o_oxen : Nat) (o_alive : Int32) (o_day : Int32) (o_seed : Int32) (o_texted : Nat) (o_faultPlace : Int32) (o_at0 : Nat) (o_said : Int64) (o_wordEnd : Nat) (o_number : Int32) (o_numberAt : Nat) (o_readYear : Int32) (o_readClauses : Int32) (o_readBridges : Nat) (o_readMen : Nat) (o_readMany : Int32) (o_readOxen : Nat) (o_sights : Nat) (o_rowMany : Nat) (x1 : Int32)  : CT l D (tyL tB tI tZ) yX7_isMan (.code yX7_isMan cX7_isMan 2 (some .boolean)) 1 25 [.ref a_o, .int x1] [(a_o, .inr (7, (.int o_year :: .int (nI o_bridges) :: .ref a_o_forgets :: .int (nI o_men) :: .ref a_o_weight :: .ref a_o_comes :: .int (nI o_oxen) :: .ref a_o_oxWeight :: .ref a_o_oxPrice :: .ref a_o_knows :: .int o_alive :: .int o_day :: .ref a_o_over :: .ref a_o_named :: .ref a_o_lieDay :: .ref a_o_aloneYear :: .int o_seed :: .ref a_o_text :: .int (nI o_texted) :: .int o_faultPlace :: .int (nI o_at0) :: .long o_said :: .int (nI o_wordEnd) :: .int o_number :: .int (nI o_numberAt) :: .int o_readYear :: .int o_readClauses :: .int (nI o_readBridges) :: .ref a_o_readForgets :: .int (nI o_readMen) :: .ref a_o_readWeight :: .ref a_o_readComes :: .int o_readMany :: .ref a_o_readKnows :: .int (nI o_readOxen) :: .ref a_o_readOx :: .ref a_o_readPrice :: .ref a_o_order :: .ref a_o_orderNames :: .int (nI o_sights) :: .ref a_o_seenWho :: .ref a_o_seenNamed :: .ref a_o_seenLetGo :: .ref a_o_placeIn :: .ref a_o_behind :: .int (nI o_rowMany) :: .ref a_o_rowWho :: .ref a_o_rowNames :: .ref a_o_images :: .ref a_o_isKept :: [])))] (fun u : Int32 => some (.int (u))) (fun _ : Int32 => [(a_o, .inr (7, (.int o_year :: .int (nI o_bridges) :: .ref a_o_forgets :: .int (nI o_men) :: .ref a_o_weight :: .ref a_o_comes :: .int (nI o_oxen) :: .ref a_o_oxWeight :: .ref a_o_oxPrice :: .ref a_o_knows :: .int o_alive :: .int o_day :: .ref a_o_over :: .ref a_o_named :: .ref a_o_lieDay :: .ref a_o_aloneYear :: .int o_seed :: .ref a_o_text :: .int (nI o_texted) :: .int o_faultPlace :: .int (nI o_at0) :: .long o_said :: .int (nI o_wordEnd) :: .int o_number :: .int (nI o_numberAt) :: .int o_readYear :: .int o_readClauses :: .int (nI o_readBridges) :: .ref a_o_readForgets :: .int (nI o_readMen) :: .ref a_o_readWeight :: .ref a_o_readComes :: .int o_readMany :: .ref a_o_readKnows :: .int (nI o_readOxen) :: .ref a_o_readOx :: .ref a_o_readPrice :: .ref a_o_order :: .ref a_o_orderNames :: .int (nI o_sights) :: .ref a_o_seenWho :: .ref a_o_seenNamed :: .ref a_o_seenLetGo :: .ref a_o_placeIn :: .ref a_o_behind :: .int (nI o_rowMany) :: .ref a_o_rowWho :: .ref a_o_rowNames :: .ref a_o_images :: .ref a_o_isKept :: [])))]) (S_X7_isMan x1 o_men) := by
  refine CT.intro (k := 0) (Nat.le_of_ble_eq_true rfl) (by decide) ?_
  intro p e s m below meth c Q A ls E hA hP hD hS hl hF
  obtain ⟨⟨hx, hb, hml, hown, hts⟩, hK⟩ := id E
  generalize hR : S_X7_isMan x1 o_men = RES at hF
  unfold S_X7_isMan at hR
  have hl : lv_has ls 2 [(0, .ref a_o), (1, .int x1)] := hl
  refine lv_iload_n hx hb dX7_isMan_0 rfl (lv_at hl 1 rfl) ?_
  refine lv_i2l (v := (x1.toInt64)) hx hb dX7_isMan_1 rfl ?_
  refine lv_lconst (v := (0 : Int64)) hx hb dX7_isMan_2 (by decide) ?_
  refine lv_aload_n hx hb dX7_isMan_3 rfl (lv_at hl 0 rfl) ?_
  refine fget E hP 0 rfl fd_X7_102 (v := .int (nI o_men)) rfl dX7_isMan_4 ?_
  refine lv_iconst (v := (1 : Int32)) hx hb dX7_isMan_7 (by decide) ?_
  refine lv_isub hx hb dX7_isMan_8 ?_
  refine lv_i2l (v := (((nI o_men) - (1 : Int32)).toInt64)) hx hb dX7_isMan_9 rfl ?_
  refine kcS E hl.1 (c_X7_in l D tB tI tZ (x1.toInt64) (0 : Int64) (((nI o_men) - (1 : Int32)).toInt64) ) cs_X7_in wm_X7_108 hP hD hS hA [] rfl rfl rfl (ws2 := [(a_o, .inr (7, (.int o_year :: .int (nI o_bridges) :: .ref a_o_forgets :: .int (nI o_men) :: .ref a_o_weight :: .ref a_o_comes :: .int (nI o_oxen) :: .ref a_o_oxWeight :: .ref a_o_oxPrice :: .ref a_o_knows :: .int o_alive :: .int o_day :: .ref a_o_over :: .ref a_o_named :: .ref a_o_lieDay :: .ref a_o_aloneYear :: .int o_seed :: .ref a_o_text :: .int (nI o_texted) :: .int o_faultPlace :: .int (nI o_at0) :: .long o_said :: .int (nI o_wordEnd) :: .int o_number :: .int (nI o_numberAt) :: .int o_readYear :: .int o_readClauses :: .int (nI o_readBridges) :: .ref a_o_readForgets :: .int (nI o_readMen) :: .ref a_o_readWeight :: .ref a_o_readComes :: .int o_readMany :: .ref a_o_readKnows :: .int (nI o_readOxen) :: .ref a_o_readOx :: .ref a_o_readPrice :: .ref a_o_order :: .ref a_o_orderNames :: .int (nI o_sights) :: .ref a_o_seenWho :: .ref a_o_seenNamed :: .ref a_o_seenLetGo :: .ref a_o_placeIn :: .ref a_o_behind :: .int (nI o_rowMany) :: .ref a_o_rowWho :: .ref a_o_rowNames :: .ref a_o_images :: .ref a_o_isKept :: [])))]) rfl rfl (As := [.long (x1.toInt64), .long (0 : Int64), .long (((nI o_men) - (1 : Int32)).toInt64)]) (rest := []) rfl rfl (Nat.le_of_ble_eq_true rfl) ⟨Nat.le_of_ble_eq_true rfl, Nat.le_of_ble_eq_true rfl⟩ ⟨Nat.zero_le _, Nat.zero_le _⟩ dX7_isMan_10 (fun H locs hP hD hS => ?_)
  subst hR
  exact (hF _ _ _ _ hP hS).1 _ rfl ⟨.boolean, rfl, zn _ (z_X7_in _ _ _)⟩ dX7_isMan_13

theorem isBridge_of {x : Int32} {n : Nat} (h : ¬ S_X7_isBridge x n = 0) (hn : n ≤ 1000) : x = nI x.toNatClampNeg ∧ x.toNatClampNeg < n := inB_of h hn
theorem isMan_of {x : Int32} {n : Nat} (h : ¬ S_X7_isMan x n = 0) (hn : n ≤ 1000) : x = nI x.toNatClampNeg ∧ x.toNatClampNeg < n := inB_of h hn

def S_X7_isManOrNone (x1 : Int32) (o_men : Nat) : Int32 := (if x1 = (-1 : Int32) then (1 : Int32) else (if (S_X7_isMan x1 o_men) = 0 then (0 : Int32) else (1 : Int32)))
theorem z_X7_isManOrNone (x1 : Int32) (o_men : Nat)  : S_X7_isManOrNone x1 o_men = 0 ∨ S_X7_isManOrNone x1 o_men = 1 := by unfold S_X7_isManOrNone; (repeat' split) <;> first | exact Or.inl rfl | exact Or.inr rfl | assumption | exact z_X7_isMan _ _
set_option maxHeartbeats 4000000 in
set_option maxRecDepth 100000 in
theorem c_X7_isManOrNone (l : Launch) (D : va_G) (tB tI tZ : ClassId) (a_o a_o_forgets a_o_weight a_o_comes a_o_oxWeight a_o_oxPrice a_o_knows a_o_over a_o_named a_o_lieDay a_o_aloneYear a_o_text a_o_readForgets a_o_readWeight a_o_readComes a_o_readKnows a_o_readOx a_o_readPrice a_o_order a_o_orderNames a_o_seenWho a_o_seenNamed a_o_seenLetGo a_o_placeIn a_o_behind a_o_rowWho a_o_rowNames a_o_images a_o_isKept : Nat) (o_year : Int32) (o_bridges : Nat) (o_men : Nat) (o_oxen : Nat) (o_alive : Int32) (o_day : Int32) (o_seed : Int32) (o_texted : Nat) (o_faultPlace : Int32) (o_at0 : Nat) (o_said : Int64) (o_wordEnd : Nat) (o_number : Int32) (o_numberAt : Nat) (o_readYear : Int32) (o_readClauses : Int32) (o_readBridges : Nat) (o_readMen : Nat) (o_readMany : Int32) (o_readOxen : Nat) (o_sights : Nat) (o_rowMany : Nat) (x1 : Int32) (hmen : o_men ≤ 6) : CT l D (tyL tB tI tZ) yX7_isManOrNone (.code yX7_isManOrNone cX7_isManOrNone 2 (some .boolean)) 2 46 [.ref a_o, .int x1] [(a_o, .inr (7, (.int o_year :: .int (nI o_bridges) :: .ref a_o_forgets :: .int (nI o_men) :: .ref a_o_weight :: .ref a_o_comes :: .int (nI o_oxen) :: .ref a_o_oxWeight :: .ref a_o_oxPrice :: .ref a_o_knows :: .int o_alive :: .int o_day :: .ref a_o_over :: .ref a_o_named :: .ref a_o_lieDay :: .ref a_o_aloneYear :: .int o_seed :: .ref a_o_text :: .int (nI o_texted) :: .int o_faultPlace :: .int (nI o_at0) :: .long o_said :: .int (nI o_wordEnd) :: .int o_number :: .int (nI o_numberAt) :: .int o_readYear :: .int o_readClauses :: .int (nI o_readBridges) :: .ref a_o_readForgets :: .int (nI o_readMen) :: .ref a_o_readWeight :: .ref a_o_readComes :: .int o_readMany :: .ref a_o_readKnows :: .int (nI o_readOxen) :: .ref a_o_readOx :: .ref a_o_readPrice :: .ref a_o_order :: .ref a_o_orderNames :: .int (nI o_sights) :: .ref a_o_seenWho :: .ref a_o_seenNamed :: .ref a_o_seenLetGo :: .ref a_o_placeIn :: .ref a_o_behind :: .int (nI o_rowMany) :: .ref a_o_rowWho :: .ref a_o_rowNames :: .ref a_o_images :: .ref a_o_isKept :: [])))] (fun u : Int32 => some (.int (u))) (fun _ : Int32 => [(a_o, .inr (7, (.int o_year :: .int (nI o_bridges) :: .ref a_o_forgets :: .int (nI o_men) :: .ref a_o_weight :: .ref a_o_comes :: .int (nI o_oxen) :: .ref a_o_oxWeight :: .ref a_o_oxPrice :: .ref a_o_knows :: .int o_alive :: .int o_day :: .ref a_o_over :: .ref a_o_named :: .ref a_o_lieDay :: .ref a_o_aloneYear :: .int o_seed :: .ref a_o_text :: .int (nI o_texted) :: .int o_faultPlace :: .int (nI o_at0) :: .long o_said :: .int (nI o_wordEnd) :: .int o_number :: .int (nI o_numberAt) :: .int o_readYear :: .int o_readClauses :: .int (nI o_readBridges) :: .ref a_o_readForgets :: .int (nI o_readMen) :: .ref a_o_readWeight :: .ref a_o_readComes :: .int o_readMany :: .ref a_o_readKnows :: .int (nI o_readOxen) :: .ref a_o_readOx :: .ref a_o_readPrice :: .ref a_o_order :: .ref a_o_orderNames :: .int (nI o_sights) :: .ref a_o_seenWho :: .ref a_o_seenNamed :: .ref a_o_seenLetGo :: .ref a_o_placeIn :: .ref a_o_behind :: .int (nI o_rowMany) :: .ref a_o_rowWho :: .ref a_o_rowNames :: .ref a_o_images :: .ref a_o_isKept :: [])))]) (S_X7_isManOrNone x1 o_men) := by
  refine CT.intro (k := 0) (Nat.le_of_ble_eq_true rfl) (by decide) ?_
  intro p e s m below meth c Q A ls E hA hP hD hS hl hF
  obtain ⟨⟨hx, hb, hml, hown, hts⟩, hK⟩ := id E
  generalize hR : S_X7_isManOrNone x1 o_men = RES at hF
  unfold S_X7_isManOrNone at hR
  have hl : lv_has ls 2 [(0, .ref a_o), (1, .int x1)] := hl
  refine lv_iload_n hx hb dX7_isManOrNone_0 rfl (lv_at hl 1 rfl) ?_
  refine lv_iconst (v := (-1 : Int32)) hx hb dX7_isManOrNone_1 (by decide) ?_
  refine lv_icmp_eq (tgt := 13) hx hb dX7_isManOrNone_2 (by decide) (fun c_1 => ?_) (fun c_1 => ?_)
  · rw [if_pos c_1] at hR
    refine lv_iconst (v := (1 : Int32)) hx hb dX7_isManOrNone_13 (by decide) ?_
    refine lv_goto (tgt := 18) hx hb dX7_isManOrNone_14 (by decide) ?_
    subst hR
    exact (hF _ _ _ _ hP hS).1 _ rfl ⟨.boolean, rfl, rfl⟩ dX7_isManOrNone_18
  · rw [if_neg c_1] at hR
    refine lv_aload_n hx hb dX7_isManOrNone_5 rfl (lv_at hl 0 rfl) ?_
    refine lv_iload_n hx hb dX7_isManOrNone_6 rfl (lv_at hl 1 rfl) ?_
    refine kcV E hl.1 (c_X7_isMan l D tB tI tZ a_o a_o_forgets a_o_weight a_o_comes a_o_oxWeight a_o_oxPrice a_o_knows a_o_over a_o_named a_o_lieDay a_o_aloneYear a_o_text a_o_readForgets a_o_readWeight a_o_readComes a_o_readKnows a_o_readOx a_o_readPrice a_o_order a_o_orderNames a_o_seenWho a_o_seenNamed a_o_seenLetGo a_o_placeIn a_o_behind a_o_rowWho a_o_rowNames a_o_images a_o_isKept o_year o_bridges o_men o_oxen o_alive o_day o_seed o_texted o_faultPlace o_at0 o_said o_wordEnd o_number o_numberAt o_readYear o_readClauses o_readBridges o_readMen o_readMany o_readOxen o_sights o_rowMany x1 ) cv_X7_isMan wm_X7_112 hP hD hS hA [0] rfl rfl rfl (ws2 := [(a_o, .inr (7, (.int o_year :: .int (nI o_bridges) :: .ref a_o_forgets :: .int (nI o_men) :: .ref a_o_weight :: .ref a_o_comes :: .int (nI o_oxen) :: .ref a_o_oxWeight :: .ref a_o_oxPrice :: .ref a_o_knows :: .int o_alive :: .int o_day :: .ref a_o_over :: .ref a_o_named :: .ref a_o_lieDay :: .ref a_o_aloneYear :: .int o_seed :: .ref a_o_text :: .int (nI o_texted) :: .int o_faultPlace :: .int (nI o_at0) :: .long o_said :: .int (nI o_wordEnd) :: .int o_number :: .int (nI o_numberAt) :: .int o_readYear :: .int o_readClauses :: .int (nI o_readBridges) :: .ref a_o_readForgets :: .int (nI o_readMen) :: .ref a_o_readWeight :: .ref a_o_readComes :: .int o_readMany :: .ref a_o_readKnows :: .int (nI o_readOxen) :: .ref a_o_readOx :: .ref a_o_readPrice :: .ref a_o_order :: .ref a_o_orderNames :: .int (nI o_sights) :: .ref a_o_seenWho :: .ref a_o_seenNamed :: .ref a_o_seenLetGo :: .ref a_o_placeIn :: .ref a_o_behind :: .int (nI o_rowMany) :: .ref a_o_rowWho :: .ref a_o_rowNames :: .ref a_o_images :: .ref a_o_isKept :: [])))]) rfl rfl (b := a_o) (As := [.int x1]) (rest := []) 0 7 rfl rfl rfl rfl (Nat.le_of_ble_eq_true rfl) ⟨Nat.le_of_ble_eq_true rfl, Nat.le_of_ble_eq_true rfl⟩ ⟨Nat.zero_le _, Nat.zero_le _⟩ dX7_isManOrNone_7 (fun H locs hP hD hS => ?_)
    refine lv_if_eq (tgt := 17) hx hb dX7_isManOrNone_10 (by decide) (fun c_2 => ?_) (fun c_2 => ?_)
    · rw [if_pos c_2] at hR
      refine lv_iconst (v := (0 : Int32)) hx hb dX7_isManOrNone_17 (by decide) ?_
      subst hR
      exact (hF _ _ _ _ hP hS).1 _ rfl ⟨.boolean, rfl, rfl⟩ dX7_isManOrNone_18
    · rw [if_neg c_2] at hR
      obtain ⟨fa_c_2, fb_c_2⟩ := isMan_of c_2 (by omega)
      refine lv_iconst (v := (1 : Int32)) hx hb dX7_isManOrNone_13 (by decide) ?_
      refine lv_goto (tgt := 18) hx hb dX7_isManOrNone_14 (by decide) ?_
      subst hR
      exact (hF _ _ _ _ hP hS).1 _ rfl ⟨.boolean, rfl, rfl⟩ dX7_isManOrNone_18

theorem isManOrNone_of {x : Int32} {n : Nat} (h : ¬ S_X7_isManOrNone x n = 0) (hn : n ≤ 1000) : NN n x := by
  unfold S_X7_isManOrNone at h
  by_cases h0 : x = (-1 : Int32)
  · exact Or.inl h0
  · rw [if_neg h0] at h
    by_cases h1 : S_X7_isMan x n = 0
    · rw [if_pos h1] at h; exact absurd rfl h
    · exact Or.inr (isMan_of h1 hn)

def S_X7_isRemembered (x1 : Nat) (x2 : Nat) (o_lieDay : Nat → Int32) (o_forgets : Nat → Int32) (o_day : Int32) : Int32 := (if (o_lieDay ((6 * x1) + x2)) < 0 then (0 : Int32) else (if (o_forgets x1) = 0 then (1 : Int32) else (if (o_forgets x1) < (o_day - (o_lieDay ((6 * x1) + x2))) then (0 : Int32) else (1 : Int32))))
theorem z_X7_isRemembered (x1 : Nat) (x2 : Nat) (o_lieDay : Nat → Int32) (o_forgets : Nat → Int32) (o_day : Int32)  : S_X7_isRemembered x1 x2 o_lieDay o_forgets o_day = 0 ∨ S_X7_isRemembered x1 x2 o_lieDay o_forgets o_day = 1 := by unfold S_X7_isRemembered; (repeat' split) <;> first | exact Or.inl rfl | exact Or.inr rfl | assumption
set_option maxHeartbeats 4000000 in
set_option maxRecDepth 100000 in
theorem c_X7_isRemembered (l : Launch) (D : va_G) (tB tI tZ : ClassId) (a_o a_o_forgets a_o_weight a_o_comes a_o_oxWeight a_o_oxPrice a_o_knows a_o_over a_o_named a_o_lieDay a_o_aloneYear a_o_text a_o_readForgets a_o_readWeight a_o_readComes a_o_readKnows a_o_readOx a_o_readPrice a_o_order a_o_orderNames a_o_seenWho a_o_seenNamed a_o_seenLetGo a_o_placeIn a_o_behind a_o_rowWho a_o_rowNames a_o_images a_o_isKept : Nat) (o_year : Int32) (o_bridges : Nat) (o_men : Nat) (o_oxen : Nat) (o_alive : Int32) (o_day : Int32) (o_seed : Int32) (o_texted : Nat) (o_faultPlace : Int32) (o_at0 : Nat) (o_said : Int64) (o_wordEnd : Nat) (o_number : Int32) (o_numberAt : Nat) (o_readYear : Int32) (o_readClauses : Int32) (o_readBridges : Nat) (o_readMen : Nat) (o_readMany : Int32) (o_readOxen : Nat) (o_sights : Nat) (o_rowMany : Nat) (o_lieDay : Nat → Int32) (o_forgets : Nat → Int32) (x1 : Nat) (x2 : Nat) (hb : x1 < 5) (ht : x2 < 6) : CT l D (tyL tB tI tZ) yX7_isRemembered (.code yX7_isRemembered cX7_isRemembered 4 (some .boolean)) 0 0 [.ref a_o, .int (nI x1), .int (nI x2)] [(a_o, .inr (7, (.int o_year :: .int (nI o_bridges) :: .ref a_o_forgets :: .int (nI o_men) :: .ref a_o_weight :: .ref a_o_comes :: .int (nI o_oxen) :: .ref a_o_oxWeight :: .ref a_o_oxPrice :: .ref a_o_knows :: .int o_alive :: .int o_day :: .ref a_o_over :: .ref a_o_named :: .ref a_o_lieDay :: .ref a_o_aloneYear :: .int o_seed :: .ref a_o_text :: .int (nI o_texted) :: .int o_faultPlace :: .int (nI o_at0) :: .long o_said :: .int (nI o_wordEnd) :: .int o_number :: .int (nI o_numberAt) :: .int o_readYear :: .int o_readClauses :: .int (nI o_readBridges) :: .ref a_o_readForgets :: .int (nI o_readMen) :: .ref a_o_readWeight :: .ref a_o_readComes :: .int o_readMany :: .ref a_o_readKnows :: .int (nI o_readOxen) :: .ref a_o_readOx :: .ref a_o_readPrice :: .ref a_o_order :: .ref a_o_orderNames :: .int (nI o_sights) :: .ref a_o_seenWho :: .ref a_o_seenNamed :: .ref a_o_seenLetGo :: .ref a_o_placeIn :: .ref a_o_behind :: .int (nI o_rowMany) :: .ref a_o_rowWho :: .ref a_o_rowNames :: .ref a_o_images :: .ref a_o_isKept :: []))), (a_o_lieDay, .inl (tI, 30, .inl o_lieDay)), (a_o_forgets, .inl (tI, 5, .inl o_forgets))] (fun u : Int32 => some (.int (u))) (fun _ : Int32 => [(a_o, .inr (7, (.int o_year :: .int (nI o_bridges) :: .ref a_o_forgets :: .int (nI o_men) :: .ref a_o_weight :: .ref a_o_comes :: .int (nI o_oxen) :: .ref a_o_oxWeight :: .ref a_o_oxPrice :: .ref a_o_knows :: .int o_alive :: .int o_day :: .ref a_o_over :: .ref a_o_named :: .ref a_o_lieDay :: .ref a_o_aloneYear :: .int o_seed :: .ref a_o_text :: .int (nI o_texted) :: .int o_faultPlace :: .int (nI o_at0) :: .long o_said :: .int (nI o_wordEnd) :: .int o_number :: .int (nI o_numberAt) :: .int o_readYear :: .int o_readClauses :: .int (nI o_readBridges) :: .ref a_o_readForgets :: .int (nI o_readMen) :: .ref a_o_readWeight :: .ref a_o_readComes :: .int o_readMany :: .ref a_o_readKnows :: .int (nI o_readOxen) :: .ref a_o_readOx :: .ref a_o_readPrice :: .ref a_o_order :: .ref a_o_orderNames :: .int (nI o_sights) :: .ref a_o_seenWho :: .ref a_o_seenNamed :: .ref a_o_seenLetGo :: .ref a_o_placeIn :: .ref a_o_behind :: .int (nI o_rowMany) :: .ref a_o_rowWho :: .ref a_o_rowNames :: .ref a_o_images :: .ref a_o_isKept :: []))), (a_o_lieDay, .inl (tI, 30, .inl o_lieDay)), (a_o_forgets, .inl (tI, 5, .inl o_forgets))]) (S_X7_isRemembered x1 x2 o_lieDay o_forgets o_day) := by
  refine CT.intro (k := 0) (Nat.le_of_ble_eq_true rfl) (by decide) ?_
  intro p e s m below meth c Q A ls E hA hP hD hS hl hF
  obtain ⟨⟨hx, hb, hml, hown, hts⟩, hK⟩ := id E
  generalize hR : S_X7_isRemembered x1 x2 o_lieDay o_forgets o_day = RES at hF
  unfold S_X7_isRemembered at hR
  have hl : lv_has ls 4 [(0, .ref a_o), (1, .int (nI x1)), (2, .int (nI x2))] := hl
  refine lv_aload_n hx hb dX7_isRemembered_0 rfl (lv_at hl 0 rfl) ?_
  refine fget E hP 0 rfl fd_X7_38 (v := .ref a_o_lieDay) rfl dX7_isRemembered_1 ?_
  refine lv_bipush (v := (6 : Int32)) hx hb dX7_isRemembered_4 (by decide) ?_
  refine lv_iload_n hx hb dX7_isRemembered_6 rfl (lv_at hl 1 rfl) ?_
  refine lv_imul hx hb dX7_isRemembered_7 ?_
  refine lv_is (pk_mul 6 x1) ?_
  refine lv_iload_n hx hb dX7_isRemembered_8 rfl (lv_at hl 2 rfl) ?_
  refine lv_iadd hx hb dX7_isRemembered_9 ?_
  refine lv_is (nI_add (6 * x1) x2) ?_
  refine ild E hP 1 rfl (k := ((6 * x1) + x2)) (by omega) (by decide) dX7_isRemembered_10 ?_
  refine lv_istore_n (lv' := [(3, .int (o_lieDay ((6 * x1) + x2))), (0, .ref a_o), (1, .int (nI x1)), (2, .int (nI x2))]) hx hb dX7_isRemembered_11 rfl hl (by decide) rfl (fun ls hl => ?_)
  refine lv_iload_n hx hb dX7_isRemembered_12 rfl (lv_at hl 0 rfl) ?_
  refine lv_if_lt (tgt := 44) hx hb dX7_isRemembered_13 (by decide) (fun c_1 => ?_) (fun c_1 => ?_)
  · rw [if_pos c_1] at hR
    refine lv_iconst (v := (0 : Int32)) hx hb dX7_isRemembered_44 (by decide) ?_
    subst hR
    exact (hF _ _ _ _ hP hS).1 _ rfl ⟨.boolean, rfl, rfl⟩ dX7_isRemembered_45
  · rw [if_neg c_1] at hR
    refine lv_aload_n hx hb dX7_isRemembered_16 rfl (lv_at hl 1 rfl) ?_
    refine fget E hP 0 rfl fd_X7_13 (v := .ref a_o_forgets) rfl dX7_isRemembered_17 ?_
    refine lv_iload_n hx hb dX7_isRemembered_20 rfl (lv_at hl 2 rfl) ?_
    refine ild E hP 2 rfl (k := x1) (by omega) (by decide) dX7_isRemembered_21 ?_
    refine lv_if_eq (tgt := 40) hx hb dX7_isRemembered_22 (by decide) (fun c_2 => ?_) (fun c_2 => ?_)
    · rw [if_pos c_2] at hR
      refine lv_iconst (v := (1 : Int32)) hx hb dX7_isRemembered_40 (by decide) ?_
      refine lv_goto (tgt := 45) hx hb dX7_isRemembered_41 (by decide) ?_
      subst hR
      exact (hF _ _ _ _ hP hS).1 _ rfl ⟨.boolean, rfl, rfl⟩ dX7_isRemembered_45
    · rw [if_neg c_2] at hR
      refine lv_aload_n hx hb dX7_isRemembered_25 rfl (lv_at hl 1 rfl) ?_
      refine fget E hP 0 rfl fd_X7_229 (v := .int o_day) rfl dX7_isRemembered_26 ?_
      refine lv_iload_n hx hb dX7_isRemembered_29 rfl (lv_at hl 0 rfl) ?_
      refine lv_isub hx hb dX7_isRemembered_30 ?_
      refine lv_aload_n hx hb dX7_isRemembered_31 rfl (lv_at hl 1 rfl) ?_
      refine fget E hP 0 rfl fd_X7_13 (v := .ref a_o_forgets) rfl dX7_isRemembered_32 ?_
      refine lv_iload_n hx hb dX7_isRemembered_35 rfl (lv_at hl 2 rfl) ?_
      refine ild E hP 2 rfl (k := x1) (by omega) (by decide) dX7_isRemembered_36 ?_
      refine lv_icmp_gt (tgt := 44) hx hb dX7_isRemembered_37 (by decide) (fun c_3 => ?_) (fun c_3 => ?_)
      · rw [if_pos c_3] at hR
        refine lv_iconst (v := (0 : Int32)) hx hb dX7_isRemembered_44 (by decide) ?_
        subst hR
        exact (hF _ _ _ _ hP hS).1 _ rfl ⟨.boolean, rfl, rfl⟩ dX7_isRemembered_45
      · rw [if_neg c_3] at hR
        refine lv_iconst (v := (1 : Int32)) hx hb dX7_isRemembered_40 (by decide) ?_
        refine lv_goto (tgt := 45) hx hb dX7_isRemembered_41 (by decide) ?_
        subst hR
        exact (hF _ _ _ _ hP hS).1 _ rfl ⟨.boolean, rfl, rfl⟩ dX7_isRemembered_45

def K_X7_evening_113 (o_day : Int32) (v1_4 : Int32) (o_lieDay_h4 : Nat → Int32) (o_over_h113 : Nat → Int32) : Int32 × (Nat → Int32) × Int32 × (Nat → Int32) := (v1_4, o_lieDay_h4, (o_day + (1 : Int32)), o_over_h113)
def B_X7_evening_113  (k_113 : Nat) (o_over_h113 : Nat → Int32) : (Nat → Int32) := (upd o_over_h113 k_113 (0 : Int32))
def K_X7_evening_4 (o_bridges : Nat) (o_over : Nat → Int32) (o_day : Int32) (v1_4 : Int32) (o_lieDay_h4 : Nat → Int32) : Int32 × (Nat → Int32) × Int32 × (Nat → Int32) := ((fun a => K_X7_evening_113 o_day v1_4 o_lieDay_h4 a) (iter (fun k a => B_X7_evening_113 k a) o_bridges 0 o_over))
def K_X7_evening_14  (v1_14 : Int32) (o_lieDay_h14 : Nat → Int32) : Int32 × (Nat → Int32) := (v1_14, o_lieDay_h14)
def B_X7_evening_14 (k_4 : Nat) (o_named : Nat → Int32) (o_over : Nat → Int32) (o_day : Int32) (k_14 : Nat) (v1_14 : Int32) (o_lieDay_h14 : Nat → Int32) : Int32 × (Nat → Int32) := (if (S_X7_has (o_over k_4) (nI k_14)) = 0 then (v1_14, o_lieDay_h14) else (if (o_named ((6 * k_4) + k_14)) = (-1 : Int32) then (v1_14, o_lieDay_h14) else (if (S_X7_has (o_over k_4) (o_named ((6 * k_4) + k_14))) = 0 then ((v1_14 ||| ((1 : Int32) <<< ((nI k_14) &&& 31))), (upd o_lieDay_h14 ((6 * k_4) + k_14) o_day)) else (v1_14, o_lieDay_h14))))
def B_X7_evening_4 (o_men : Nat) (o_named : Nat → Int32) (o_over : Nat → Int32) (o_day : Int32) (k_4 : Nat) (v1_4 : Int32) (o_lieDay_h4 : Nat → Int32) : Int32 × (Nat → Int32) := ((fun a => K_X7_evening_14 a.1 a.2) (iter (fun k a => B_X7_evening_14 k_4 o_named o_over o_day k a.1 a.2) o_men 0 (v1_4, o_lieDay_h4)))
def S_X7_evening (o_bridges : Nat) (o_men : Nat) (o_named : Nat → Int32) (o_over : Nat → Int32) (o_day : Int32) (o_lieDay : Nat → Int32) : Int32 × (Nat → Int32) × Int32 × (Nat → Int32) := ((fun a => K_X7_evening_4 o_bridges o_over o_day a.1 a.2) (iter (fun k a => B_X7_evening_4 o_men o_named o_over o_day k a.1 a.2) o_bridges 0 ((0 : Int32), o_lieDay)))
set_option maxHeartbeats 4000000 in
set_option maxRecDepth 100000 in
theorem c_X7_evening (l : Launch) (D : va_G) (tB tI tZ : ClassId) (a_o a_o_forgets a_o_weight a_o_comes a_o_oxWeight a_o_oxPrice a_o_knows a_o_over a_o_named a_o_lieDay a_o_aloneYear a_o_text a_o_readForgets a_o_readWeight a_o_readComes a_o_readKnows a_o_readOx a_o_readPrice a_o_order a_o_orderNames a_o_seenWho a_o_seenNamed a_o_seenLetGo a_o_placeIn a_o_behind a_o_rowWho a_o_rowNames a_o_images a_o_isKept : Nat) (o_year : Int32) (o_bridges : Nat) (o_men : Nat) (o_oxen : Nat) (o_alive : Int32) (o_day : Int32) (o_seed : Int32) (o_texted : Nat) (o_faultPlace : Int32) (o_at0 : Nat) (o_said : Int64) (o_wordEnd : Nat) (o_number : Int32) (o_numberAt : Nat) (o_readYear : Int32) (o_readClauses : Int32) (o_readBridges : Nat) (o_readMen : Nat) (o_readMany : Int32) (o_readOxen : Nat) (o_sights : Nat) (o_rowMany : Nat) (o_named : Nat → Int32) (o_over : Nat → Int32) (o_lieDay : Nat → Int32)  (hbr : o_bridges ≤ 5) (hmen : o_men ≤ 6) : CT l D (tyL tB tI tZ) yX7_evening (.code yX7_evening cX7_evening 5 (some .int)) 1 21 [.ref a_o] [(a_o, .inr (7, (.int o_year :: .int (nI o_bridges) :: .ref a_o_forgets :: .int (nI o_men) :: .ref a_o_weight :: .ref a_o_comes :: .int (nI o_oxen) :: .ref a_o_oxWeight :: .ref a_o_oxPrice :: .ref a_o_knows :: .int o_alive :: .int o_day :: .ref a_o_over :: .ref a_o_named :: .ref a_o_lieDay :: .ref a_o_aloneYear :: .int o_seed :: .ref a_o_text :: .int (nI o_texted) :: .int o_faultPlace :: .int (nI o_at0) :: .long o_said :: .int (nI o_wordEnd) :: .int o_number :: .int (nI o_numberAt) :: .int o_readYear :: .int o_readClauses :: .int (nI o_readBridges) :: .ref a_o_readForgets :: .int (nI o_readMen) :: .ref a_o_readWeight :: .ref a_o_readComes :: .int o_readMany :: .ref a_o_readKnows :: .int (nI o_readOxen) :: .ref a_o_readOx :: .ref a_o_readPrice :: .ref a_o_order :: .ref a_o_orderNames :: .int (nI o_sights) :: .ref a_o_seenWho :: .ref a_o_seenNamed :: .ref a_o_seenLetGo :: .ref a_o_placeIn :: .ref a_o_behind :: .int (nI o_rowMany) :: .ref a_o_rowWho :: .ref a_o_rowNames :: .ref a_o_images :: .ref a_o_isKept :: []))), (a_o_named, .inl (tI, 30, .inl o_named)), (a_o_over, .inl (tI, 5, .inl o_over)), (a_o_lieDay, .inl (tI, 30, .inl o_lieDay))] (fun u : Int32 × (Nat → Int32) × Int32 × (Nat → Int32) => some (.int (u.1))) (fun u : Int32 × (Nat → Int32) × Int32 × (Nat → Int32) => [(a_o, .inr (7, (.int o_year :: .int (nI o_bridges) :: .ref a_o_forgets :: .int (nI o_men) :: .ref a_o_weight :: .ref a_o_comes :: .int (nI o_oxen) :: .ref a_o_oxWeight :: .ref a_o_oxPrice :: .ref a_o_knows :: .int o_alive :: .int (u.2.2.1) :: .ref a_o_over :: .ref a_o_named :: .ref a_o_lieDay :: .ref a_o_aloneYear :: .int o_seed :: .ref a_o_text :: .int (nI o_texted) :: .int o_faultPlace :: .int (nI o_at0) :: .long o_said :: .int (nI o_wordEnd) :: .int o_number :: .int (nI o_numberAt) :: .int o_readYear :: .int o_readClauses :: .int (nI o_readBridges) :: .ref a_o_readForgets :: .int (nI o_readMen) :: .ref a_o_readWeight :: .ref a_o_readComes :: .int o_readMany :: .ref a_o_readKnows :: .int (nI o_readOxen) :: .ref a_o_readOx :: .ref a_o_readPrice :: .ref a_o_order :: .ref a_o_orderNames :: .int (nI o_sights) :: .ref a_o_seenWho :: .ref a_o_seenNamed :: .ref a_o_seenLetGo :: .ref a_o_placeIn :: .ref a_o_behind :: .int (nI o_rowMany) :: .ref a_o_rowWho :: .ref a_o_rowNames :: .ref a_o_images :: .ref a_o_isKept :: []))), (a_o_named, .inl (tI, 30, .inl o_named)), (a_o_over, .inl (tI, 5, .inl (u.2.2.2))), (a_o_lieDay, .inl (tI, 30, .inl (u.2.1)))]) (S_X7_evening o_bridges o_men o_named o_over o_day o_lieDay) := by
  refine CT.intro (k := 0) (Nat.le_of_ble_eq_true rfl) (by decide) ?_
  intro p e s m below meth c Q A ls E hA hP hD hS hl hF
  obtain ⟨⟨hx, hb, hml, hown, hts⟩, hK⟩ := id E
  generalize hR : S_X7_evening o_bridges o_men o_named o_over o_day o_lieDay = RES at hF
  unfold S_X7_evening at hR
  have hl : lv_has ls 5 [(0, .ref a_o)] := hl
  refine lv_iconst (v := (0 : Int32)) hx hb dX7_evening_0 (by decide) ?_
  refine lv_istore_n (lv' := [(1, .int (0 : Int32)), (0, .ref a_o)]) hx hb dX7_evening_1 rfl hl (by decide) rfl (fun ls hl => ?_)
  refine lv_iconst (v := (0 : Int32)) hx hb dX7_evening_2 (by decide) ?_
  refine lv_istore_n (lv' := [(2, .int (0 : Int32)), (1, .int (0 : Int32)), (0, .ref a_o)]) hx hb dX7_evening_3 rfl hl (by decide) rfl (fun ls hl => ?_)
  have EX_4 : ∀ (v1_4 : Int32) (o_lieDay_h4 : Nat → Int32)  (H : Heap) (locs : List Loc) (ls : Array Slot), K_X7_evening_4 o_bridges o_over o_day v1_4 o_lieDay_h4 = RES → va_P D vwCl [(a_o, .inr (7, (.int o_year :: .int (nI o_bridges) :: .ref a_o_forgets :: .int (nI o_men) :: .ref a_o_weight :: .ref a_o_comes :: .int (nI o_oxen) :: .ref a_o_oxWeight :: .ref a_o_oxPrice :: .ref a_o_knows :: .int o_alive :: .int o_day :: .ref a_o_over :: .ref a_o_named :: .ref a_o_lieDay :: .ref a_o_aloneYear :: .int o_seed :: .ref a_o_text :: .int (nI o_texted) :: .int o_faultPlace :: .int (nI o_at0) :: .long o_said :: .int (nI o_wordEnd) :: .int o_number :: .int (nI o_numberAt) :: .int o_readYear :: .int o_readClauses :: .int (nI o_readBridges) :: .ref a_o_readForgets :: .int (nI o_readMen) :: .ref a_o_readWeight :: .ref a_o_readComes :: .int o_readMany :: .ref a_o_readKnows :: .int (nI o_readOxen) :: .ref a_o_readOx :: .ref a_o_readPrice :: .ref a_o_order :: .ref a_o_orderNames :: .int (nI o_sights) :: .ref a_o_seenWho :: .ref a_o_seenNamed :: .ref a_o_seenLetGo :: .ref a_o_placeIn :: .ref a_o_behind :: .int (nI o_rowMany) :: .ref a_o_rowWho :: .ref a_o_rowNames :: .ref a_o_images :: .ref a_o_isKept :: []))), (a_o_named, .inl (tI, 30, .inl o_named)), (a_o_over, .inl (tI, 5, .inl o_over)), (a_o_lieDay, .inl (tI, 30, .inl o_lieDay_h4))] H → va_D A [(a_o, .inr (7, (.int o_year :: .int (nI o_bridges) :: .ref a_o_forgets :: .int (nI o_men) :: .ref a_o_weight :: .ref a_o_comes :: .int (nI o_oxen) :: .ref a_o_oxWeight :: .ref a_o_oxPrice :: .ref a_o_knows :: .int o_alive :: .int o_day :: .ref a_o_over :: .ref a_o_named :: .ref a_o_lieDay :: .ref a_o_aloneYear :: .int o_seed :: .ref a_o_text :: .int (nI o_texted) :: .int o_faultPlace :: .int (nI o_at0) :: .long o_said :: .int (nI o_wordEnd) :: .int o_number :: .int (nI o_numberAt) :: .int o_readYear :: .int o_readClauses :: .int (nI o_readBridges) :: .ref a_o_readForgets :: .int (nI o_readMen) :: .ref a_o_readWeight :: .ref a_o_readComes :: .int o_readMany :: .ref a_o_readKnows :: .int (nI o_readOxen) :: .ref a_o_readOx :: .ref a_o_readPrice :: .ref a_o_order :: .ref a_o_orderNames :: .int (nI o_sights) :: .ref a_o_seenWho :: .ref a_o_seenNamed :: .ref a_o_seenLetGo :: .ref a_o_placeIn :: .ref a_o_behind :: .int (nI o_rowMany) :: .ref a_o_rowWho :: .ref a_o_rowNames :: .ref a_o_images :: .ref a_o_isKept :: []))), (a_o_named, .inl (tI, 30, .inl o_named)), (a_o_over, .inl (tI, 5, .inl o_over)), (a_o_lieDay, .inl (tI, 30, .inl o_lieDay_h4))] → va_S A s.heap H locs → lv_has ls 5 [(1, .int v1_4), (0, .ref a_o)] → W p l e { frames := 1, cells := 0, slots := 0, locals := 21 } s m ([.ref a_o] : List Value).toArray below meth c H locs 0 0 Q (F0 m 101 ls []) := by
    intro v1_4 o_lieDay_h4 H locs ls hR hP hD hS hl
    unfold K_X7_evening_4 at hR
    refine lv_aload_n hx hb dX7_evening_101 rfl (lv_at hl 1 rfl) ?_
    refine lv_dup hx hb dX7_evening_102 rfl ?_
    refine fget E hP 0 rfl fd_X7_229 (v := .int o_day) rfl dX7_evening_103 ?_
    refine lv_iconst (v := (1 : Int32)) hx hb dX7_evening_106 (by decide) ?_
    refine lv_iadd hx hb dX7_evening_107 ?_
    refine fput E hP hD hS 0 rfl fd_X7_229 fp_X7 (ty := .int) (v := .int (o_day + (1 : Int32))) rfl rfl rfl rfl (Nat.le_of_ble_eq_true rfl) dX7_evening_108 (fun H locs hP hD hS => ?_)
    have hP : va_P D vwCl [(a_o, .inr (7, (.int o_year :: .int (nI o_bridges) :: .ref a_o_forgets :: .int (nI o_men) :: .ref a_o_weight :: .ref a_o_comes :: .int (nI o_oxen) :: .ref a_o_oxWeight :: .ref a_o_oxPrice :: .ref a_o_knows :: .int o_alive :: .int (o_day + (1 : Int32)) :: .ref a_o_over :: .ref a_o_named :: .ref a_o_lieDay :: .ref a_o_aloneYear :: .int o_seed :: .ref a_o_text :: .int (nI o_texted) :: .int o_faultPlace :: .int (nI o_at0) :: .long o_said :: .int (nI o_wordEnd) :: .int o_number :: .int (nI o_numberAt) :: .int o_readYear :: .int o_readClauses :: .int (nI o_readBridges) :: .ref a_o_readForgets :: .int (nI o_readMen) :: .ref a_o_readWeight :: .ref a_o_readComes :: .int o_readMany :: .ref a_o_readKnows :: .int (nI o_readOxen) :: .ref a_o_readOx :: .ref a_o_readPrice :: .ref a_o_order :: .ref a_o_orderNames :: .int (nI o_sights) :: .ref a_o_seenWho :: .ref a_o_seenNamed :: .ref a_o_seenLetGo :: .ref a_o_placeIn :: .ref a_o_behind :: .int (nI o_rowMany) :: .ref a_o_rowWho :: .ref a_o_rowNames :: .ref a_o_images :: .ref a_o_isKept :: []))), (a_o_named, .inl (tI, 30, .inl o_named)), (a_o_over, .inl (tI, 5, .inl o_over)), (a_o_lieDay, .inl (tI, 30, .inl o_lieDay_h4))] H := hP
    have hD : va_D A [(a_o, .inr (7, (.int o_year :: .int (nI o_bridges) :: .ref a_o_forgets :: .int (nI o_men) :: .ref a_o_weight :: .ref a_o_comes :: .int (nI o_oxen) :: .ref a_o_oxWeight :: .ref a_o_oxPrice :: .ref a_o_knows :: .int o_alive :: .int (o_day + (1 : Int32)) :: .ref a_o_over :: .ref a_o_named :: .ref a_o_lieDay :: .ref a_o_aloneYear :: .int o_seed :: .ref a_o_text :: .int (nI o_texted) :: .int o_faultPlace :: .int (nI o_at0) :: .long o_said :: .int (nI o_wordEnd) :: .int o_number :: .int (nI o_numberAt) :: .int o_readYear :: .int o_readClauses :: .int (nI o_readBridges) :: .ref a_o_readForgets :: .int (nI o_readMen) :: .ref a_o_readWeight :: .ref a_o_readComes :: .int o_readMany :: .ref a_o_readKnows :: .int (nI o_readOxen) :: .ref a_o_readOx :: .ref a_o_readPrice :: .ref a_o_order :: .ref a_o_orderNames :: .int (nI o_sights) :: .ref a_o_seenWho :: .ref a_o_seenNamed :: .ref a_o_seenLetGo :: .ref a_o_placeIn :: .ref a_o_behind :: .int (nI o_rowMany) :: .ref a_o_rowWho :: .ref a_o_rowNames :: .ref a_o_images :: .ref a_o_isKept :: []))), (a_o_named, .inl (tI, 30, .inl o_named)), (a_o_over, .inl (tI, 5, .inl o_over)), (a_o_lieDay, .inl (tI, 30, .inl o_lieDay_h4))] := hD
    refine lv_iconst (v := (0 : Int32)) hx hb dX7_evening_111 (by decide) ?_
    refine lv_istore_n (lv' := [(2, .int (0 : Int32)), (1, .int v1_4), (0, .ref a_o)]) hx hb dX7_evening_112 rfl hl (by decide) rfl (fun ls hl => ?_)
    have EX_113 : ∀ (o_over_h113 : Nat → Int32)  (H : Heap) (locs : List Loc) (ls : Array Slot), K_X7_evening_113 o_day v1_4 o_lieDay_h4 o_over_h113 = RES → va_P D vwCl [(a_o, .inr (7, (.int o_year :: .int (nI o_bridges) :: .ref a_o_forgets :: .int (nI o_men) :: .ref a_o_weight :: .ref a_o_comes :: .int (nI o_oxen) :: .ref a_o_oxWeight :: .ref a_o_oxPrice :: .ref a_o_knows :: .int o_alive :: .int (o_day + (1 : Int32)) :: .ref a_o_over :: .ref a_o_named :: .ref a_o_lieDay :: .ref a_o_aloneYear :: .int o_seed :: .ref a_o_text :: .int (nI o_texted) :: .int o_faultPlace :: .int (nI o_at0) :: .long o_said :: .int (nI o_wordEnd) :: .int o_number :: .int (nI o_numberAt) :: .int o_readYear :: .int o_readClauses :: .int (nI o_readBridges) :: .ref a_o_readForgets :: .int (nI o_readMen) :: .ref a_o_readWeight :: .ref a_o_readComes :: .int o_readMany :: .ref a_o_readKnows :: .int (nI o_readOxen) :: .ref a_o_readOx :: .ref a_o_readPrice :: .ref a_o_order :: .ref a_o_orderNames :: .int (nI o_sights) :: .ref a_o_seenWho :: .ref a_o_seenNamed :: .ref a_o_seenLetGo :: .ref a_o_placeIn :: .ref a_o_behind :: .int (nI o_rowMany) :: .ref a_o_rowWho :: .ref a_o_rowNames :: .ref a_o_images :: .ref a_o_isKept :: []))), (a_o_named, .inl (tI, 30, .inl o_named)), (a_o_over, .inl (tI, 5, .inl o_over_h113)), (a_o_lieDay, .inl (tI, 30, .inl o_lieDay_h4))] H → va_D A [(a_o, .inr (7, (.int o_year :: .int (nI o_bridges) :: .ref a_o_forgets :: .int (nI o_men) :: .ref a_o_weight :: .ref a_o_comes :: .int (nI o_oxen) :: .ref a_o_oxWeight :: .ref a_o_oxPrice :: .ref a_o_knows :: .int o_alive :: .int (o_day + (1 : Int32)) :: .ref a_o_over :: .ref a_o_named :: .ref a_o_lieDay :: .ref a_o_aloneYear :: .int o_seed :: .ref a_o_text :: .int (nI o_texted) :: .int o_faultPlace :: .int (nI o_at0) :: .long o_said :: .int (nI o_wordEnd) :: .int o_number :: .int (nI o_numberAt) :: .int o_readYear :: .int o_readClauses :: .int (nI o_readBridges) :: .ref a_o_readForgets :: .int (nI o_readMen) :: .ref a_o_readWeight :: .ref a_o_readComes :: .int o_readMany :: .ref a_o_readKnows :: .int (nI o_readOxen) :: .ref a_o_readOx :: .ref a_o_readPrice :: .ref a_o_order :: .ref a_o_orderNames :: .int (nI o_sights) :: .ref a_o_seenWho :: .ref a_o_seenNamed :: .ref a_o_seenLetGo :: .ref a_o_placeIn :: .ref a_o_behind :: .int (nI o_rowMany) :: .ref a_o_rowWho :: .ref a_o_rowNames :: .ref a_o_images :: .ref a_o_isKept :: []))), (a_o_named, .inl (tI, 30, .inl o_named)), (a_o_over, .inl (tI, 5, .inl o_over_h113)), (a_o_lieDay, .inl (tI, 30, .inl o_lieDay_h4))] → va_S A s.heap H locs → lv_has ls 5 [(1, .int v1_4)] → W p l e { frames := 1, cells := 0, slots := 0, locals := 21 } s m ([.ref a_o] : List Value).toArray below meth c H locs 0 0 Q (F0 m 134 ls []) := by
      intro o_over_h113 H locs ls hR hP hD hS hl
      unfold K_X7_evening_113 at hR
      refine lv_iload_n hx hb dX7_evening_134 rfl (lv_at hl 0 rfl) ?_
      subst hR
      exact (hF _ _ _ _ hP hS).1 _ rfl ⟨.int, rfl, rfl⟩ dX7_evening_135
    have LP_113 : ∀ (n_113 k_113 : Nat) (o_over_h113 : Nat → Int32)  (H : Heap) (locs : List Loc) (ls : Array Slot), k_113 + n_113 = o_bridges → (fun a => K_X7_evening_113 o_day v1_4 o_lieDay_h4 a) (iter (fun k a => B_X7_evening_113 k a) n_113 k_113 o_over_h113) = RES → va_P D vwCl [(a_o, .inr (7, (.int o_year :: .int (nI o_bridges) :: .ref a_o_forgets :: .int (nI o_men) :: .ref a_o_weight :: .ref a_o_comes :: .int (nI o_oxen) :: .ref a_o_oxWeight :: .ref a_o_oxPrice :: .ref a_o_knows :: .int o_alive :: .int (o_day + (1 : Int32)) :: .ref a_o_over :: .ref a_o_named :: .ref a_o_lieDay :: .ref a_o_aloneYear :: .int o_seed :: .ref a_o_text :: .int (nI o_texted) :: .int o_faultPlace :: .int (nI o_at0) :: .long o_said :: .int (nI o_wordEnd) :: .int o_number :: .int (nI o_numberAt) :: .int o_readYear :: .int o_readClauses :: .int (nI o_readBridges) :: .ref a_o_readForgets :: .int (nI o_readMen) :: .ref a_o_readWeight :: .ref a_o_readComes :: .int o_readMany :: .ref a_o_readKnows :: .int (nI o_readOxen) :: .ref a_o_readOx :: .ref a_o_readPrice :: .ref a_o_order :: .ref a_o_orderNames :: .int (nI o_sights) :: .ref a_o_seenWho :: .ref a_o_seenNamed :: .ref a_o_seenLetGo :: .ref a_o_placeIn :: .ref a_o_behind :: .int (nI o_rowMany) :: .ref a_o_rowWho :: .ref a_o_rowNames :: .ref a_o_images :: .ref a_o_isKept :: []))), (a_o_named, .inl (tI, 30, .inl o_named)), (a_o_over, .inl (tI, 5, .inl o_over_h113)), (a_o_lieDay, .inl (tI, 30, .inl o_lieDay_h4))] H → va_D A [(a_o, .inr (7, (.int o_year :: .int (nI o_bridges) :: .ref a_o_forgets :: .int (nI o_men) :: .ref a_o_weight :: .ref a_o_comes :: .int (nI o_oxen) :: .ref a_o_oxWeight :: .ref a_o_oxPrice :: .ref a_o_knows :: .int o_alive :: .int (o_day + (1 : Int32)) :: .ref a_o_over :: .ref a_o_named :: .ref a_o_lieDay :: .ref a_o_aloneYear :: .int o_seed :: .ref a_o_text :: .int (nI o_texted) :: .int o_faultPlace :: .int (nI o_at0) :: .long o_said :: .int (nI o_wordEnd) :: .int o_number :: .int (nI o_numberAt) :: .int o_readYear :: .int o_readClauses :: .int (nI o_readBridges) :: .ref a_o_readForgets :: .int (nI o_readMen) :: .ref a_o_readWeight :: .ref a_o_readComes :: .int o_readMany :: .ref a_o_readKnows :: .int (nI o_readOxen) :: .ref a_o_readOx :: .ref a_o_readPrice :: .ref a_o_order :: .ref a_o_orderNames :: .int (nI o_sights) :: .ref a_o_seenWho :: .ref a_o_seenNamed :: .ref a_o_seenLetGo :: .ref a_o_placeIn :: .ref a_o_behind :: .int (nI o_rowMany) :: .ref a_o_rowWho :: .ref a_o_rowNames :: .ref a_o_images :: .ref a_o_isKept :: []))), (a_o_named, .inl (tI, 30, .inl o_named)), (a_o_over, .inl (tI, 5, .inl o_over_h113)), (a_o_lieDay, .inl (tI, 30, .inl o_lieDay_h4))] → va_S A s.heap H locs → lv_has ls 5 [(2, .int (nI k_113)), (1, .int v1_4), (0, .ref a_o)] → W p l e { frames := 1, cells := 0, slots := 0, locals := 21 } s m ([.ref a_o] : List Value).toArray below meth c H locs 0 0 Q (F0 m 113 ls []) := by
      intro n_113
      induction n_113 with
      | zero =>
        intro k_113 o_over_h113 H locs ls hn_113 hR hP hD hS hl
        refine lv_iload_n hx hb dX7_evening_113 rfl (lv_at hl 0 rfl) ?_
        refine lv_aload_n hx hb dX7_evening_114 rfl (lv_at hl 2 rfl) ?_
        refine fget E hP 0 rfl fd_X7_105 (v := .int (nI o_bridges)) rfl dX7_evening_115 ?_
        refine ni_ge (a := k_113) (b := o_bridges) (tgt := 134) (by omega) (by omega) hx hb dX7_evening_118 (by decide) (fun g_113 => ?_) (fun g_113 => ?_)
        · exact EX_113 o_over_h113  _ _ _ hR hP hD hS (lv_sub hl [1] rfl)
        · exfalso; omega
      | succ n_113 ih_113 =>
        intro k_113 o_over_h113 H locs ls hn_113 hR hP hD hS hl
        have hR : (fun a => K_X7_evening_113 o_day v1_4 o_lieDay_h4 a) (iter (fun k a => B_X7_evening_113 k a) n_113 (k_113 + 1) (B_X7_evening_113 k_113 o_over_h113)) = RES := hR
        generalize hB_113 : B_X7_evening_113 k_113 o_over_h113 = RB_113 at hR
        unfold B_X7_evening_113 at hB_113
        refine lv_iload_n hx hb dX7_evening_113 rfl (lv_at hl 0 rfl) ?_
        refine lv_aload_n hx hb dX7_evening_114 rfl (lv_at hl 2 rfl) ?_
        refine fget E hP 0 rfl fd_X7_105 (v := .int (nI o_bridges)) rfl dX7_evening_115 ?_
        refine ni_ge (a := k_113) (b := o_bridges) (tgt := 134) (by omega) (by omega) hx hb dX7_evening_118 (by decide) (fun g_113 => ?_) (fun g_113 => ?_)
        · exfalso; omega
        · refine lv_aload_n hx hb dX7_evening_121 rfl (lv_at hl 2 rfl) ?_
          refine fget E hP 0 rfl fd_X7_32 (v := .ref a_o_over) rfl dX7_evening_122 ?_
          refine lv_iload_n hx hb dX7_evening_125 rfl (lv_at hl 0 rfl) ?_
          refine lv_iconst (v := (0 : Int32)) hx hb dX7_evening_126 (by decide) ?_
          refine ist E hP hD hS 2 rfl (k := k_113) (by omega) (by decide) dX7_evening_127 (fun H locs hP hD hS => ?_)
          have hP : va_P D vwCl [(a_o, .inr (7, (.int o_year :: .int (nI o_bridges) :: .ref a_o_forgets :: .int (nI o_men) :: .ref a_o_weight :: .ref a_o_comes :: .int (nI o_oxen) :: .ref a_o_oxWeight :: .ref a_o_oxPrice :: .ref a_o_knows :: .int o_alive :: .int (o_day + (1 : Int32)) :: .ref a_o_over :: .ref a_o_named :: .ref a_o_lieDay :: .ref a_o_aloneYear :: .int o_seed :: .ref a_o_text :: .int (nI o_texted) :: .int o_faultPlace :: .int (nI o_at0) :: .long o_said :: .int (nI o_wordEnd) :: .int o_number :: .int (nI o_numberAt) :: .int o_readYear :: .int o_readClauses :: .int (nI o_readBridges) :: .ref a_o_readForgets :: .int (nI o_readMen) :: .ref a_o_readWeight :: .ref a_o_readComes :: .int o_readMany :: .ref a_o_readKnows :: .int (nI o_readOxen) :: .ref a_o_readOx :: .ref a_o_readPrice :: .ref a_o_order :: .ref a_o_orderNames :: .int (nI o_sights) :: .ref a_o_seenWho :: .ref a_o_seenNamed :: .ref a_o_seenLetGo :: .ref a_o_placeIn :: .ref a_o_behind :: .int (nI o_rowMany) :: .ref a_o_rowWho :: .ref a_o_rowNames :: .ref a_o_images :: .ref a_o_isKept :: []))), (a_o_named, .inl (tI, 30, .inl o_named)), (a_o_over, .inl (tI, 5, .inl (upd o_over_h113 k_113 (0 : Int32)))), (a_o_lieDay, .inl (tI, 30, .inl o_lieDay_h4))] H := hP
          have hD : va_D A [(a_o, .inr (7, (.int o_year :: .int (nI o_bridges) :: .ref a_o_forgets :: .int (nI o_men) :: .ref a_o_weight :: .ref a_o_comes :: .int (nI o_oxen) :: .ref a_o_oxWeight :: .ref a_o_oxPrice :: .ref a_o_knows :: .int o_alive :: .int (o_day + (1 : Int32)) :: .ref a_o_over :: .ref a_o_named :: .ref a_o_lieDay :: .ref a_o_aloneYear :: .int o_seed :: .ref a_o_text :: .int (nI o_texted) :: .int o_faultPlace :: .int (nI o_at0) :: .long o_said :: .int (nI o_wordEnd) :: .int o_number :: .int (nI o_numberAt) :: .int o_readYear :: .int o_readClauses :: .int (nI o_readBridges) :: .ref a_o_readForgets :: .int (nI o_readMen) :: .ref a_o_readWeight :: .ref a_o_readComes :: .int o_readMany :: .ref a_o_readKnows :: .int (nI o_readOxen) :: .ref a_o_readOx :: .ref a_o_readPrice :: .ref a_o_order :: .ref a_o_orderNames :: .int (nI o_sights) :: .ref a_o_seenWho :: .ref a_o_seenNamed :: .ref a_o_seenLetGo :: .ref a_o_placeIn :: .ref a_o_behind :: .int (nI o_rowMany) :: .ref a_o_rowWho :: .ref a_o_rowNames :: .ref a_o_images :: .ref a_o_isKept :: []))), (a_o_named, .inl (tI, 30, .inl o_named)), (a_o_over, .inl (tI, 5, .inl (upd o_over_h113 k_113 (0 : Int32)))), (a_o_lieDay, .inl (tI, 30, .inl o_lieDay_h4))] := hD
          refine lv_iinc (v := (nI (k_113 + 1))) (lv' := [(2, .int (nI (k_113 + 1))), (1, .int v1_4), (0, .ref a_o)]) hx hb dX7_evening_128 hl (k := 0) rfl (nI_i1 k_113) (by decide) rfl (fun ls hl => ?_)
          refine lv_goto (tgt := 113) hx hb dX7_evening_131 (by decide) ?_
          subst hB_113
          exact ih_113 (k_113 + 1) (upd o_over_h113 k_113 (0 : Int32))  _ _ _ (by omega) hR hP hD hS (lv_sub hl [0, 1, 2] rfl)
    exact LP_113 o_bridges 0 o_over  _ _ _ (by omega) hR hP hD hS (lv_sub hl [0, 1, 2] rfl)
  have LP_4 : ∀ (n_4 k_4 : Nat) (v1_4 : Int32) (o_lieDay_h4 : Nat → Int32)  (H : Heap) (locs : List Loc) (ls : Array Slot), k_4 + n_4 = o_bridges → (fun a => K_X7_evening_4 o_bridges o_over o_day a.1 a.2) (iter (fun k a => B_X7_evening_4 o_men o_named o_over o_day k a.1 a.2) n_4 k_4 (v1_4, o_lieDay_h4)) = RES → va_P D vwCl [(a_o, .inr (7, (.int o_year :: .int (nI o_bridges) :: .ref a_o_forgets :: .int (nI o_men) :: .ref a_o_weight :: .ref a_o_comes :: .int (nI o_oxen) :: .ref a_o_oxWeight :: .ref a_o_oxPrice :: .ref a_o_knows :: .int o_alive :: .int o_day :: .ref a_o_over :: .ref a_o_named :: .ref a_o_lieDay :: .ref a_o_aloneYear :: .int o_seed :: .ref a_o_text :: .int (nI o_texted) :: .int o_faultPlace :: .int (nI o_at0) :: .long o_said :: .int (nI o_wordEnd) :: .int o_number :: .int (nI o_numberAt) :: .int o_readYear :: .int o_readClauses :: .int (nI o_readBridges) :: .ref a_o_readForgets :: .int (nI o_readMen) :: .ref a_o_readWeight :: .ref a_o_readComes :: .int o_readMany :: .ref a_o_readKnows :: .int (nI o_readOxen) :: .ref a_o_readOx :: .ref a_o_readPrice :: .ref a_o_order :: .ref a_o_orderNames :: .int (nI o_sights) :: .ref a_o_seenWho :: .ref a_o_seenNamed :: .ref a_o_seenLetGo :: .ref a_o_placeIn :: .ref a_o_behind :: .int (nI o_rowMany) :: .ref a_o_rowWho :: .ref a_o_rowNames :: .ref a_o_images :: .ref a_o_isKept :: []))), (a_o_named, .inl (tI, 30, .inl o_named)), (a_o_over, .inl (tI, 5, .inl o_over)), (a_o_lieDay, .inl (tI, 30, .inl o_lieDay_h4))] H → va_D A [(a_o, .inr (7, (.int o_year :: .int (nI o_bridges) :: .ref a_o_forgets :: .int (nI o_men) :: .ref a_o_weight :: .ref a_o_comes :: .int (nI o_oxen) :: .ref a_o_oxWeight :: .ref a_o_oxPrice :: .ref a_o_knows :: .int o_alive :: .int o_day :: .ref a_o_over :: .ref a_o_named :: .ref a_o_lieDay :: .ref a_o_aloneYear :: .int o_seed :: .ref a_o_text :: .int (nI o_texted) :: .int o_faultPlace :: .int (nI o_at0) :: .long o_said :: .int (nI o_wordEnd) :: .int o_number :: .int (nI o_numberAt) :: .int o_readYear :: .int o_readClauses :: .int (nI o_readBridges) :: .ref a_o_readForgets :: .int (nI o_readMen) :: .ref a_o_readWeight :: .ref a_o_readComes :: .int o_readMany :: .ref a_o_readKnows :: .int (nI o_readOxen) :: .ref a_o_readOx :: .ref a_o_readPrice :: .ref a_o_order :: .ref a_o_orderNames :: .int (nI o_sights) :: .ref a_o_seenWho :: .ref a_o_seenNamed :: .ref a_o_seenLetGo :: .ref a_o_placeIn :: .ref a_o_behind :: .int (nI o_rowMany) :: .ref a_o_rowWho :: .ref a_o_rowNames :: .ref a_o_images :: .ref a_o_isKept :: []))), (a_o_named, .inl (tI, 30, .inl o_named)), (a_o_over, .inl (tI, 5, .inl o_over)), (a_o_lieDay, .inl (tI, 30, .inl o_lieDay_h4))] → va_S A s.heap H locs → lv_has ls 5 [(2, .int (nI k_4)), (1, .int v1_4), (0, .ref a_o)] → W p l e { frames := 1, cells := 0, slots := 0, locals := 21 } s m ([.ref a_o] : List Value).toArray below meth c H locs 0 0 Q (F0 m 4 ls []) := by
    intro n_4
    induction n_4 with
    | zero =>
      intro k_4 v1_4 o_lieDay_h4 H locs ls hn_4 hR hP hD hS hl
      refine lv_iload_n hx hb dX7_evening_4 rfl (lv_at hl 0 rfl) ?_
      refine lv_aload_n hx hb dX7_evening_5 rfl (lv_at hl 2 rfl) ?_
      refine fget E hP 0 rfl fd_X7_105 (v := .int (nI o_bridges)) rfl dX7_evening_6 ?_
      refine ni_ge (a := k_4) (b := o_bridges) (tgt := 101) (by omega) (by omega) hx hb dX7_evening_9 (by decide) (fun g_4 => ?_) (fun g_4 => ?_)
      · exact EX_4 v1_4 o_lieDay_h4  _ _ _ hR hP hD hS (lv_sub hl [1, 2] rfl)
      · exfalso; omega
    | succ n_4 ih_4 =>
      intro k_4 v1_4 o_lieDay_h4 H locs ls hn_4 hR hP hD hS hl
      have hR : (fun a => K_X7_evening_4 o_bridges o_over o_day a.1 a.2) (iter (fun k a => B_X7_evening_4 o_men o_named o_over o_day k a.1 a.2) n_4 (k_4 + 1) (B_X7_evening_4 o_men o_named o_over o_day k_4 v1_4 o_lieDay_h4)) = RES := hR
      generalize hB_4 : B_X7_evening_4 o_men o_named o_over o_day k_4 v1_4 o_lieDay_h4 = RB_4 at hR
      unfold B_X7_evening_4 at hB_4
      refine lv_iload_n hx hb dX7_evening_4 rfl (lv_at hl 0 rfl) ?_
      refine lv_aload_n hx hb dX7_evening_5 rfl (lv_at hl 2 rfl) ?_
      refine fget E hP 0 rfl fd_X7_105 (v := .int (nI o_bridges)) rfl dX7_evening_6 ?_
      refine ni_ge (a := k_4) (b := o_bridges) (tgt := 101) (by omega) (by omega) hx hb dX7_evening_9 (by decide) (fun g_4 => ?_) (fun g_4 => ?_)
      · exfalso; omega
      · refine lv_iconst (v := (0 : Int32)) hx hb dX7_evening_12 (by decide) ?_
        refine lv_istore_n (lv' := [(3, .int (0 : Int32)), (2, .int (nI k_4)), (1, .int v1_4), (0, .ref a_o)]) hx hb dX7_evening_13 rfl hl (by decide) rfl (fun ls hl => ?_)
        have EX_14 : ∀ (v1_14 : Int32) (o_lieDay_h14 : Nat → Int32)  (H : Heap) (locs : List Loc) (ls : Array Slot), K_X7_evening_14 v1_14 o_lieDay_h14 = RB_4 → va_P D vwCl [(a_o, .inr (7, (.int o_year :: .int (nI o_bridges) :: .ref a_o_forgets :: .int (nI o_men) :: .ref a_o_weight :: .ref a_o_comes :: .int (nI o_oxen) :: .ref a_o_oxWeight :: .ref a_o_oxPrice :: .ref a_o_knows :: .int o_alive :: .int o_day :: .ref a_o_over :: .ref a_o_named :: .ref a_o_lieDay :: .ref a_o_aloneYear :: .int o_seed :: .ref a_o_text :: .int (nI o_texted) :: .int o_faultPlace :: .int (nI o_at0) :: .long o_said :: .int (nI o_wordEnd) :: .int o_number :: .int (nI o_numberAt) :: .int o_readYear :: .int o_readClauses :: .int (nI o_readBridges) :: .ref a_o_readForgets :: .int (nI o_readMen) :: .ref a_o_readWeight :: .ref a_o_readComes :: .int o_readMany :: .ref a_o_readKnows :: .int (nI o_readOxen) :: .ref a_o_readOx :: .ref a_o_readPrice :: .ref a_o_order :: .ref a_o_orderNames :: .int (nI o_sights) :: .ref a_o_seenWho :: .ref a_o_seenNamed :: .ref a_o_seenLetGo :: .ref a_o_placeIn :: .ref a_o_behind :: .int (nI o_rowMany) :: .ref a_o_rowWho :: .ref a_o_rowNames :: .ref a_o_images :: .ref a_o_isKept :: []))), (a_o_named, .inl (tI, 30, .inl o_named)), (a_o_over, .inl (tI, 5, .inl o_over)), (a_o_lieDay, .inl (tI, 30, .inl o_lieDay_h14))] H → va_D A [(a_o, .inr (7, (.int o_year :: .int (nI o_bridges) :: .ref a_o_forgets :: .int (nI o_men) :: .ref a_o_weight :: .ref a_o_comes :: .int (nI o_oxen) :: .ref a_o_oxWeight :: .ref a_o_oxPrice :: .ref a_o_knows :: .int o_alive :: .int o_day :: .ref a_o_over :: .ref a_o_named :: .ref a_o_lieDay :: .ref a_o_aloneYear :: .int o_seed :: .ref a_o_text :: .int (nI o_texted) :: .int o_faultPlace :: .int (nI o_at0) :: .long o_said :: .int (nI o_wordEnd) :: .int o_number :: .int (nI o_numberAt) :: .int o_readYear :: .int o_readClauses :: .int (nI o_readBridges) :: .ref a_o_readForgets :: .int (nI o_readMen) :: .ref a_o_readWeight :: .ref a_o_readComes :: .int o_readMany :: .ref a_o_readKnows :: .int (nI o_readOxen) :: .ref a_o_readOx :: .ref a_o_readPrice :: .ref a_o_order :: .ref a_o_orderNames :: .int (nI o_sights) :: .ref a_o_seenWho :: .ref a_o_seenNamed :: .ref a_o_seenLetGo :: .ref a_o_placeIn :: .ref a_o_behind :: .int (nI o_rowMany) :: .ref a_o_rowWho :: .ref a_o_rowNames :: .ref a_o_images :: .ref a_o_isKept :: []))), (a_o_named, .inl (tI, 30, .inl o_named)), (a_o_over, .inl (tI, 5, .inl o_over)), (a_o_lieDay, .inl (tI, 30, .inl o_lieDay_h14))] → va_S A s.heap H locs → lv_has ls 5 [(2, .int (nI k_4)), (1, .int v1_14), (0, .ref a_o)] → W p l e { frames := 1, cells := 0, slots := 0, locals := 21 } s m ([.ref a_o] : List Value).toArray below meth c H locs 0 0 Q (F0 m 95 ls []) := by
          intro v1_14 o_lieDay_h14 H locs ls hB_4 hP hD hS hl
          unfold K_X7_evening_14 at hB_4
          refine lv_iinc (v := (nI (k_4 + 1))) (lv' := [(2, .int (nI (k_4 + 1))), (1, .int v1_14), (0, .ref a_o)]) hx hb dX7_evening_95 hl (k := 0) rfl (nI_i1 k_4) (by decide) rfl (fun ls hl => ?_)
          refine lv_goto (tgt := 4) hx hb dX7_evening_98 (by decide) ?_
          subst hB_4
          exact ih_4 (k_4 + 1) v1_14 o_lieDay_h14  _ _ _ (by omega) hR hP hD hS (lv_sub hl [0, 1, 2] rfl)
        have LP_14 : ∀ (n_14 k_14 : Nat) (v1_14 : Int32) (o_lieDay_h14 : Nat → Int32)  (H : Heap) (locs : List Loc) (ls : Array Slot), k_14 + n_14 = o_men → (fun a => K_X7_evening_14 a.1 a.2) (iter (fun k a => B_X7_evening_14 k_4 o_named o_over o_day k a.1 a.2) n_14 k_14 (v1_14, o_lieDay_h14)) = RB_4 → va_P D vwCl [(a_o, .inr (7, (.int o_year :: .int (nI o_bridges) :: .ref a_o_forgets :: .int (nI o_men) :: .ref a_o_weight :: .ref a_o_comes :: .int (nI o_oxen) :: .ref a_o_oxWeight :: .ref a_o_oxPrice :: .ref a_o_knows :: .int o_alive :: .int o_day :: .ref a_o_over :: .ref a_o_named :: .ref a_o_lieDay :: .ref a_o_aloneYear :: .int o_seed :: .ref a_o_text :: .int (nI o_texted) :: .int o_faultPlace :: .int (nI o_at0) :: .long o_said :: .int (nI o_wordEnd) :: .int o_number :: .int (nI o_numberAt) :: .int o_readYear :: .int o_readClauses :: .int (nI o_readBridges) :: .ref a_o_readForgets :: .int (nI o_readMen) :: .ref a_o_readWeight :: .ref a_o_readComes :: .int o_readMany :: .ref a_o_readKnows :: .int (nI o_readOxen) :: .ref a_o_readOx :: .ref a_o_readPrice :: .ref a_o_order :: .ref a_o_orderNames :: .int (nI o_sights) :: .ref a_o_seenWho :: .ref a_o_seenNamed :: .ref a_o_seenLetGo :: .ref a_o_placeIn :: .ref a_o_behind :: .int (nI o_rowMany) :: .ref a_o_rowWho :: .ref a_o_rowNames :: .ref a_o_images :: .ref a_o_isKept :: []))), (a_o_named, .inl (tI, 30, .inl o_named)), (a_o_over, .inl (tI, 5, .inl o_over)), (a_o_lieDay, .inl (tI, 30, .inl o_lieDay_h14))] H → va_D A [(a_o, .inr (7, (.int o_year :: .int (nI o_bridges) :: .ref a_o_forgets :: .int (nI o_men) :: .ref a_o_weight :: .ref a_o_comes :: .int (nI o_oxen) :: .ref a_o_oxWeight :: .ref a_o_oxPrice :: .ref a_o_knows :: .int o_alive :: .int o_day :: .ref a_o_over :: .ref a_o_named :: .ref a_o_lieDay :: .ref a_o_aloneYear :: .int o_seed :: .ref a_o_text :: .int (nI o_texted) :: .int o_faultPlace :: .int (nI o_at0) :: .long o_said :: .int (nI o_wordEnd) :: .int o_number :: .int (nI o_numberAt) :: .int o_readYear :: .int o_readClauses :: .int (nI o_readBridges) :: .ref a_o_readForgets :: .int (nI o_readMen) :: .ref a_o_readWeight :: .ref a_o_readComes :: .int o_readMany :: .ref a_o_readKnows :: .int (nI o_readOxen) :: .ref a_o_readOx :: .ref a_o_readPrice :: .ref a_o_order :: .ref a_o_orderNames :: .int (nI o_sights) :: .ref a_o_seenWho :: .ref a_o_seenNamed :: .ref a_o_seenLetGo :: .ref a_o_placeIn :: .ref a_o_behind :: .int (nI o_rowMany) :: .ref a_o_rowWho :: .ref a_o_rowNames :: .ref a_o_images :: .ref a_o_isKept :: []))), (a_o_named, .inl (tI, 30, .inl o_named)), (a_o_over, .inl (tI, 5, .inl o_over)), (a_o_lieDay, .inl (tI, 30, .inl o_lieDay_h14))] → va_S A s.heap H locs → lv_has ls 5 [(3, .int (nI k_14)), (2, .int (nI k_4)), (1, .int v1_14), (0, .ref a_o)] → W p l e { frames := 1, cells := 0, slots := 0, locals := 21 } s m ([.ref a_o] : List Value).toArray below meth c H locs 0 0 Q (F0 m 14 ls []) := by
          intro n_14
          induction n_14 with
          | zero =>
            intro k_14 v1_14 o_lieDay_h14 H locs ls hn_14 hB_4 hP hD hS hl
            refine lv_iload_n hx hb dX7_evening_14 rfl (lv_at hl 0 rfl) ?_
            refine lv_aload_n hx hb dX7_evening_15 rfl (lv_at hl 3 rfl) ?_
            refine fget E hP 0 rfl fd_X7_102 (v := .int (nI o_men)) rfl dX7_evening_16 ?_
            refine ni_ge (a := k_14) (b := o_men) (tgt := 95) (by omega) (by omega) hx hb dX7_evening_19 (by decide) (fun g_14 => ?_) (fun g_14 => ?_)
            · exact EX_14 v1_14 o_lieDay_h14  _ _ _ hB_4 hP hD hS (lv_sub hl [1, 2, 3] rfl)
            · exfalso; omega
          | succ n_14 ih_14 =>
            intro k_14 v1_14 o_lieDay_h14 H locs ls hn_14 hB_4 hP hD hS hl
            have hB_4 : (fun a => K_X7_evening_14 a.1 a.2) (iter (fun k a => B_X7_evening_14 k_4 o_named o_over o_day k a.1 a.2) n_14 (k_14 + 1) (B_X7_evening_14 k_4 o_named o_over o_day k_14 v1_14 o_lieDay_h14)) = RB_4 := hB_4
            generalize hB_14 : B_X7_evening_14 k_4 o_named o_over o_day k_14 v1_14 o_lieDay_h14 = RB_14 at hB_4
            unfold B_X7_evening_14 at hB_14
            refine lv_iload_n hx hb dX7_evening_14 rfl (lv_at hl 0 rfl) ?_
            refine lv_aload_n hx hb dX7_evening_15 rfl (lv_at hl 3 rfl) ?_
            refine fget E hP 0 rfl fd_X7_102 (v := .int (nI o_men)) rfl dX7_evening_16 ?_
            refine ni_ge (a := k_14) (b := o_men) (tgt := 95) (by omega) (by omega) hx hb dX7_evening_19 (by decide) (fun g_14 => ?_) (fun g_14 => ?_)
            · exfalso; omega
            · refine lv_aload_n hx hb dX7_evening_22 rfl (lv_at hl 3 rfl) ?_
              refine fget E hP 0 rfl fd_X7_35 (v := .ref a_o_named) rfl dX7_evening_23 ?_
              refine lv_bipush (v := (6 : Int32)) hx hb dX7_evening_26 (by decide) ?_
              refine lv_iload_n hx hb dX7_evening_28 rfl (lv_at hl 1 rfl) ?_
              refine lv_imul hx hb dX7_evening_29 ?_
              refine lv_is (pk_mul 6 k_4) ?_
              refine lv_iload_n hx hb dX7_evening_30 rfl (lv_at hl 0 rfl) ?_
              refine lv_iadd hx hb dX7_evening_31 ?_
              refine lv_is (nI_add (6 * k_4) k_14) ?_
              refine ild E hP 1 rfl (k := ((6 * k_4) + k_14)) (by omega) (by decide) dX7_evening_32 ?_
              refine lv_istore (lv' := [(4, .int (o_named ((6 * k_4) + k_14))), (3, .int (nI k_14)), (2, .int (nI k_4)), (1, .int v1_14), (0, .ref a_o)]) hx hb dX7_evening_33 hl (by decide) rfl (fun ls hl => ?_)
              refine lv_aload_n hx hb dX7_evening_35 rfl (lv_at hl 4 rfl) ?_
              refine fget E hP 0 rfl fd_X7_32 (v := .ref a_o_over) rfl dX7_evening_36 ?_
              refine lv_iload_n hx hb dX7_evening_39 rfl (lv_at hl 2 rfl) ?_
              refine ild E hP 2 rfl (k := k_4) (by omega) (by decide) dX7_evening_40 ?_
              refine lv_iload_n hx hb dX7_evening_41 rfl (lv_at hl 1 rfl) ?_
              refine kcS E hl.1 (c_X7_has l D tB tI tZ (o_over k_4) (nI k_14) ) cs_X7_has wm_X7_184 hP hD hS hA [] rfl rfl rfl (ws2 := [(a_o, .inr (7, (.int o_year :: .int (nI o_bridges) :: .ref a_o_forgets :: .int (nI o_men) :: .ref a_o_weight :: .ref a_o_comes :: .int (nI o_oxen) :: .ref a_o_oxWeight :: .ref a_o_oxPrice :: .ref a_o_knows :: .int o_alive :: .int o_day :: .ref a_o_over :: .ref a_o_named :: .ref a_o_lieDay :: .ref a_o_aloneYear :: .int o_seed :: .ref a_o_text :: .int (nI o_texted) :: .int o_faultPlace :: .int (nI o_at0) :: .long o_said :: .int (nI o_wordEnd) :: .int o_number :: .int (nI o_numberAt) :: .int o_readYear :: .int o_readClauses :: .int (nI o_readBridges) :: .ref a_o_readForgets :: .int (nI o_readMen) :: .ref a_o_readWeight :: .ref a_o_readComes :: .int o_readMany :: .ref a_o_readKnows :: .int (nI o_readOxen) :: .ref a_o_readOx :: .ref a_o_readPrice :: .ref a_o_order :: .ref a_o_orderNames :: .int (nI o_sights) :: .ref a_o_seenWho :: .ref a_o_seenNamed :: .ref a_o_seenLetGo :: .ref a_o_placeIn :: .ref a_o_behind :: .int (nI o_rowMany) :: .ref a_o_rowWho :: .ref a_o_rowNames :: .ref a_o_images :: .ref a_o_isKept :: []))), (a_o_named, .inl (tI, 30, .inl o_named)), (a_o_over, .inl (tI, 5, .inl o_over)), (a_o_lieDay, .inl (tI, 30, .inl o_lieDay_h14))]) rfl rfl (As := [.int (o_over k_4), .int (nI k_14)]) (rest := []) rfl rfl (Nat.le_of_ble_eq_true rfl) ⟨Nat.le_of_ble_eq_true rfl, Nat.le_of_ble_eq_true rfl⟩ ⟨Nat.zero_le _, Nat.zero_le _⟩ dX7_evening_42 (fun H locs hP hD hS => ?_)
              refine lv_if_eq (tgt := 89) hx hb dX7_evening_45 (by decide) (fun c_5 => ?_) (fun c_5 => ?_)
              · rw [if_pos c_5] at hB_14
                refine lv_iinc (v := (nI (k_14 + 1))) (lv' := [(3, .int (nI (k_14 + 1))), (4, .int (o_named ((6 * k_4) + k_14))), (2, .int (nI k_4)), (1, .int v1_14), (0, .ref a_o)]) hx hb dX7_evening_89 hl (k := 1) rfl (nI_i1 k_14) (by decide) rfl (fun ls hl => ?_)
                refine lv_goto (tgt := 14) hx hb dX7_evening_92 (by decide) ?_
                subst hB_14
                exact ih_14 (k_14 + 1) v1_14 o_lieDay_h14  _ _ _ (by omega) hB_4 hP hD hS (lv_sub hl [0, 2, 3, 4] rfl)
              · rw [if_neg c_5] at hB_14
                refine lv_iload hx hb dX7_evening_48 (lv_at hl 0 rfl) ?_
                refine lv_iconst (v := (-1 : Int32)) hx hb dX7_evening_50 (by decide) ?_
                refine lv_icmp_eq (tgt := 89) hx hb dX7_evening_51 (by decide) (fun c_6 => ?_) (fun c_6 => ?_)
                · rw [if_pos c_6] at hB_14
                  refine lv_iinc (v := (nI (k_14 + 1))) (lv' := [(3, .int (nI (k_14 + 1))), (4, .int (o_named ((6 * k_4) + k_14))), (2, .int (nI k_4)), (1, .int v1_14), (0, .ref a_o)]) hx hb dX7_evening_89 hl (k := 1) rfl (nI_i1 k_14) (by decide) rfl (fun ls hl => ?_)
                  refine lv_goto (tgt := 14) hx hb dX7_evening_92 (by decide) ?_
                  subst hB_14
                  exact ih_14 (k_14 + 1) v1_14 o_lieDay_h14  _ _ _ (by omega) hB_4 hP hD hS (lv_sub hl [0, 2, 3, 4] rfl)
                · rw [if_neg c_6] at hB_14
                  refine lv_aload_n hx hb dX7_evening_54 rfl (lv_at hl 4 rfl) ?_
                  refine fget E hP 0 rfl fd_X7_32 (v := .ref a_o_over) rfl dX7_evening_55 ?_
                  refine lv_iload_n hx hb dX7_evening_58 rfl (lv_at hl 2 rfl) ?_
                  refine ild E hP 2 rfl (k := k_4) (by omega) (by decide) dX7_evening_59 ?_
                  refine lv_iload hx hb dX7_evening_60 (lv_at hl 0 rfl) ?_
                  refine kcS E hl.1 (c_X7_has l D tB tI tZ (o_over k_4) (o_named ((6 * k_4) + k_14)) ) cs_X7_has wm_X7_184 hP hD hS hA [] rfl rfl rfl (ws2 := [(a_o, .inr (7, (.int o_year :: .int (nI o_bridges) :: .ref a_o_forgets :: .int (nI o_men) :: .ref a_o_weight :: .ref a_o_comes :: .int (nI o_oxen) :: .ref a_o_oxWeight :: .ref a_o_oxPrice :: .ref a_o_knows :: .int o_alive :: .int o_day :: .ref a_o_over :: .ref a_o_named :: .ref a_o_lieDay :: .ref a_o_aloneYear :: .int o_seed :: .ref a_o_text :: .int (nI o_texted) :: .int o_faultPlace :: .int (nI o_at0) :: .long o_said :: .int (nI o_wordEnd) :: .int o_number :: .int (nI o_numberAt) :: .int o_readYear :: .int o_readClauses :: .int (nI o_readBridges) :: .ref a_o_readForgets :: .int (nI o_readMen) :: .ref a_o_readWeight :: .ref a_o_readComes :: .int o_readMany :: .ref a_o_readKnows :: .int (nI o_readOxen) :: .ref a_o_readOx :: .ref a_o_readPrice :: .ref a_o_order :: .ref a_o_orderNames :: .int (nI o_sights) :: .ref a_o_seenWho :: .ref a_o_seenNamed :: .ref a_o_seenLetGo :: .ref a_o_placeIn :: .ref a_o_behind :: .int (nI o_rowMany) :: .ref a_o_rowWho :: .ref a_o_rowNames :: .ref a_o_images :: .ref a_o_isKept :: []))), (a_o_named, .inl (tI, 30, .inl o_named)), (a_o_over, .inl (tI, 5, .inl o_over)), (a_o_lieDay, .inl (tI, 30, .inl o_lieDay_h14))]) rfl rfl (As := [.int (o_over k_4), .int (o_named ((6 * k_4) + k_14))]) (rest := []) rfl rfl (Nat.le_of_ble_eq_true rfl) ⟨Nat.le_of_ble_eq_true rfl, Nat.le_of_ble_eq_true rfl⟩ ⟨Nat.zero_le _, Nat.zero_le _⟩ dX7_evening_62 (fun H locs hP hD hS => ?_)
                  refine lv_if_ne (tgt := 89) hx hb dX7_evening_65 (by decide) (fun c_7 => ?_) (fun c_7 => ?_)
                  · rw [if_neg c_7] at hB_14
                    refine lv_iinc (v := (nI (k_14 + 1))) (lv' := [(3, .int (nI (k_14 + 1))), (4, .int (o_named ((6 * k_4) + k_14))), (2, .int (nI k_4)), (1, .int v1_14), (0, .ref a_o)]) hx hb dX7_evening_89 hl (k := 1) rfl (nI_i1 k_14) (by decide) rfl (fun ls hl => ?_)
                    refine lv_goto (tgt := 14) hx hb dX7_evening_92 (by decide) ?_
                    subst hB_14
                    exact ih_14 (k_14 + 1) v1_14 o_lieDay_h14  _ _ _ (by omega) hB_4 hP hD hS (lv_sub hl [0, 2, 3, 4] rfl)
                  · rw [if_pos c_7] at hB_14
                    refine lv_iload_n hx hb dX7_evening_68 rfl (lv_at hl 3 rfl) ?_
                    refine lv_iconst (v := (1 : Int32)) hx hb dX7_evening_69 (by decide) ?_
                    refine lv_iload_n hx hb dX7_evening_70 rfl (lv_at hl 1 rfl) ?_
                    refine lv_ishl hx hb dX7_evening_71 ?_
                    refine lv_ior hx hb dX7_evening_72 ?_
                    refine lv_istore_n (lv' := [(1, .int (v1_14 ||| ((1 : Int32) <<< ((nI k_14) &&& 31)))), (4, .int (o_named ((6 * k_4) + k_14))), (3, .int (nI k_14)), (2, .int (nI k_4)), (0, .ref a_o)]) hx hb dX7_evening_73 rfl hl (by decide) rfl (fun ls hl => ?_)
                    refine lv_aload_n hx hb dX7_evening_74 rfl (lv_at hl 4 rfl) ?_
                    refine fget E hP 0 rfl fd_X7_38 (v := .ref a_o_lieDay) rfl dX7_evening_75 ?_
                    refine lv_bipush (v := (6 : Int32)) hx hb dX7_evening_78 (by decide) ?_
                    refine lv_iload_n hx hb dX7_evening_80 rfl (lv_at hl 3 rfl) ?_
                    refine lv_imul hx hb dX7_evening_81 ?_
                    refine lv_is (pk_mul 6 k_4) ?_
                    refine lv_iload_n hx hb dX7_evening_82 rfl (lv_at hl 2 rfl) ?_
                    refine lv_iadd hx hb dX7_evening_83 ?_
                    refine lv_is (nI_add (6 * k_4) k_14) ?_
                    refine lv_aload_n hx hb dX7_evening_84 rfl (lv_at hl 4 rfl) ?_
                    refine fget E hP 0 rfl fd_X7_229 (v := .int o_day) rfl dX7_evening_85 ?_
                    refine ist E hP hD hS 3 rfl (k := ((6 * k_4) + k_14)) (by omega) (by decide) dX7_evening_88 (fun H locs hP hD hS => ?_)
                    have hP : va_P D vwCl [(a_o, .inr (7, (.int o_year :: .int (nI o_bridges) :: .ref a_o_forgets :: .int (nI o_men) :: .ref a_o_weight :: .ref a_o_comes :: .int (nI o_oxen) :: .ref a_o_oxWeight :: .ref a_o_oxPrice :: .ref a_o_knows :: .int o_alive :: .int o_day :: .ref a_o_over :: .ref a_o_named :: .ref a_o_lieDay :: .ref a_o_aloneYear :: .int o_seed :: .ref a_o_text :: .int (nI o_texted) :: .int o_faultPlace :: .int (nI o_at0) :: .long o_said :: .int (nI o_wordEnd) :: .int o_number :: .int (nI o_numberAt) :: .int o_readYear :: .int o_readClauses :: .int (nI o_readBridges) :: .ref a_o_readForgets :: .int (nI o_readMen) :: .ref a_o_readWeight :: .ref a_o_readComes :: .int o_readMany :: .ref a_o_readKnows :: .int (nI o_readOxen) :: .ref a_o_readOx :: .ref a_o_readPrice :: .ref a_o_order :: .ref a_o_orderNames :: .int (nI o_sights) :: .ref a_o_seenWho :: .ref a_o_seenNamed :: .ref a_o_seenLetGo :: .ref a_o_placeIn :: .ref a_o_behind :: .int (nI o_rowMany) :: .ref a_o_rowWho :: .ref a_o_rowNames :: .ref a_o_images :: .ref a_o_isKept :: []))), (a_o_named, .inl (tI, 30, .inl o_named)), (a_o_over, .inl (tI, 5, .inl o_over)), (a_o_lieDay, .inl (tI, 30, .inl (upd o_lieDay_h14 ((6 * k_4) + k_14) o_day)))] H := hP
                    have hD : va_D A [(a_o, .inr (7, (.int o_year :: .int (nI o_bridges) :: .ref a_o_forgets :: .int (nI o_men) :: .ref a_o_weight :: .ref a_o_comes :: .int (nI o_oxen) :: .ref a_o_oxWeight :: .ref a_o_oxPrice :: .ref a_o_knows :: .int o_alive :: .int o_day :: .ref a_o_over :: .ref a_o_named :: .ref a_o_lieDay :: .ref a_o_aloneYear :: .int o_seed :: .ref a_o_text :: .int (nI o_texted) :: .int o_faultPlace :: .int (nI o_at0) :: .long o_said :: .int (nI o_wordEnd) :: .int o_number :: .int (nI o_numberAt) :: .int o_readYear :: .int o_readClauses :: .int (nI o_readBridges) :: .ref a_o_readForgets :: .int (nI o_readMen) :: .ref a_o_readWeight :: .ref a_o_readComes :: .int o_readMany :: .ref a_o_readKnows :: .int (nI o_readOxen) :: .ref a_o_readOx :: .ref a_o_readPrice :: .ref a_o_order :: .ref a_o_orderNames :: .int (nI o_sights) :: .ref a_o_seenWho :: .ref a_o_seenNamed :: .ref a_o_seenLetGo :: .ref a_o_placeIn :: .ref a_o_behind :: .int (nI o_rowMany) :: .ref a_o_rowWho :: .ref a_o_rowNames :: .ref a_o_images :: .ref a_o_isKept :: []))), (a_o_named, .inl (tI, 30, .inl o_named)), (a_o_over, .inl (tI, 5, .inl o_over)), (a_o_lieDay, .inl (tI, 30, .inl (upd o_lieDay_h14 ((6 * k_4) + k_14) o_day)))] := hD
                    refine lv_iinc (v := (nI (k_14 + 1))) (lv' := [(3, .int (nI (k_14 + 1))), (1, .int (v1_14 ||| ((1 : Int32) <<< ((nI k_14) &&& 31)))), (4, .int (o_named ((6 * k_4) + k_14))), (2, .int (nI k_4)), (0, .ref a_o)]) hx hb dX7_evening_89 hl (k := 2) rfl (nI_i1 k_14) (by decide) rfl (fun ls hl => ?_)
                    refine lv_goto (tgt := 14) hx hb dX7_evening_92 (by decide) ?_
                    subst hB_14
                    exact ih_14 (k_14 + 1) (v1_14 ||| ((1 : Int32) <<< ((nI k_14) &&& 31))) (upd o_lieDay_h14 ((6 * k_4) + k_14) o_day)  _ _ _ (by omega) hB_4 hP hD hS (lv_sub hl [0, 3, 1, 4] rfl)
        exact LP_14 o_men 0 v1_4 o_lieDay_h4  _ _ _ (by omega) hB_4 hP hD hS (lv_sub hl [0, 1, 2, 3] rfl)
  exact LP_4 o_bridges 0 (0 : Int32) o_lieDay  _ _ _ (by omega) hR hP hD hS (lv_sub hl [0, 1, 2] rfl)
