
theorem shl_nat {k : Nat} (h : k < 31) : ((1 : Int32) <<< ((nI k) &&& 31)) = nI (2 ^ k) := bit_nat h
theorem zb {x : Int32} (h : x = 0 ∨ x = 1) : vp_nar .boolean x = x := by rcases h with rfl | rfl <;> rfl
theorem cd_step {a k m : Nat} (h : a ≤ 6 ^ k) (hm : m ≤ 6) : a * m ≤ 6 ^ (k + 1) := by rw [Nat.pow_succ]; exact Nat.mul_le_mul h hm
theorem cd_end {a k : Nat} (h : a ≤ 6 ^ k) (hk : k ≤ 6) : a ≤ 46656 := by
  have : ∀ k, k < 7 → 6 ^ k ≤ 46656 := by decide
  exact Nat.le_trans h (this k (by omega))
theorem w64 (x : Int32) : x.toInt64.toInt = x.toInt := Int32.toInt_toInt64 x

def S_X7_in (x0 : Int64) (x2 : Int64) (x4 : Int64) : Int32 := (if (lg_cmp x0 x2) < 0 then (0 : Int32) else (if 0 < (lg_cmp x0 x4) then (0 : Int32) else (1 : Int32)))
theorem z_X7_in (x0 : Int64) (x2 : Int64) (x4 : Int64)  : S_X7_in x0 x2 x4 = 0 ∨ S_X7_in x0 x2 x4 = 1 := by unfold S_X7_in; (repeat' split) <;> first | exact Or.inl rfl | exact Or.inr rfl | assumption
set_option maxHeartbeats 4000000 in
set_option maxRecDepth 100000 in
theorem c_X7_in (l : Launch) (D : va_G) (tB tI tZ : ClassId)   (x0 : Int64) (x2 : Int64) (x4 : Int64)  : CT l D (tyL tB tI tZ) yX7_in (.code yX7_in cX7_in 6 (some .boolean)) 0 0 [.long x0, .long x2, .long x4] [] (fun u : Int32 => some (.int (u))) (fun _ : Int32 => []) (S_X7_in x0 x2 x4) := by
  refine CT.intro (k := 0) (Nat.le_of_ble_eq_true rfl) (by decide) ?_
  intro p e s m below meth c Q A ls E hA hP hD hS hl hF
  obtain ⟨⟨hx, hb, hml, hown, hts⟩, hK⟩ := id E
  generalize hR : S_X7_in x0 x2 x4 = RES at hF
  unfold S_X7_in at hR
  have hl : lv_has ls 6 [(0, .long x0), (2, .long x2), (4, .long x4)] := hl
  refine lv_lload_n hx hb dX7_in_0 rfl (lv_at hl 0 rfl) ?_
  refine lv_lload_n hx hb dX7_in_1 rfl (lv_at hl 1 rfl) ?_
  refine W.lcmp hx hb dX7_in_2 ?_
  refine lv_if_lt (tgt := 17) hx hb dX7_in_3 (by decide) (fun c_1 => ?_) (fun c_1 => ?_)
  · rw [if_pos c_1] at hR
    refine lv_iconst (v := (0 : Int32)) hx hb dX7_in_17 (by decide) ?_
    subst hR
    exact (hF _ _ _ _ hP hS).1 _ rfl ⟨.boolean, rfl, rfl⟩ dX7_in_18
  · rw [if_neg c_1] at hR
    refine lv_lload_n hx hb dX7_in_6 rfl (lv_at hl 0 rfl) ?_
    refine lv_lload hx hb dX7_in_7 (lv_at hl 2 rfl) ?_
    refine W.lcmp hx hb dX7_in_9 ?_
    refine lv_if_gt (tgt := 17) hx hb dX7_in_10 (by decide) (fun c_2 => ?_) (fun c_2 => ?_)
    · rw [if_pos c_2] at hR
      refine lv_iconst (v := (0 : Int32)) hx hb dX7_in_17 (by decide) ?_
      subst hR
      exact (hF _ _ _ _ hP hS).1 _ rfl ⟨.boolean, rfl, rfl⟩ dX7_in_18
    · rw [if_neg c_2] at hR
      refine lv_iconst (v := (1 : Int32)) hx hb dX7_in_13 (by decide) ?_
      refine lv_goto (tgt := 18) hx hb dX7_in_14 (by decide) ?_
      subst hR
      exact (hF _ _ _ _ hP hS).1 _ rfl ⟨.boolean, rfl, rfl⟩ dX7_in_18

def S_X7_has (x0 : Int32) (x1 : Int32) : Int32 := (if ((x0 >>> (x1 &&& 31)) &&& (1 : Int32)) = (1 : Int32) then (1 : Int32) else (0 : Int32))
theorem z_X7_has (x0 : Int32) (x1 : Int32)  : S_X7_has x0 x1 = 0 ∨ S_X7_has x0 x1 = 1 := by unfold S_X7_has; (repeat' split) <;> first | exact Or.inl rfl | exact Or.inr rfl | assumption
set_option maxHeartbeats 4000000 in
set_option maxRecDepth 100000 in
theorem c_X7_has (l : Launch) (D : va_G) (tB tI tZ : ClassId)   (x0 : Int32) (x1 : Int32)  : CT l D (tyL tB tI tZ) yX7_has (.code yX7_has cX7_has 2 (some .boolean)) 0 0 [.int x0, .int x1] [] (fun u : Int32 => some (.int (u))) (fun _ : Int32 => []) (S_X7_has x0 x1) := by
  refine CT.intro (k := 0) (Nat.le_of_ble_eq_true rfl) (by decide) ?_
  intro p e s m below meth c Q A ls E hA hP hD hS hl hF
  obtain ⟨⟨hx, hb, hml, hown, hts⟩, hK⟩ := id E
  generalize hR : S_X7_has x0 x1 = RES at hF
  unfold S_X7_has at hR
  have hl : lv_has ls 2 [(0, .int x0), (1, .int x1)] := hl
  refine lv_iload_n hx hb dX7_has_0 rfl (lv_at hl 0 rfl) ?_
  refine lv_iload_n hx hb dX7_has_1 rfl (lv_at hl 1 rfl) ?_
  refine lv_ishr hx hb dX7_has_2 ?_
  refine lv_iconst (v := (1 : Int32)) hx hb dX7_has_3 (by decide) ?_
  refine lv_iand hx hb dX7_has_4 ?_
  refine lv_iconst (v := (1 : Int32)) hx hb dX7_has_5 (by decide) ?_
  refine lv_icmp_ne (tgt := 13) hx hb dX7_has_6 (by decide) (fun c_1 => ?_) (fun c_1 => ?_)
  · rw [if_neg c_1] at hR
    refine lv_iconst (v := (0 : Int32)) hx hb dX7_has_13 (by decide) ?_
    subst hR
    exact (hF _ _ _ _ hP hS).1 _ rfl ⟨.boolean, rfl, rfl⟩ dX7_has_14
  · rw [if_pos c_1] at hR
    refine lv_iconst (v := (1 : Int32)) hx hb dX7_has_9 (by decide) ?_
    refine lv_goto (tgt := 14) hx hb dX7_has_10 (by decide) ?_
    subst hR
    exact (hF _ _ _ _ hP hS).1 _ rfl ⟨.boolean, rfl, rfl⟩ dX7_has_14

theorem in_of {x : Int32} {a b : Nat} (h : ¬ S_X7_in x.toInt64 (lN a) (lN b) = 0) (hb : b ≤ 1000) (ha : a ≤ 1000 := by omega) : x = nI x.toNatClampNeg ∧ x.toNatClampNeg ≤ b ∧ a ≤ x.toNatClampNeg := by
  unfold S_X7_in at h
  by_cases h0 : lg_cmp x.toInt64 (lN a) < 0
  · rw [if_pos h0] at h; exact absurd rfl h
  · rw [if_neg h0] at h
    by_cases h1 : 0 < lg_cmp x.toInt64 (lN b)
    · rw [if_pos h1] at h; exact absurd rfl h
    · rw [lg_cmp_lt, Int64.lt_iff_toInt_lt, w64, lN_toInt (by omega)] at h0
      rw [lg_cmp_gt, Int64.lt_iff_toInt_lt, w64, lN_toInt (by omega)] at h1
      have hx : ¬ x < 0 := fun z => by
        rw [Int32.lt_iff_toInt_lt] at z
        have e0 : (0 : Int32).toInt = 0 := by decide
        omega
      obtain ⟨j, hj, rfl⟩ := nI_of hx
      rw [nI_toInt hj] at h0 h1
      rw [nI_clamp hj]
      exact ⟨rfl, by omega, by omega⟩
theorem inB_of {x : Int32} {n : Nat} (h : ¬ S_X7_in x.toInt64 (0 : Int64) ((nI n) - (1 : Int32)).toInt64 = 0) (hn : n ≤ 1000) : x = nI x.toNatClampNeg ∧ x.toNatClampNeg < n := by
  unfold S_X7_in at h
  by_cases h0 : lg_cmp x.toInt64 (0 : Int64) < 0
  · rw [if_pos h0] at h; exact absurd rfl h
  · rw [if_neg h0] at h
    by_cases h1 : 0 < lg_cmp x.toInt64 ((nI n) - (1 : Int32)).toInt64
    · rw [if_pos h1] at h; exact absurd rfl h
    · have e1 : ((nI n) - (1 : Int32)).toInt = (n : Int) - 1 := pk_sub_toInt (a := n) (b := 1) (by omega) (by decide)
      rw [lg_cmp_lt, Int64.lt_iff_toInt_lt, w64, show (0 : Int64).toInt = 0 from by decide] at h0
      rw [lg_cmp_gt, Int64.lt_iff_toInt_lt, w64, w64, e1] at h1
      have hx : ¬ x < 0 := fun z => by
        rw [Int32.lt_iff_toInt_lt] at z
        have e0 : (0 : Int32).toInt = 0 := by decide
        omega
      obtain ⟨j, hj, rfl⟩ := nI_of hx
      rw [nI_toInt hj] at h0 h1
      rw [nI_clamp hj]
      exact ⟨rfl, by omega⟩

def S_X7_isBridge (x1 : Int32) (o_bridges : Nat) : Int32 := (S_X7_in (x1.toInt64) (0 : Int64) (((nI o_bridges) - (1 : Int32)).toInt64))
theorem z_X7_isBridge (x1 : Int32) (o_bridges : Nat)  : S_X7_isBridge x1 o_bridges = 0 ∨ S_X7_isBridge x1 o_bridges = 1 := by unfold S_X7_isBridge; (repeat' split) <;> first | exact Or.inl rfl | exact Or.inr rfl | assumption | exact z_X7_in _ _ _
set_option maxHeartbeats 4000000 in
set_option maxRecDepth 100000 in
theorem c_X7_isBridge (l : Launch) (D : va_G) (tB tI tZ : ClassId) (a_o a_o_forgets a_o_weight a_o_comes a_o_oxWeight a_o_oxPrice a_o_knows a_o_over a_o_named a_o_lieDay a_o_aloneYear a_o_text a_o_readForgets a_o_readWeight a_o_readComes a_o_readKnows a_o_readOx a_o_readPrice a_o_order a_o_orderNames a_o_seenWho a_o_seenNamed a_o_seenLetGo a_o_placeIn a_o_behind a_o_rowWho a_o_rowNames a_o_images a_o_isKept : Nat) (o_year : Int32) (o_bridges : Nat) (o_men : Nat) (o_oxen : Nat) (o_alive : Int32) (o_day : Int32) (o_seed : Int32) (o_texted : Nat) (o_faultPlace : Int32) (o_at0 : Nat) (o_said : Int64) (o_wordEnd : Nat) (o_number : Int32) (o_numberAt : Nat) (o_readYear : Int32) (o_readClauses : Int32) (o_readBridges : Nat) (o_readMen : Nat) (o_readMany : Int32) (o_readOxen : Nat) (o_sights : Nat) (o_rowMany : Nat) (x1 : Int32)  : CT l D (tyL tB tI tZ) yX7_isBridge (.code yX7_isBridge cX7_isBridge 2 (some .boolean)) 1 25 [.ref a_o, .int x1] [(a_o, .inr (7, (.int o_year :: .int (nI o_bridges) :: .ref a_o_forgets :: .int (nI o_men) :: .ref a_o_weight :: .ref a_o_comes :: .int (nI o_oxen) :: .ref a_o_oxWeight :: .ref a_o_oxPrice :: .ref a_o_knows :: .int o_alive :: .int o_day :: .ref a_o_over :: .ref a_o_named :: .ref a_o_lieDay :: .ref a_o_aloneYear :: .int o_seed :: .ref a_o_text :: .int (nI o_texted) :: .int o_faultPlace :: .int (nI o_at0) :: .long o_said :: .int (nI o_wordEnd) :: .int o_number :: .int (nI o_numberAt) :: .int o_readYear :: .int o_readClauses :: .int (nI o_readBridges) :: .ref a_o_readForgets :: .int (nI o_readMen) :: .ref a_o_readWeight :: .ref a_o_readComes :: .int o_readMany :: .ref a_o_readKnows :: .int (nI o_readOxen) :: .ref a_o_readOx :: .ref a_o_readPrice :: .ref a_o_order :: .ref a_o_orderNames :: .int (nI o_sights) :: .ref a_o_seenWho :: .ref a_o_seenNamed :: .ref a_o_seenLetGo :: .ref a_o_placeIn :: .ref a_o_behind :: .int (nI o_rowMany) :: .ref a_o_rowWho :: .ref a_o_rowNames :: .ref a_o_images :: .ref a_o_isKept :: [])))] (fun u : Int32 => some (.int (u))) (fun _ : Int32 => [(a_o, .inr (7, (.int o_year :: .int (nI o_bridges) :: .ref a_o_forgets :: .int (nI o_men) :: .ref a_o_weight :: .ref a_o_comes :: .int (nI o_oxen) :: .ref a_o_oxWeight :: .ref a_o_oxPrice :: .ref a_o_knows :: .int o_alive :: .int o_day :: .ref a_o_over :: .ref a_o_named :: .ref a_o_lieDay :: .ref a_o_aloneYear :: .int o_seed :: .ref a_o_text :: .int (nI o_texted) :: .int o_faultPlace :: .int (nI o_at0) :: .long o_said :: .int (nI o_wordEnd) :: .int o_number :: .int (nI o_numberAt) :: .int o_readYear :: .int o_readClauses :: .int (nI o_readBridges) :: .ref a_o_readForgets :: .int (nI o_readMen) :: .ref a_o_readWeight :: .ref a_o_readComes :: .int o_readMany :: .ref a_o_readKnows :: .int (nI o_readOxen) :: .ref a_o_readOx :: .ref a_o_readPrice :: .ref a_o_order :: .ref a_o_orderNames :: .int (nI o_sights) :: .ref a_o_seenWho :: .ref a_o_seenNamed :: .ref a_o_seenLetGo :: .ref a_o_placeIn :: .ref a_o_behind :: .int (nI o_rowMany) :: .ref a_o_rowWho :: .ref a_o_rowNames :: .ref a_o_images :: .ref a_o_isKept :: [])))]) (S_X7_isBridge x1 o_bridges) := by
  refine CT.intro (k := 0) (Nat.le_of_ble_eq_true rfl) (by decide) ?_
  intro p e s m below meth c Q A ls E hA hP hD hS hl hF
  obtain ⟨⟨hx, hb, hml, hown, hts⟩, hK⟩ := id E
  generalize hR : S_X7_isBridge x1 o_bridges = RES at hF
  unfold S_X7_isBridge at hR
  have hl : lv_has ls 2 [(0, .ref a_o), (1, .int x1)] := hl
  refine lv_iload_n hx hb dX7_isBridge_0 rfl (lv_at hl 1 rfl) ?_
  refine lv_i2l (v := (x1.toInt64)) hx hb dX7_isBridge_1 rfl ?_
  refine lv_lconst (v := (0 : Int64)) hx hb dX7_isBridge_2 (by decide) ?_
  refine lv_aload_n hx hb dX7_isBridge_3 rfl (lv_at hl 0 rfl) ?_
  refine fget E hP 0 rfl fd_X7_105 (v := .int (nI o_bridges)) rfl dX7_isBridge_4 ?_
  refine lv_iconst (v := (1 : Int32)) hx hb dX7_isBridge_7 (by decide) ?_
  refine lv_isub hx hb dX7_isBridge_8 ?_
  refine lv_i2l (v := (((nI o_bridges) - (1 : Int32)).toInt64)) hx hb dX7_isBridge_9 rfl ?_
  refine kcS E hl.1 (c_X7_in l D tB tI tZ (x1.toInt64) (0 : Int64) (((nI o_bridges) - (1 : Int32)).toInt64) ) cs_X7_in wm_X7_108 hP hD hS hA [] rfl rfl rfl (ws2 := [(a_o, .inr (7, (.int o_year :: .int (nI o_bridges) :: .ref a_o_forgets :: .int (nI o_men) :: .ref a_o_weight :: .ref a_o_comes :: .int (nI o_oxen) :: .ref a_o_oxWeight :: .ref a_o_oxPrice :: .ref a_o_knows :: .int o_alive :: .int o_day :: .ref a_o_over :: .ref a_o_named :: .ref a_o_lieDay :: .ref a_o_aloneYear :: .int o_seed :: .ref a_o_text :: .int (nI o_texted) :: .int o_faultPlace :: .int (nI o_at0) :: .long o_said :: .int (nI o_wordEnd) :: .int o_number :: .int (nI o_numberAt) :: .int o_readYear :: .int o_readClauses :: .int (nI o_readBridges) :: .ref a_o_readForgets :: .int (nI o_readMen) :: .ref a_o_readWeight :: .ref a_o_readComes :: .int o_readMany :: .ref a_o_readKnows :: .int (nI o_readOxen) :: .ref a_o_readOx :: .ref a_o_readPrice :: .ref a_o_order :: .ref a_o_orderNames :: .int (nI o_sights) :: .ref a_o_seenWho :: .ref a_o_seenNamed :: .ref a_o_seenLetGo :: .ref a_o_placeIn :: .ref a_o_behind :: .int (nI o_rowMany) :: .ref a_o_rowWho :: .ref a_o_rowNames :: .ref a_o_images :: .ref a_o_isKept :: [])))]) rfl rfl (As := [.long (x1.toInt64), .long (0 : Int64), .long (((nI o_bridges) - (1 : Int32)).toInt64)]) (rest := []) rfl rfl (Nat.le_of_ble_eq_true rfl) ⟨Nat.le_of_ble_eq_true rfl, Nat.le_of_ble_eq_true rfl⟩ ⟨Nat.zero_le _, Nat.zero_le _⟩ dX7_isBridge_10 (fun H locs hP hD hS => ?_)
  subst hR
  exact (hF _ _ _ _ hP hS).1 _ rfl ⟨.boolean, rfl, zn _ (z_X7_in _ _ _)⟩ dX7_isBridge_13

def S_X7_isMan (x1 : Int32) (o_men : Nat) : Int32 := (S_X7_in (x1.toInt64) (0 : Int64) (((nI o_men) - (1 : Int32)).toInt64))
theorem z_X7_isMan (x1 : Int32) (o_men : Nat)  : S_X7_isMan x1 o_men = 0 ∨ S_X7_isMan x1 o_men = 1 := by unfold S_X7_isMan; (repeat' split) <;> first | exact Or.inl rfl | exact Or.inr rfl | assumption | exact z_X7_in _ _ _
set_option maxHeartbeats 4000000 in
set_option maxRecDepth 100000 in
theorem c_X7_isMan (l : Launch) (D : va_G) (tB tI tZ : ClassId) (a_o a_o_forgets a_o_weight a_o_comes a_o_oxWeight a_o_oxPrice a_o_knows a_o_over a_o_named a_o_lieDay a_o_aloneYear a_o_text a_o_readForgets a_o_readWeight a_o_readComes a_o_readKnows a_o_readOx a_o_readPrice a_o_order a_o_orderNames a_o_seenWho a_o_seenNamed a_o_seenLetGo a_o_placeIn a_o_behind a_o_rowWho a_o_rowNames a_o_images a_o_isKept : Nat) (o_year : Int32) (o_bridges : Nat) (o_men : Nat) (o_oxen : Nat) (o_alive : Int32) (o_day : Int32) (o_seed : Int32) (o_texted : Nat) (o_faultPlace : Int32) (o_at0 : Nat) (o_said : Int64) (o_wordEnd : Nat) (o_number : Int32) (o_numberAt : Nat) (o_readYear : Int32) (o_readClauses : Int32) (o_readBridges : Nat) (o_readMen : Nat) (o_readMany : Int32) (o_readOxen : Nat) (o_sights : Nat) (o_rowMany : Nat) (x1 : Int32)  : CT l D (tyL tB tI tZ) yX7_isMan (.code yX7_isMan cX7_isMan 2 (some .boolean)) 1 25 [.ref a_o, .int x1] [(a_o, .inr (7, (.int o_year :: .int (nI o_bridges) :: .ref a_o_forgets :: .int (nI o_men) :: .ref a_o_weight :: .ref a_o_comes :: .int (nI o_oxen) :: .ref a_o_oxWeight :: .ref a_o_oxPrice :: .ref a_o_knows :: .int o_alive :: .int o_day :: .ref a_o_over :: .ref a_o_named :: .ref a_o_lieDay :: .ref a_o_aloneYear :: .int o_seed :: .ref a_o_text :: .int (nI o_texted) :: .int o_faultPlace :: .int (nI o_at0) :: .long o_said :: .int (nI o_wordEnd) :: .int o_number :: .int (nI o_numberAt) :: .int o_readYear :: .int o_readClauses :: .int (nI o_readBridges) :: .ref a_o_readForgets :: .int (nI o_readMen) :: .ref a_o_readWeight :: .ref a_o_readComes :: .int o_readMany :: .ref a_o_readKnows :: .int (nI o_readOxen) :: .ref a_o_readOx :: .ref a_o_readPrice :: .ref a_o_order :: .ref a_o_orderNames :: .int (nI o_sights) :: .ref a_o_seenWho :: .ref a_o_seenNamed :: .ref a_o_seenLetGo :: .ref a_o_placeIn :: .ref a_o_behind :: .int (nI o_rowMany) :: .ref a_o_rowWho :: .ref a_o_rowNames :: .ref a_o_images :: .ref a_o_isKept :: [])))] (fun u : Int32 => some (.int (u))) (fun _ : Int32 => [(a_o, .inr (7, (.int o_year :: .int (nI o_bridges) :: .ref a_o_forgets :: .int (nI o_men) :: .ref a_o_weight :: .ref a_o_comes :: .int (nI o_oxen) :: .ref a_o_oxWeight :: .ref a_o_oxPrice :: .ref a_o_knows :: .int o_alive :: .int o_day :: .ref a_o_over :: .ref a_o_named :: .ref a_o_lieDay :: .ref a_o_aloneYear :: .int o_seed :: .ref a_o_text :: .int (nI o_texted) :: .int o_faultPlace :: .int (nI o_at0) :: .long o_said :: .int (nI o_wordEnd) :: .int o_number :: .int (nI o_numberAt) :: .int o_readYear :: .int o_readClauses :: .int (nI o_readBridges) :: .ref a_o_readForgets :: .int (nI o_readMen) :: .ref a_o_readWeight :: .ref a_o_readComes :: .int o_readMany :: .ref a_o_readKnows :: .int (nI o_readOxen) :: .ref a_o_readOx :: .ref a_o_readPrice :: .ref a_o_order :: .ref a_o_orderNames :: .int (nI o_sights) :: .ref a_o_seenWho :: .ref a_o_seenNamed :: .ref a_o_seenLetGo :: .ref a_o_placeIn :: .ref a_o_behind :: .int (nI o_rowMany) :: .ref a_o_rowWho :: .ref a_o_rowNames :: .ref a_o_images :: .ref a_o_isKept :: [])))]) (S_X7_isMan x1 o_men) := by
  refine CT.intro (k := 0) (Nat.le_of_ble_eq_true rfl) (by decide) ?_
  intro p e s m below meth c Q A ls E hA hP hD hS hl hF
  obtain ⟨⟨hx, hb, hml, hown, hts⟩, hK⟩ := id E
  generalize hR : S_X7_isMan x1 o_men = RES at hF
  unfold S_X7_isMan at hR
  have hl : lv_has ls 2 [(0, .ref a_o), (1, .int x1)] := hl
  refine lv_iload_n hx hb dX7_isMan_0 rfl (lv_at hl 1 rfl) ?_
  refine lv_i2l (v := (x1.toInt64)) hx hb dX7_isMan_1 rfl ?_
  refine lv_lconst (v := (0 : Int64)) hx hb dX7_isMan_2 (by decide) ?_
  refine lv_aload_n hx hb dX7_isMan_3 rfl (lv_at hl 0 rfl) ?_
  refine fget E hP 0 rfl fd_X7_102 (v := .int (nI o_men)) rfl dX7_isMan_4 ?_
  refine lv_iconst (v := (1 : Int32)) hx hb dX7_isMan_7 (by decide) ?_
  refine lv_isub hx hb dX7_isMan_8 ?_
  refine lv_i2l (v := (((nI o_men) - (1 : Int32)).toInt64)) hx hb dX7_isMan_9 rfl ?_
  refine kcS E hl.1 (c_X7_in l D tB tI tZ (x1.toInt64) (0 : Int64) (((nI o_men) - (1 : Int32)).toInt64) ) cs_X7_in wm_X7_108 hP hD hS hA [] rfl rfl rfl (ws2 := [(a_o, .inr (7, (.int o_year :: .int (nI o_bridges) :: .ref a_o_forgets :: .int (nI o_men) :: .ref a_o_weight :: .ref a_o_comes :: .int (nI o_oxen) :: .ref a_o_oxWeight :: .ref a_o_oxPrice :: .ref a_o_knows :: .int o_alive :: .int o_day :: .ref a_o_over :: .ref a_o_named :: .ref a_o_lieDay :: .ref a_o_aloneYear :: .int o_seed :: .ref a_o_text :: .int (nI o_texted) :: .int o_faultPlace :: .int (nI o_at0) :: .long o_said :: .int (nI o_wordEnd) :: .int o_number :: .int (nI o_numberAt) :: .int o_readYear :: .int o_readClauses :: .int (nI o_readBridges) :: .ref a_o_readForgets :: .int (nI o_readMen) :: .ref a_o_readWeight :: .ref a_o_readComes :: .int o_readMany :: .ref a_o_readKnows :: .int (nI o_readOxen) :: .ref a_o_readOx :: .ref a_o_readPrice :: .ref a_o_order :: .ref a_o_orderNames :: .int (nI o_sights) :: .ref a_o_seenWho :: .ref a_o_seenNamed :: .ref a_o_seenLetGo :: .ref a_o_placeIn :: .ref a_o_behind :: .int (nI o_rowMany) :: .ref a_o_rowWho :: .ref a_o_rowNames :: .ref a_o_images :: .ref a_o_isKept :: [])))]) rfl rfl (As := [.long (x1.toInt64), .long (0 : Int64), .long (((nI o_men) - (1 : Int32)).toInt64)]) (rest := []) rfl rfl (Nat.le_of_ble_eq_true rfl) ⟨Nat.le_of_ble_eq_true rfl, Nat.le_of_ble_eq_true rfl⟩ ⟨Nat.zero_le _, Nat.zero_le _⟩ dX7_isMan_10 (fun H locs hP hD hS => ?_)
  subst hR
  exact (hF _ _ _ _ hP hS).1 _ rfl ⟨.boolean, rfl, zn _ (z_X7_in _ _ _)⟩ dX7_isMan_13

theorem isBridge_of {x : Int32} {n : Nat} (h : ¬ S_X7_isBridge x n = 0) (hn : n ≤ 1000) : x = nI x.toNatClampNeg ∧ x.toNatClampNeg < n := inB_of h hn
theorem isMan_of {x : Int32} {n : Nat} (h : ¬ S_X7_isMan x n = 0) (hn : n ≤ 1000) : x = nI x.toNatClampNeg ∧ x.toNatClampNeg < n := inB_of h hn

def S_X7_isManOrNone (x1 : Int32) (o_men : Nat) : Int32 := (if x1 = (-1 : Int32) then (1 : Int32) else (if (S_X7_isMan x1 o_men) = 0 then (0 : Int32) else (1 : Int32)))
theorem z_X7_isManOrNone (x1 : Int32) (o_men : Nat)  : S_X7_isManOrNone x1 o_men = 0 ∨ S_X7_isManOrNone x1 o_men = 1 := by unfold S_X7_isManOrNone; (repeat' split) <;> first | exact Or.inl rfl | exact Or.inr rfl | assumption | exact z_X7_isMan _ _
set_option maxHeartbeats 4000000 in
set_option maxRecDepth 100000 in
theorem c_X7_isManOrNone (l : Launch) (D : va_G) (tB tI tZ : ClassId) (a_o a_o_forgets a_o_weight a_o_comes a_o_oxWeight a_o_oxPrice a_o_knows a_o_over a_o_named a_o_lieDay a_o_aloneYear a_o_text a_o_readForgets a_o_readWeight a_o_readComes a_o_readKnows a_o_readOx a_o_readPrice a_o_order a_o_orderNames a_o_seenWho a_o_seenNamed a_o_seenLetGo a_o_placeIn a_o_behind a_o_rowWho a_o_rowNames a_o_images a_o_isKept : Nat) (o_year : Int32) (o_bridges : Nat) (o_men : Nat) (o_oxen : Nat) (o_alive : Int32) (o_day : Int32) (o_seed : Int32) (o_texted : Nat) (o_faultPlace : Int32) (o_at0 : Nat) (o_said : Int64) (o_wordEnd : Nat) (o_number : Int32) (o_numberAt : Nat) (o_readYear : Int32) (o_readClauses : Int32) (o_readBridges : Nat) (o_readMen : Nat) (o_readMany : Int32) (o_readOxen : Nat) (o_sights : Nat) (o_rowMany : Nat) (x1 : Int32) (hmen : o_men ≤ 6) : CT l D (tyL tB tI tZ) yX7_isManOrNone (.code yX7_isManOrNone cX7_isManOrNone 2 (some .boolean)) 2 46 [.ref a_o, .int x1] [(a_o, .inr (7, (.int o_year :: .int (nI o_bridges) :: .ref a_o_forgets :: .int (nI o_men) :: .ref a_o_weight :: .ref a_o_comes :: .int (nI o_oxen) :: .ref a_o_oxWeight :: .ref a_o_oxPrice :: .ref a_o_knows :: .int o_alive :: .int o_day :: .ref a_o_over :: .ref a_o_named :: .ref a_o_lieDay :: .ref a_o_aloneYear :: .int o_seed :: .ref a_o_text :: .int (nI o_texted) :: .int o_faultPlace :: .int (nI o_at0) :: .long o_said :: .int (nI o_wordEnd) :: .int o_number :: .int (nI o_numberAt) :: .int o_readYear :: .int o_readClauses :: .int (nI o_readBridges) :: .ref a_o_readForgets :: .int (nI o_readMen) :: .ref a_o_readWeight :: .ref a_o_readComes :: .int o_readMany :: .ref a_o_readKnows :: .int (nI o_readOxen) :: .ref a_o_readOx :: .ref a_o_readPrice :: .ref a_o_order :: .ref a_o_orderNames :: .int (nI o_sights) :: .ref a_o_seenWho :: .ref a_o_seenNamed :: .ref a_o_seenLetGo :: .ref a_o_placeIn :: .ref a_o_behind :: .int (nI o_rowMany) :: .ref a_o_rowWho :: .ref a_o_rowNames :: .ref a_o_images :: .ref a_o_isKept :: [])))] (fun u : Int32 => some (.int (u))) (fun _ : Int32 => [(a_o, .inr (7, (.int o_year :: .int (nI o_bridges) :: .ref a_o_forgets :: .int (nI o_men) :: .ref a_o_weight :: .ref a_o_comes :: .int (nI o_oxen) :: .ref a_o_oxWeight :: .ref a_o_oxPrice :: .ref a_o_knows :: .int o_alive :: .int o_day :: .ref a_o_over :: .ref a_o_named :: .ref a_o_lieDay :: .ref a_o_aloneYear :: .int o_seed :: .ref a_o_text :: .int (nI o_texted) :: .int o_faultPlace :: .int (nI o_at0) :: .long o_said :: .int (nI o_wordEnd) :: .int o_number :: .int (nI o_numberAt) :: .int o_readYear :: .int o_readClauses :: .int (nI o_readBridges) :: .ref a_o_readForgets :: .int (nI o_readMen) :: .ref a_o_readWeight :: .ref a_o_readComes :: .int o_readMany :: .ref a_o_readKnows :: .int (nI o_readOxen) :: .ref a_o_readOx :: .ref a_o_readPrice :: .ref a_o_order :: .ref a_o_orderNames :: .int (nI o_sights) :: .ref a_o_seenWho :: .ref a_o_seenNamed :: .ref a_o_seenLetGo :: .ref a_o_placeIn :: .ref a_o_behind :: .int (nI o_rowMany) :: .ref a_o_rowWho :: .ref a_o_rowNames :: .ref a_o_images :: .ref a_o_isKept :: [])))]) (S_X7_isManOrNone x1 o_men) := by
  refine CT.intro (k := 0) (Nat.le_of_ble_eq_true rfl) (by decide) ?_
  intro p e s m below meth c Q A ls E hA hP hD hS hl hF
  obtain ⟨⟨hx, hb, hml, hown, hts⟩, hK⟩ := id E
  generalize hR : S_X7_isManOrNone x1 o_men = RES at hF
  unfold S_X7_isManOrNone at hR
  have hl : lv_has ls 2 [(0, .ref a_o), (1, .int x1)] := hl
  refine lv_iload_n hx hb dX7_isManOrNone_0 rfl (lv_at hl 1 rfl) ?_
  refine lv_iconst (v := (-1 : Int32)) hx hb dX7_isManOrNone_1 (by decide) ?_
  refine lv_icmp_eq (tgt := 13) hx hb dX7_isManOrNone_2 (by decide) (fun c_1 => ?_) (fun c_1 => ?_)
  · rw [if_pos c_1] at hR
    refine lv_iconst (v := (1 : Int32)) hx hb dX7_isManOrNone_13 (by decide) ?_
    refine lv_goto (tgt := 18) hx hb dX7_isManOrNone_14 (by decide) ?_
    subst hR
    exact (hF _ _ _ _ hP hS).1 _ rfl ⟨.boolean, rfl, rfl⟩ dX7_isManOrNone_18
  · rw [if_neg c_1] at hR
    refine lv_aload_n hx hb dX7_isManOrNone_5 rfl (lv_at hl 0 rfl) ?_
    refine lv_iload_n hx hb dX7_isManOrNone_6 rfl (lv_at hl 1 rfl) ?_
    refine kcV E hl.1 (c_X7_isMan l D tB tI tZ a_o a_o_forgets a_o_weight a_o_comes a_o_oxWeight a_o_oxPrice a_o_knows a_o_over a_o_named a_o_lieDay a_o_aloneYear a_o_text a_o_readForgets a_o_readWeight a_o_readComes a_o_readKnows a_o_readOx a_o_readPrice a_o_order a_o_orderNames a_o_seenWho a_o_seenNamed a_o_seenLetGo a_o_placeIn a_o_behind a_o_rowWho a_o_rowNames a_o_images a_o_isKept o_year o_bridges o_men o_oxen o_alive o_day o_seed o_texted o_faultPlace o_at0 o_said o_wordEnd o_number o_numberAt o_readYear o_readClauses o_readBridges o_readMen o_readMany o_readOxen o_sights o_rowMany x1 ) cv_X7_isMan wm_X7_112 hP hD hS hA [0] rfl rfl rfl (ws2 := [(a_o, .inr (7, (.int o_year :: .int (nI o_bridges) :: .ref a_o_forgets :: .int (nI o_men) :: .ref a_o_weight :: .ref a_o_comes :: .int (nI o_oxen) :: .ref a_o_oxWeight :: .ref a_o_oxPrice :: .ref a_o_knows :: .int o_alive :: .int o_day :: .ref a_o_over :: .ref a_o_named :: .ref a_o_lieDay :: .ref a_o_aloneYear :: .int o_seed :: .ref a_o_text :: .int (nI o_texted) :: .int o_faultPlace :: .int (nI o_at0) :: .long o_said :: .int (nI o_wordEnd) :: .int o_number :: .int (nI o_numberAt) :: .int o_readYear :: .int o_readClauses :: .int (nI o_readBridges) :: .ref a_o_readForgets :: .int (nI o_readMen) :: .ref a_o_readWeight :: .ref a_o_readComes :: .int o_readMany :: .ref a_o_readKnows :: .int (nI o_readOxen) :: .ref a_o_readOx :: .ref a_o_readPrice :: .ref a_o_order :: .ref a_o_orderNames :: .int (nI o_sights) :: .ref a_o_seenWho :: .ref a_o_seenNamed :: .ref a_o_seenLetGo :: .ref a_o_placeIn :: .ref a_o_behind :: .int (nI o_rowMany) :: .ref a_o_rowWho :: .ref a_o_rowNames :: .ref a_o_images :: .ref a_o_isKept :: [])))]) rfl rfl (b := a_o) (As := [.int x1]) (rest := []) 0 7 rfl rfl rfl rfl (Nat.le_of_ble_eq_true rfl) ⟨Nat.le_of_ble_eq_true rfl, Nat.le_of_ble_eq_true rfl⟩ ⟨Nat.zero_le _, Nat.zero_le _⟩ dX7_isManOrNone_7 (fun H locs hP hD hS => ?_)
    refine lv_if_eq (tgt := 17) hx hb dX7_isManOrNone_10 (by decide) (fun c_2 => ?_) (fun c_2 => ?_)
    · rw [if_pos c_2] at hR
      refine lv_iconst (v := (0 : Int32)) hx hb dX7_isManOrNone_17 (by decide) ?_
      subst hR
      exact (hF _ _ _ _ hP hS).1 _ rfl ⟨.boolean, rfl, rfl⟩ dX7_isManOrNone_18
    · rw [if_neg c_2] at hR
      obtain ⟨fa_c_2, fb_c_2⟩ := isMan_of c_2 (by omega)
      refine lv_iconst (v := (1 : Int32)) hx hb dX7_isManOrNone_13 (by decide) ?_
      refine lv_goto (tgt := 18) hx hb dX7_isManOrNone_14 (by decide) ?_
      subst hR
      exact (hF _ _ _ _ hP hS).1 _ rfl ⟨.boolean, rfl, rfl⟩ dX7_isManOrNone_18

theorem isManOrNone_of {x : Int32} {n : Nat} (h : ¬ S_X7_isManOrNone x n = 0) (hn : n ≤ 1000) : NN n x := by
  unfold S_X7_isManOrNone at h
  by_cases h0 : x = (-1 : Int32)
  · exact Or.inl h0
  · rw [if_neg h0] at h
    by_cases h1 : S_X7_isMan x n = 0
    · rw [if_pos h1] at h; exact absurd rfl h
    · exact Or.inr (isMan_of h1 hn)

def S_X7_fault (o_faultPlace : Int32) : Int32 := o_faultPlace
set_option maxHeartbeats 4000000 in
set_option maxRecDepth 100000 in
theorem c_X7_fault (l : Launch) (D : va_G) (tB tI tZ : ClassId) (a_o a_o_forgets a_o_weight a_o_comes a_o_oxWeight a_o_oxPrice a_o_knows a_o_over a_o_named a_o_lieDay a_o_aloneYear a_o_text a_o_readForgets a_o_readWeight a_o_readComes a_o_readKnows a_o_readOx a_o_readPrice a_o_order a_o_orderNames a_o_seenWho a_o_seenNamed a_o_seenLetGo a_o_placeIn a_o_behind a_o_rowWho a_o_rowNames a_o_images a_o_isKept : Nat) (o_year : Int32) (o_bridges : Nat) (o_men : Nat) (o_oxen : Nat) (o_alive : Int32) (o_day : Int32) (o_seed : Int32) (o_texted : Nat) (o_faultPlace : Int32) (o_at0 : Nat) (o_said : Int64) (o_wordEnd : Nat) (o_number : Int32) (o_numberAt : Nat) (o_readYear : Int32) (o_readClauses : Int32) (o_readBridges : Nat) (o_readMen : Nat) (o_readMany : Int32) (o_readOxen : Nat) (o_sights : Nat) (o_rowMany : Nat)   : CT l D (tyL tB tI tZ) yX7_fault (.code yX7_fault cX7_fault 1 (some .int)) 0 0 [.ref a_o] [(a_o, .inr (7, (.int o_year :: .int (nI o_bridges) :: .ref a_o_forgets :: .int (nI o_men) :: .ref a_o_weight :: .ref a_o_comes :: .int (nI o_oxen) :: .ref a_o_oxWeight :: .ref a_o_oxPrice :: .ref a_o_knows :: .int o_alive :: .int o_day :: .ref a_o_over :: .ref a_o_named :: .ref a_o_lieDay :: .ref a_o_aloneYear :: .int o_seed :: .ref a_o_text :: .int (nI o_texted) :: .int o_faultPlace :: .int (nI o_at0) :: .long o_said :: .int (nI o_wordEnd) :: .int o_number :: .int (nI o_numberAt) :: .int o_readYear :: .int o_readClauses :: .int (nI o_readBridges) :: .ref a_o_readForgets :: .int (nI o_readMen) :: .ref a_o_readWeight :: .ref a_o_readComes :: .int o_readMany :: .ref a_o_readKnows :: .int (nI o_readOxen) :: .ref a_o_readOx :: .ref a_o_readPrice :: .ref a_o_order :: .ref a_o_orderNames :: .int (nI o_sights) :: .ref a_o_seenWho :: .ref a_o_seenNamed :: .ref a_o_seenLetGo :: .ref a_o_placeIn :: .ref a_o_behind :: .int (nI o_rowMany) :: .ref a_o_rowWho :: .ref a_o_rowNames :: .ref a_o_images :: .ref a_o_isKept :: [])))] (fun u : Int32 => some (.int (u))) (fun _ : Int32 => [(a_o, .inr (7, (.int o_year :: .int (nI o_bridges) :: .ref a_o_forgets :: .int (nI o_men) :: .ref a_o_weight :: .ref a_o_comes :: .int (nI o_oxen) :: .ref a_o_oxWeight :: .ref a_o_oxPrice :: .ref a_o_knows :: .int o_alive :: .int o_day :: .ref a_o_over :: .ref a_o_named :: .ref a_o_lieDay :: .ref a_o_aloneYear :: .int o_seed :: .ref a_o_text :: .int (nI o_texted) :: .int o_faultPlace :: .int (nI o_at0) :: .long o_said :: .int (nI o_wordEnd) :: .int o_number :: .int (nI o_numberAt) :: .int o_readYear :: .int o_readClauses :: .int (nI o_readBridges) :: .ref a_o_readForgets :: .int (nI o_readMen) :: .ref a_o_readWeight :: .ref a_o_readComes :: .int o_readMany :: .ref a_o_readKnows :: .int (nI o_readOxen) :: .ref a_o_readOx :: .ref a_o_readPrice :: .ref a_o_order :: .ref a_o_orderNames :: .int (nI o_sights) :: .ref a_o_seenWho :: .ref a_o_seenNamed :: .ref a_o_seenLetGo :: .ref a_o_placeIn :: .ref a_o_behind :: .int (nI o_rowMany) :: .ref a_o_rowWho :: .ref a_o_rowNames :: .ref a_o_images :: .ref a_o_isKept :: [])))]) (S_X7_fault o_faultPlace) := by
  refine CT.intro (k := 0) (Nat.le_of_ble_eq_true rfl) (by decide) ?_
  intro p e s m below meth c Q A ls E hA hP hD hS hl hF
  obtain ⟨⟨hx, hb, hml, hown, hts⟩, hK⟩ := id E
  generalize hR : S_X7_fault o_faultPlace = RES at hF
  unfold S_X7_fault at hR
  have hl : lv_has ls 1 [(0, .ref a_o)] := hl
  refine lv_aload_n hx hb dX7_fault_0 rfl (lv_at hl 0 rfl) ?_
  refine fget E hP 0 rfl fd_X7_47 (v := .int o_faultPlace) rfl dX7_fault_1 ?_
  subst hR
  exact (hF _ _ _ _ hP hS).1 _ rfl ⟨.int, rfl, rfl⟩ dX7_fault_4

def S_X7_told (x1 : Int32) (o_year : Int32) (o_bridges : Nat) (o_men : Nat) (o_oxen : Nat) (o_texted : Nat) (o_day : Int32) (o_alive : Int32) (o_sights : Nat) (o_rowMany : Nat) : Int32 := (if x1 = (0 : Int32) then o_year else (if x1 = (1 : Int32) then (nI o_bridges) else (if x1 = (2 : Int32) then (nI o_men) else (if x1 = (3 : Int32) then (nI o_oxen) else (if x1 = (4 : Int32) then (nI o_texted) else (if x1 = (5 : Int32) then o_day else (if x1 = (6 : Int32) then o_alive else (if x1 = (7 : Int32) then (nI o_sights) else (if x1 = (8 : Int32) then (nI o_rowMany) else (-1000000002 : Int32))))))))))
set_option maxHeartbeats 4000000 in
set_option maxRecDepth 100000 in
theorem c_X7_told (l : Launch) (D : va_G) (tB tI tZ : ClassId) (a_o a_o_forgets a_o_weight a_o_comes a_o_oxWeight a_o_oxPrice a_o_knows a_o_over a_o_named a_o_lieDay a_o_aloneYear a_o_text a_o_readForgets a_o_readWeight a_o_readComes a_o_readKnows a_o_readOx a_o_readPrice a_o_order a_o_orderNames a_o_seenWho a_o_seenNamed a_o_seenLetGo a_o_placeIn a_o_behind a_o_rowWho a_o_rowNames a_o_images a_o_isKept : Nat) (o_year : Int32) (o_bridges : Nat) (o_men : Nat) (o_oxen : Nat) (o_alive : Int32) (o_day : Int32) (o_seed : Int32) (o_texted : Nat) (o_faultPlace : Int32) (o_at0 : Nat) (o_said : Int64) (o_wordEnd : Nat) (o_number : Int32) (o_numberAt : Nat) (o_readYear : Int32) (o_readClauses : Int32) (o_readBridges : Nat) (o_readMen : Nat) (o_readMany : Int32) (o_readOxen : Nat) (o_sights : Nat) (o_rowMany : Nat) (x1 : Int32)  : CT l D (tyL tB tI tZ) yX7_told (.code yX7_told cX7_told 2 (some .int)) 0 0 [.ref a_o, .int x1] [(a_o, .inr (7, (.int o_year :: .int (nI o_bridges) :: .ref a_o_forgets :: .int (nI o_men) :: .ref a_o_weight :: .ref a_o_comes :: .int (nI o_oxen) :: .ref a_o_oxWeight :: .ref a_o_oxPrice :: .ref a_o_knows :: .int o_alive :: .int o_day :: .ref a_o_over :: .ref a_o_named :: .ref a_o_lieDay :: .ref a_o_aloneYear :: .int o_seed :: .ref a_o_text :: .int (nI o_texted) :: .int o_faultPlace :: .int (nI o_at0) :: .long o_said :: .int (nI o_wordEnd) :: .int o_number :: .int (nI o_numberAt) :: .int o_readYear :: .int o_readClauses :: .int (nI o_readBridges) :: .ref a_o_readForgets :: .int (nI o_readMen) :: .ref a_o_readWeight :: .ref a_o_readComes :: .int o_readMany :: .ref a_o_readKnows :: .int (nI o_readOxen) :: .ref a_o_readOx :: .ref a_o_readPrice :: .ref a_o_order :: .ref a_o_orderNames :: .int (nI o_sights) :: .ref a_o_seenWho :: .ref a_o_seenNamed :: .ref a_o_seenLetGo :: .ref a_o_placeIn :: .ref a_o_behind :: .int (nI o_rowMany) :: .ref a_o_rowWho :: .ref a_o_rowNames :: .ref a_o_images :: .ref a_o_isKept :: [])))] (fun u : Int32 => some (.int (u))) (fun _ : Int32 => [(a_o, .inr (7, (.int o_year :: .int (nI o_bridges) :: .ref a_o_forgets :: .int (nI o_men) :: .ref a_o_weight :: .ref a_o_comes :: .int (nI o_oxen) :: .ref a_o_oxWeight :: .ref a_o_oxPrice :: .ref a_o_knows :: .int o_alive :: .int o_day :: .ref a_o_over :: .ref a_o_named :: .ref a_o_lieDay :: .ref a_o_aloneYear :: .int o_seed :: .ref a_o_text :: .int (nI o_texted) :: .int o_faultPlace :: .int (nI o_at0) :: .long o_said :: .int (nI o_wordEnd) :: .int o_number :: .int (nI o_numberAt) :: .int o_readYear :: .int o_readClauses :: .int (nI o_readBridges) :: .ref a_o_readForgets :: .int (nI o_readMen) :: .ref a_o_readWeight :: .ref a_o_readComes :: .int o_readMany :: .ref a_o_readKnows :: .int (nI o_readOxen) :: .ref a_o_readOx :: .ref a_o_readPrice :: .ref a_o_order :: .ref a_o_orderNames :: .int (nI o_sights) :: .ref a_o_seenWho :: .ref a_o_seenNamed :: .ref a_o_seenLetGo :: .ref a_o_placeIn :: .ref a_o_behind :: .int (nI o_rowMany) :: .ref a_o_rowWho :: .ref a_o_rowNames :: .ref a_o_images :: .ref a_o_isKept :: [])))]) (S_X7_told x1 o_year o_bridges o_men o_oxen o_texted o_day o_alive o_sights o_rowMany) := by
  refine CT.intro (k := 0) (Nat.le_of_ble_eq_true rfl) (by decide) ?_
  intro p e s m below meth c Q A ls E hA hP hD hS hl hF
  obtain ⟨⟨hx, hb, hml, hown, hts⟩, hK⟩ := id E
  generalize hR : S_X7_told x1 o_year o_bridges o_men o_oxen o_texted o_day o_alive o_sights o_rowMany = RES at hF
  unfold S_X7_told at hR
  have hl : lv_has ls 2 [(0, .ref a_o), (1, .int x1)] := hl
  refine lv_iload_n hx hb dX7_told_0 rfl (lv_at hl 1 rfl) ?_
  by_cases c_1 : x1 = (0 : Int32)
  · rw [if_pos c_1] at hR
    refine lv_is c_1 ?_
    refine lv_tableIn (tgt := 52) hx hb dX7_told_1 (by decide) (by decide) rfl (by decide) ?_
    refine lv_aload_n hx hb dX7_told_52 rfl (lv_at hl 0 rfl) ?_
    refine fget E hP 0 rfl fd_X7_7 (v := .int o_year) rfl dX7_told_53 ?_
    subst hR
    exact (hF _ _ _ _ hP hS).1 _ rfl ⟨.int, rfl, rfl⟩ dX7_told_56
  rw [if_neg c_1] at hR
  by_cases c_2 : x1 = (1 : Int32)
  · rw [if_pos c_2] at hR
    refine lv_is c_2 ?_
    refine lv_tableIn (tgt := 57) hx hb dX7_told_1 (by decide) (by decide) rfl (by decide) ?_
    refine lv_aload_n hx hb dX7_told_57 rfl (lv_at hl 0 rfl) ?_
    refine fget E hP 0 rfl fd_X7_105 (v := .int (nI o_bridges)) rfl dX7_told_58 ?_
    subst hR
    exact (hF _ _ _ _ hP hS).1 _ rfl ⟨.int, rfl, rfl⟩ dX7_told_61
  rw [if_neg c_2] at hR
  by_cases c_3 : x1 = (2 : Int32)
  · rw [if_pos c_3] at hR
    refine lv_is c_3 ?_
    refine lv_tableIn (tgt := 62) hx hb dX7_told_1 (by decide) (by decide) rfl (by decide) ?_
    refine lv_aload_n hx hb dX7_told_62 rfl (lv_at hl 0 rfl) ?_
    refine fget E hP 0 rfl fd_X7_102 (v := .int (nI o_men)) rfl dX7_told_63 ?_
    subst hR
    exact (hF _ _ _ _ hP hS).1 _ rfl ⟨.int, rfl, rfl⟩ dX7_told_66
  rw [if_neg c_3] at hR
  by_cases c_4 : x1 = (3 : Int32)
  · rw [if_pos c_4] at hR
    refine lv_is c_4 ?_
    refine lv_tableIn (tgt := 67) hx hb dX7_told_1 (by decide) (by decide) rfl (by decide) ?_
    refine lv_aload_n hx hb dX7_told_67 rfl (lv_at hl 0 rfl) ?_
    refine fget E hP 0 rfl fd_X7_223 (v := .int (nI o_oxen)) rfl dX7_told_68 ?_
    subst hR
    exact (hF _ _ _ _ hP hS).1 _ rfl ⟨.int, rfl, rfl⟩ dX7_told_71
  rw [if_neg c_4] at hR
  by_cases c_5 : x1 = (4 : Int32)
  · rw [if_pos c_5] at hR
    refine lv_is c_5 ?_
    refine lv_tableIn (tgt := 72) hx hb dX7_told_1 (by decide) (by decide) rfl (by decide) ?_
    refine lv_aload_n hx hb dX7_told_72 rfl (lv_at hl 0 rfl) ?_
    refine fget E hP 0 rfl fd_X7_119 (v := .int (nI o_texted)) rfl dX7_told_73 ?_
    subst hR
    exact (hF _ _ _ _ hP hS).1 _ rfl ⟨.int, rfl, rfl⟩ dX7_told_76
  rw [if_neg c_5] at hR
  by_cases c_6 : x1 = (5 : Int32)
  · rw [if_pos c_6] at hR
    refine lv_is c_6 ?_
    refine lv_tableIn (tgt := 77) hx hb dX7_told_1 (by decide) (by decide) rfl (by decide) ?_
    refine lv_aload_n hx hb dX7_told_77 rfl (lv_at hl 0 rfl) ?_
    refine fget E hP 0 rfl fd_X7_229 (v := .int o_day) rfl dX7_told_78 ?_
    subst hR
    exact (hF _ _ _ _ hP hS).1 _ rfl ⟨.int, rfl, rfl⟩ dX7_told_81
  rw [if_neg c_6] at hR
  by_cases c_7 : x1 = (6 : Int32)
  · rw [if_pos c_7] at hR
    refine lv_is c_7 ?_
    refine lv_tableIn (tgt := 82) hx hb dX7_told_1 (by decide) (by decide) rfl (by decide) ?_
    refine lv_aload_n hx hb dX7_told_82 rfl (lv_at hl 0 rfl) ?_
    refine fget E hP 0 rfl fd_X7_226 (v := .int o_alive) rfl dX7_told_83 ?_
    subst hR
    exact (hF _ _ _ _ hP hS).1 _ rfl ⟨.int, rfl, rfl⟩ dX7_told_86
  rw [if_neg c_7] at hR
  by_cases c_8 : x1 = (7 : Int32)
  · rw [if_pos c_8] at hR
    refine lv_is c_8 ?_
    refine lv_tableIn (tgt := 87) hx hb dX7_told_1 (by decide) (by decide) rfl (by decide) ?_
    refine lv_aload_n hx hb dX7_told_87 rfl (lv_at hl 0 rfl) ?_
    refine fget E hP 0 rfl fd_X7_232 (v := .int (nI o_sights)) rfl dX7_told_88 ?_
    subst hR
    exact (hF _ _ _ _ hP hS).1 _ rfl ⟨.int, rfl, rfl⟩ dX7_told_91
  rw [if_neg c_8] at hR
  by_cases c_9 : x1 = (8 : Int32)
  · rw [if_pos c_9] at hR
    refine lv_is c_9 ?_
    refine lv_tableIn (tgt := 92) hx hb dX7_told_1 (by decide) (by decide) rfl (by decide) ?_
    refine lv_aload_n hx hb dX7_told_92 rfl (lv_at hl 0 rfl) ?_
    refine fget E hP 0 rfl fd_X7_235 (v := .int (nI o_rowMany)) rfl dX7_told_93 ?_
    subst hR
    exact (hF _ _ _ _ hP hS).1 _ rfl ⟨.int, rfl, rfl⟩ dX7_told_96
  rw [if_neg c_9] at hR
  refine lv_tableOut (tgt := 97) hx hb dX7_told_1 (sw_out_0_8 c_1 c_2 c_3 c_4 c_5 c_6 c_7 c_8 c_9) (by decide) ?_
  refine lv_ldc hx hb hown (hts _ wk_X7_118) dX7_told_97 ?_
  subst hR
  exact (hF _ _ _ _ hP hS).1 _ rfl ⟨.int, rfl, rfl⟩ dX7_told_99

def S_X7_isRemembered (x1 : Nat) (x2 : Nat) (o_lieDay : Nat → Int32) (o_forgets : Nat → Int32) (o_day : Int32) : Int32 := (if (o_lieDay ((6 * x1) + x2)) < 0 then (0 : Int32) else (if (o_forgets x1) = 0 then (1 : Int32) else (if (o_forgets x1) < (o_day - (o_lieDay ((6 * x1) + x2))) then (0 : Int32) else (1 : Int32))))
theorem z_X7_isRemembered (x1 : Nat) (x2 : Nat) (o_lieDay : Nat → Int32) (o_forgets : Nat → Int32) (o_day : Int32)  : S_X7_isRemembered x1 x2 o_lieDay o_forgets o_day = 0 ∨ S_X7_isRemembered x1 x2 o_lieDay o_forgets o_day = 1 := by unfold S_X7_isRemembered; (repeat' split) <;> first | exact Or.inl rfl | exact Or.inr rfl | assumption
set_option maxHeartbeats 4000000 in
set_option maxRecDepth 100000 in
theorem c_X7_isRemembered (l : Launch) (D : va_G) (tB tI tZ : ClassId) (a_o a_o_forgets a_o_weight a_o_comes a_o_oxWeight a_o_oxPrice a_o_knows a_o_over a_o_named a_o_lieDay a_o_aloneYear a_o_text a_o_readForgets a_o_readWeight a_o_readComes a_o_readKnows a_o_readOx a_o_readPrice a_o_order a_o_orderNames a_o_seenWho a_o_seenNamed a_o_seenLetGo a_o_placeIn a_o_behind a_o_rowWho a_o_rowNames a_o_images a_o_isKept : Nat) (o_year : Int32) (o_bridges : Nat) (o_men : Nat) (o_oxen : Nat) (o_alive : Int32) (o_day : Int32) (o_seed : Int32) (o_texted : Nat) (o_faultPlace : Int32) (o_at0 : Nat) (o_said : Int64) (o_wordEnd : Nat) (o_number : Int32) (o_numberAt : Nat) (o_readYear : Int32) (o_readClauses : Int32) (o_readBridges : Nat) (o_readMen : Nat) (o_readMany : Int32) (o_readOxen : Nat) (o_sights : Nat) (o_rowMany : Nat) (o_lieDay : Nat → Int32) (o_forgets : Nat → Int32) (x1 : Nat) (x2 : Nat) (hb : x1 < 5) (ht : x2 < 6) : CT l D (tyL tB tI tZ) yX7_isRemembered (.code yX7_isRemembered cX7_isRemembered 4 (some .boolean)) 0 0 [.ref a_o, .int (nI x1), .int (nI x2)] [(a_o, .inr (7, (.int o_year :: .int (nI o_bridges) :: .ref a_o_forgets :: .int (nI o_men) :: .ref a_o_weight :: .ref a_o_comes :: .int (nI o_oxen) :: .ref a_o_oxWeight :: .ref a_o_oxPrice :: .ref a_o_knows :: .int o_alive :: .int o_day :: .ref a_o_over :: .ref a_o_named :: .ref a_o_lieDay :: .ref a_o_aloneYear :: .int o_seed :: .ref a_o_text :: .int (nI o_texted) :: .int o_faultPlace :: .int (nI o_at0) :: .long o_said :: .int (nI o_wordEnd) :: .int o_number :: .int (nI o_numberAt) :: .int o_readYear :: .int o_readClauses :: .int (nI o_readBridges) :: .ref a_o_readForgets :: .int (nI o_readMen) :: .ref a_o_readWeight :: .ref a_o_readComes :: .int o_readMany :: .ref a_o_readKnows :: .int (nI o_readOxen) :: .ref a_o_readOx :: .ref a_o_readPrice :: .ref a_o_order :: .ref a_o_orderNames :: .int (nI o_sights) :: .ref a_o_seenWho :: .ref a_o_seenNamed :: .ref a_o_seenLetGo :: .ref a_o_placeIn :: .ref a_o_behind :: .int (nI o_rowMany) :: .ref a_o_rowWho :: .ref a_o_rowNames :: .ref a_o_images :: .ref a_o_isKept :: []))), (a_o_lieDay, .inl (tI, 30, .inl o_lieDay)), (a_o_forgets, .inl (tI, 5, .inl o_forgets))] (fun u : Int32 => some (.int (u))) (fun _ : Int32 => [(a_o, .inr (7, (.int o_year :: .int (nI o_bridges) :: .ref a_o_forgets :: .int (nI o_men) :: .ref a_o_weight :: .ref a_o_comes :: .int (nI o_oxen) :: .ref a_o_oxWeight :: .ref a_o_oxPrice :: .ref a_o_knows :: .int o_alive :: .int o_day :: .ref a_o_over :: .ref a_o_named :: .ref a_o_lieDay :: .ref a_o_aloneYear :: .int o_seed :: .ref a_o_text :: .int (nI o_texted) :: .int o_faultPlace :: .int (nI o_at0) :: .long o_said :: .int (nI o_wordEnd) :: .int o_number :: .int (nI o_numberAt) :: .int o_readYear :: .int o_readClauses :: .int (nI o_readBridges) :: .ref a_o_readForgets :: .int (nI o_readMen) :: .ref a_o_readWeight :: .ref a_o_readComes :: .int o_readMany :: .ref a_o_readKnows :: .int (nI o_readOxen) :: .ref a_o_readOx :: .ref a_o_readPrice :: .ref a_o_order :: .ref a_o_orderNames :: .int (nI o_sights) :: .ref a_o_seenWho :: .ref a_o_seenNamed :: .ref a_o_seenLetGo :: .ref a_o_placeIn :: .ref a_o_behind :: .int (nI o_rowMany) :: .ref a_o_rowWho :: .ref a_o_rowNames :: .ref a_o_images :: .ref a_o_isKept :: []))), (a_o_lieDay, .inl (tI, 30, .inl o_lieDay)), (a_o_forgets, .inl (tI, 5, .inl o_forgets))]) (S_X7_isRemembered x1 x2 o_lieDay o_forgets o_day) := by
  refine CT.intro (k := 0) (Nat.le_of_ble_eq_true rfl) (by decide) ?_
  intro p e s m below meth c Q A ls E hA hP hD hS hl hF
  obtain ⟨⟨hx, hb, hml, hown, hts⟩, hK⟩ := id E
  generalize hR : S_X7_isRemembered x1 x2 o_lieDay o_forgets o_day = RES at hF
  unfold S_X7_isRemembered at hR
  have hl : lv_has ls 4 [(0, .ref a_o), (1, .int (nI x1)), (2, .int (nI x2))] := hl
  refine lv_aload_n hx hb dX7_isRemembered_0 rfl (lv_at hl 0 rfl) ?_
  refine fget E hP 0 rfl fd_X7_38 (v := .ref a_o_lieDay) rfl dX7_isRemembered_1 ?_
  refine lv_bipush (v := (6 : Int32)) hx hb dX7_isRemembered_4 (by decide) ?_
  refine lv_iload_n hx hb dX7_isRemembered_6 rfl (lv_at hl 1 rfl) ?_
  refine lv_imul hx hb dX7_isRemembered_7 ?_
  refine lv_is (pk_mul 6 x1) ?_
  refine lv_iload_n hx hb dX7_isRemembered_8 rfl (lv_at hl 2 rfl) ?_
  refine lv_iadd hx hb dX7_isRemembered_9 ?_
  refine lv_is (nI_add (6 * x1) x2) ?_
  refine ild E hP 1 rfl (k := ((6 * x1) + x2)) (by omega) (by decide) dX7_isRemembered_10 ?_
  refine lv_istore_n (lv' := [(3, .int (o_lieDay ((6 * x1) + x2))), (0, .ref a_o), (1, .int (nI x1)), (2, .int (nI x2))]) hx hb dX7_isRemembered_11 rfl hl (by decide) rfl (fun ls hl => ?_)
  refine lv_iload_n hx hb dX7_isRemembered_12 rfl (lv_at hl 0 rfl) ?_
  refine lv_if_lt (tgt := 44) hx hb dX7_isRemembered_13 (by decide) (fun c_1 => ?_) (fun c_1 => ?_)
  · rw [if_pos c_1] at hR
    refine lv_iconst (v := (0 : Int32)) hx hb dX7_isRemembered_44 (by decide) ?_
    subst hR
    exact (hF _ _ _ _ hP hS).1 _ rfl ⟨.boolean, rfl, rfl⟩ dX7_isRemembered_45
  · rw [if_neg c_1] at hR
    refine lv_aload_n hx hb dX7_isRemembered_16 rfl (lv_at hl 1 rfl) ?_
    refine fget E hP 0 rfl fd_X7_13 (v := .ref a_o_forgets) rfl dX7_isRemembered_17 ?_
    refine lv_iload_n hx hb dX7_isRemembered_20 rfl (lv_at hl 2 rfl) ?_
    refine ild E hP 2 rfl (k := x1) (by omega) (by decide) dX7_isRemembered_21 ?_
    refine lv_if_eq (tgt := 40) hx hb dX7_isRemembered_22 (by decide) (fun c_2 => ?_) (fun c_2 => ?_)
    · rw [if_pos c_2] at hR
      refine lv_iconst (v := (1 : Int32)) hx hb dX7_isRemembered_40 (by decide) ?_
      refine lv_goto (tgt := 45) hx hb dX7_isRemembered_41 (by decide) ?_
      subst hR
      exact (hF _ _ _ _ hP hS).1 _ rfl ⟨.boolean, rfl, rfl⟩ dX7_isRemembered_45
    · rw [if_neg c_2] at hR
      refine lv_aload_n hx hb dX7_isRemembered_25 rfl (lv_at hl 1 rfl) ?_
      refine fget E hP 0 rfl fd_X7_229 (v := .int o_day) rfl dX7_isRemembered_26 ?_
      refine lv_iload_n hx hb dX7_isRemembered_29 rfl (lv_at hl 0 rfl) ?_
      refine lv_isub hx hb dX7_isRemembered_30 ?_
      refine lv_aload_n hx hb dX7_isRemembered_31 rfl (lv_at hl 1 rfl) ?_
      refine fget E hP 0 rfl fd_X7_13 (v := .ref a_o_forgets) rfl dX7_isRemembered_32 ?_
      refine lv_iload_n hx hb dX7_isRemembered_35 rfl (lv_at hl 2 rfl) ?_
      refine ild E hP 2 rfl (k := x1) (by omega) (by decide) dX7_isRemembered_36 ?_
      refine lv_icmp_gt (tgt := 44) hx hb dX7_isRemembered_37 (by decide) (fun c_3 => ?_) (fun c_3 => ?_)
      · rw [if_pos c_3] at hR
        refine lv_iconst (v := (0 : Int32)) hx hb dX7_isRemembered_44 (by decide) ?_
        subst hR
        exact (hF _ _ _ _ hP hS).1 _ rfl ⟨.boolean, rfl, rfl⟩ dX7_isRemembered_45
      · rw [if_neg c_3] at hR
        refine lv_iconst (v := (1 : Int32)) hx hb dX7_isRemembered_40 (by decide) ?_
        refine lv_goto (tgt := 45) hx hb dX7_isRemembered_41 (by decide) ?_
        subst hR
        exact (hF _ _ _ _ hP hS).1 _ rfl ⟨.boolean, rfl, rfl⟩ dX7_isRemembered_45

def K_X7_rememberedAt_4  (v2_4 : Int32) : Int32 := v2_4
def B_X7_rememberedAt_4 (x1 : Nat) (o_day : Int32) (o_lieDay : Nat → Int32) (o_forgets : Nat → Int32) (k_4 : Nat) (v2_4 : Int32) : Int32 := (if (S_X7_isRemembered x1 k_4 o_lieDay o_forgets o_day) = 0 then (v2_4 ||| (0 : Int32)) else (v2_4 ||| ((1 : Int32) <<< ((nI k_4) &&& 31))))
def S_X7_rememberedAt (x1 : Nat) (o_men : Nat) (o_day : Int32) (o_lieDay : Nat → Int32) (o_forgets : Nat → Int32) : Int32 := ((fun a => K_X7_rememberedAt_4 a) (iter (fun k a => B_X7_rememberedAt_4 x1 o_day o_lieDay o_forgets k a) o_men 0 (0 : Int32)))
set_option maxHeartbeats 4000000 in
set_option maxRecDepth 100000 in
theorem c_X7_rememberedAt (l : Launch) (D : va_G) (tB tI tZ : ClassId) (a_o a_o_forgets a_o_weight a_o_comes a_o_oxWeight a_o_oxPrice a_o_knows a_o_over a_o_named a_o_lieDay a_o_aloneYear a_o_text a_o_readForgets a_o_readWeight a_o_readComes a_o_readKnows a_o_readOx a_o_readPrice a_o_order a_o_orderNames a_o_seenWho a_o_seenNamed a_o_seenLetGo a_o_placeIn a_o_behind a_o_rowWho a_o_rowNames a_o_images a_o_isKept : Nat) (o_year : Int32) (o_bridges : Nat) (o_men : Nat) (o_oxen : Nat) (o_alive : Int32) (o_day : Int32) (o_seed : Int32) (o_texted : Nat) (o_faultPlace : Int32) (o_at0 : Nat) (o_said : Int64) (o_wordEnd : Nat) (o_number : Int32) (o_numberAt : Nat) (o_readYear : Int32) (o_readClauses : Int32) (o_readBridges : Nat) (o_readMen : Nat) (o_readMany : Int32) (o_readOxen : Nat) (o_sights : Nat) (o_rowMany : Nat) (o_lieDay : Nat → Int32) (o_forgets : Nat → Int32) (x1 : Nat) (hb : x1 < 5) (hmen : o_men ≤ 6) : CT l D (tyL tB tI tZ) yX7_rememberedAt (.code yX7_rememberedAt cX7_rememberedAt 4 (some .int)) 1 23 [.ref a_o, .int (nI x1)] [(a_o, .inr (7, (.int o_year :: .int (nI o_bridges) :: .ref a_o_forgets :: .int (nI o_men) :: .ref a_o_weight :: .ref a_o_comes :: .int (nI o_oxen) :: .ref a_o_oxWeight :: .ref a_o_oxPrice :: .ref a_o_knows :: .int o_alive :: .int o_day :: .ref a_o_over :: .ref a_o_named :: .ref a_o_lieDay :: .ref a_o_aloneYear :: .int o_seed :: .ref a_o_text :: .int (nI o_texted) :: .int o_faultPlace :: .int (nI o_at0) :: .long o_said :: .int (nI o_wordEnd) :: .int o_number :: .int (nI o_numberAt) :: .int o_readYear :: .int o_readClauses :: .int (nI o_readBridges) :: .ref a_o_readForgets :: .int (nI o_readMen) :: .ref a_o_readWeight :: .ref a_o_readComes :: .int o_readMany :: .ref a_o_readKnows :: .int (nI o_readOxen) :: .ref a_o_readOx :: .ref a_o_readPrice :: .ref a_o_order :: .ref a_o_orderNames :: .int (nI o_sights) :: .ref a_o_seenWho :: .ref a_o_seenNamed :: .ref a_o_seenLetGo :: .ref a_o_placeIn :: .ref a_o_behind :: .int (nI o_rowMany) :: .ref a_o_rowWho :: .ref a_o_rowNames :: .ref a_o_images :: .ref a_o_isKept :: []))), (a_o_lieDay, .inl (tI, 30, .inl o_lieDay)), (a_o_forgets, .inl (tI, 5, .inl o_forgets))] (fun u : Int32 => some (.int (u))) (fun _ : Int32 => [(a_o, .inr (7, (.int o_year :: .int (nI o_bridges) :: .ref a_o_forgets :: .int (nI o_men) :: .ref a_o_weight :: .ref a_o_comes :: .int (nI o_oxen) :: .ref a_o_oxWeight :: .ref a_o_oxPrice :: .ref a_o_knows :: .int o_alive :: .int o_day :: .ref a_o_over :: .ref a_o_named :: .ref a_o_lieDay :: .ref a_o_aloneYear :: .int o_seed :: .ref a_o_text :: .int (nI o_texted) :: .int o_faultPlace :: .int (nI o_at0) :: .long o_said :: .int (nI o_wordEnd) :: .int o_number :: .int (nI o_numberAt) :: .int o_readYear :: .int o_readClauses :: .int (nI o_readBridges) :: .ref a_o_readForgets :: .int (nI o_readMen) :: .ref a_o_readWeight :: .ref a_o_readComes :: .int o_readMany :: .ref a_o_readKnows :: .int (nI o_readOxen) :: .ref a_o_readOx :: .ref a_o_readPrice :: .ref a_o_order :: .ref a_o_orderNames :: .int (nI o_sights) :: .ref a_o_seenWho :: .ref a_o_seenNamed :: .ref a_o_seenLetGo :: .ref a_o_placeIn :: .ref a_o_behind :: .int (nI o_rowMany) :: .ref a_o_rowWho :: .ref a_o_rowNames :: .ref a_o_images :: .ref a_o_isKept :: []))), (a_o_lieDay, .inl (tI, 30, .inl o_lieDay)), (a_o_forgets, .inl (tI, 5, .inl o_forgets))]) (S_X7_rememberedAt x1 o_men o_day o_lieDay o_forgets) := by
  refine CT.intro (k := 0) (Nat.le_of_ble_eq_true rfl) (by decide) ?_
  intro p e s m below meth c Q A ls E hA hP hD hS hl hF
  obtain ⟨⟨hx, hb, hml, hown, hts⟩, hK⟩ := id E
  generalize hR : S_X7_rememberedAt x1 o_men o_day o_lieDay o_forgets = RES at hF
  unfold S_X7_rememberedAt at hR
  have hl : lv_has ls 4 [(0, .ref a_o), (1, .int (nI x1))] := hl
  refine lv_iconst (v := (0 : Int32)) hx hb dX7_rememberedAt_0 (by decide) ?_
  refine lv_istore_n (lv' := [(2, .int (0 : Int32)), (0, .ref a_o), (1, .int (nI x1))]) hx hb dX7_rememberedAt_1 rfl hl (by decide) rfl (fun ls hl => ?_)
  refine lv_iconst (v := (0 : Int32)) hx hb dX7_rememberedAt_2 (by decide) ?_
  refine lv_istore_n (lv' := [(3, .int (0 : Int32)), (2, .int (0 : Int32)), (0, .ref a_o), (1, .int (nI x1))]) hx hb dX7_rememberedAt_3 rfl hl (by decide) rfl (fun ls hl => ?_)
  have EX_4 : ∀ (v2_4 : Int32)  (H : Heap) (locs : List Loc) (ls : Array Slot), K_X7_rememberedAt_4 v2_4 = RES → va_P D vwCl [(a_o, .inr (7, (.int o_year :: .int (nI o_bridges) :: .ref a_o_forgets :: .int (nI o_men) :: .ref a_o_weight :: .ref a_o_comes :: .int (nI o_oxen) :: .ref a_o_oxWeight :: .ref a_o_oxPrice :: .ref a_o_knows :: .int o_alive :: .int o_day :: .ref a_o_over :: .ref a_o_named :: .ref a_o_lieDay :: .ref a_o_aloneYear :: .int o_seed :: .ref a_o_text :: .int (nI o_texted) :: .int o_faultPlace :: .int (nI o_at0) :: .long o_said :: .int (nI o_wordEnd) :: .int o_number :: .int (nI o_numberAt) :: .int o_readYear :: .int o_readClauses :: .int (nI o_readBridges) :: .ref a_o_readForgets :: .int (nI o_readMen) :: .ref a_o_readWeight :: .ref a_o_readComes :: .int o_readMany :: .ref a_o_readKnows :: .int (nI o_readOxen) :: .ref a_o_readOx :: .ref a_o_readPrice :: .ref a_o_order :: .ref a_o_orderNames :: .int (nI o_sights) :: .ref a_o_seenWho :: .ref a_o_seenNamed :: .ref a_o_seenLetGo :: .ref a_o_placeIn :: .ref a_o_behind :: .int (nI o_rowMany) :: .ref a_o_rowWho :: .ref a_o_rowNames :: .ref a_o_images :: .ref a_o_isKept :: []))), (a_o_lieDay, .inl (tI, 30, .inl o_lieDay)), (a_o_forgets, .inl (tI, 5, .inl o_forgets))] H → va_D A [(a_o, .inr (7, (.int o_year :: .int (nI o_bridges) :: .ref a_o_forgets :: .int (nI o_men) :: .ref a_o_weight :: .ref a_o_comes :: .int (nI o_oxen) :: .ref a_o_oxWeight :: .ref a_o_oxPrice :: .ref a_o_knows :: .int o_alive :: .int o_day :: .ref a_o_over :: .ref a_o_named :: .ref a_o_lieDay :: .ref a_o_aloneYear :: .int o_seed :: .ref a_o_text :: .int (nI o_texted) :: .int o_faultPlace :: .int (nI o_at0) :: .long o_said :: .int (nI o_wordEnd) :: .int o_number :: .int (nI o_numberAt) :: .int o_readYear :: .int o_readClauses :: .int (nI o_readBridges) :: .ref a_o_readForgets :: .int (nI o_readMen) :: .ref a_o_readWeight :: .ref a_o_readComes :: .int o_readMany :: .ref a_o_readKnows :: .int (nI o_readOxen) :: .ref a_o_readOx :: .ref a_o_readPrice :: .ref a_o_order :: .ref a_o_orderNames :: .int (nI o_sights) :: .ref a_o_seenWho :: .ref a_o_seenNamed :: .ref a_o_seenLetGo :: .ref a_o_placeIn :: .ref a_o_behind :: .int (nI o_rowMany) :: .ref a_o_rowWho :: .ref a_o_rowNames :: .ref a_o_images :: .ref a_o_isKept :: []))), (a_o_lieDay, .inl (tI, 30, .inl o_lieDay)), (a_o_forgets, .inl (tI, 5, .inl o_forgets))] → va_S A s.heap H locs → lv_has ls 4 [(2, .int v2_4)] → W p l e { frames := 1, cells := 0, slots := 0, locals := 23 } s m ([.ref a_o, .int (nI x1)] : List Value).toArray below meth c H locs 0 0 Q (F0 m 37 ls []) := by
    intro v2_4 H locs ls hR hP hD hS hl
    unfold K_X7_rememberedAt_4 at hR
    refine lv_iload_n hx hb dX7_rememberedAt_37 rfl (lv_at hl 0 rfl) ?_
    subst hR
    exact (hF _ _ _ _ hP hS).1 _ rfl ⟨.int, rfl, rfl⟩ dX7_rememberedAt_38
  have LP_4 : ∀ (n_4 k_4 : Nat) (v2_4 : Int32)  (H : Heap) (locs : List Loc) (ls : Array Slot), k_4 + n_4 = o_men → (fun a => K_X7_rememberedAt_4 a) (iter (fun k a => B_X7_rememberedAt_4 x1 o_day o_lieDay o_forgets k a) n_4 k_4 v2_4) = RES → va_P D vwCl [(a_o, .inr (7, (.int o_year :: .int (nI o_bridges) :: .ref a_o_forgets :: .int (nI o_men) :: .ref a_o_weight :: .ref a_o_comes :: .int (nI o_oxen) :: .ref a_o_oxWeight :: .ref a_o_oxPrice :: .ref a_o_knows :: .int o_alive :: .int o_day :: .ref a_o_over :: .ref a_o_named :: .ref a_o_lieDay :: .ref a_o_aloneYear :: .int o_seed :: .ref a_o_text :: .int (nI o_texted) :: .int o_faultPlace :: .int (nI o_at0) :: .long o_said :: .int (nI o_wordEnd) :: .int o_number :: .int (nI o_numberAt) :: .int o_readYear :: .int o_readClauses :: .int (nI o_readBridges) :: .ref a_o_readForgets :: .int (nI o_readMen) :: .ref a_o_readWeight :: .ref a_o_readComes :: .int o_readMany :: .ref a_o_readKnows :: .int (nI o_readOxen) :: .ref a_o_readOx :: .ref a_o_readPrice :: .ref a_o_order :: .ref a_o_orderNames :: .int (nI o_sights) :: .ref a_o_seenWho :: .ref a_o_seenNamed :: .ref a_o_seenLetGo :: .ref a_o_placeIn :: .ref a_o_behind :: .int (nI o_rowMany) :: .ref a_o_rowWho :: .ref a_o_rowNames :: .ref a_o_images :: .ref a_o_isKept :: []))), (a_o_lieDay, .inl (tI, 30, .inl o_lieDay)), (a_o_forgets, .inl (tI, 5, .inl o_forgets))] H → va_D A [(a_o, .inr (7, (.int o_year :: .int (nI o_bridges) :: .ref a_o_forgets :: .int (nI o_men) :: .ref a_o_weight :: .ref a_o_comes :: .int (nI o_oxen) :: .ref a_o_oxWeight :: .ref a_o_oxPrice :: .ref a_o_knows :: .int o_alive :: .int o_day :: .ref a_o_over :: .ref a_o_named :: .ref a_o_lieDay :: .ref a_o_aloneYear :: .int o_seed :: .ref a_o_text :: .int (nI o_texted) :: .int o_faultPlace :: .int (nI o_at0) :: .long o_said :: .int (nI o_wordEnd) :: .int o_number :: .int (nI o_numberAt) :: .int o_readYear :: .int o_readClauses :: .int (nI o_readBridges) :: .ref a_o_readForgets :: .int (nI o_readMen) :: .ref a_o_readWeight :: .ref a_o_readComes :: .int o_readMany :: .ref a_o_readKnows :: .int (nI o_readOxen) :: .ref a_o_readOx :: .ref a_o_readPrice :: .ref a_o_order :: .ref a_o_orderNames :: .int (nI o_sights) :: .ref a_o_seenWho :: .ref a_o_seenNamed :: .ref a_o_seenLetGo :: .ref a_o_placeIn :: .ref a_o_behind :: .int (nI o_rowMany) :: .ref a_o_rowWho :: .ref a_o_rowNames :: .ref a_o_images :: .ref a_o_isKept :: []))), (a_o_lieDay, .inl (tI, 30, .inl o_lieDay)), (a_o_forgets, .inl (tI, 5, .inl o_forgets))] → va_S A s.heap H locs → lv_has ls 4 [(3, .int (nI k_4)), (2, .int v2_4), (0, .ref a_o), (1, .int (nI x1))] → W p l e { frames := 1, cells := 0, slots := 0, locals := 23 } s m ([.ref a_o, .int (nI x1)] : List Value).toArray below meth c H locs 0 0 Q (F0 m 4 ls []) := by
    intro n_4
    induction n_4 with
    | zero =>
      intro k_4 v2_4 H locs ls hn_4 hR hP hD hS hl
      refine lv_iload_n hx hb dX7_rememberedAt_4 rfl (lv_at hl 0 rfl) ?_
      refine lv_aload_n hx hb dX7_rememberedAt_5 rfl (lv_at hl 2 rfl) ?_
      refine fget E hP 0 rfl fd_X7_102 (v := .int (nI o_men)) rfl dX7_rememberedAt_6 ?_
      refine ni_ge (a := k_4) (b := o_men) (tgt := 37) (by omega) (by omega) hx hb dX7_rememberedAt_9 (by decide) (fun g_4 => ?_) (fun g_4 => ?_)
      · exact EX_4 v2_4  _ _ _ hR hP hD hS (lv_sub hl [1] rfl)
      · exfalso; omega
    | succ n_4 ih_4 =>
      intro k_4 v2_4 H locs ls hn_4 hR hP hD hS hl
      have hR : (fun a => K_X7_rememberedAt_4 a) (iter (fun k a => B_X7_rememberedAt_4 x1 o_day o_lieDay o_forgets k a) n_4 (k_4 + 1) (B_X7_rememberedAt_4 x1 o_day o_lieDay o_forgets k_4 v2_4)) = RES := hR
      generalize hB_4 : B_X7_rememberedAt_4 x1 o_day o_lieDay o_forgets k_4 v2_4 = RB_4 at hR
      unfold B_X7_rememberedAt_4 at hB_4
      refine lv_iload_n hx hb dX7_rememberedAt_4 rfl (lv_at hl 0 rfl) ?_
      refine lv_aload_n hx hb dX7_rememberedAt_5 rfl (lv_at hl 2 rfl) ?_
      refine fget E hP 0 rfl fd_X7_102 (v := .int (nI o_men)) rfl dX7_rememberedAt_6 ?_
      refine ni_ge (a := k_4) (b := o_men) (tgt := 37) (by omega) (by omega) hx hb dX7_rememberedAt_9 (by decide) (fun g_4 => ?_) (fun g_4 => ?_)
      · exfalso; omega
      · refine lv_iload_n hx hb dX7_rememberedAt_12 rfl (lv_at hl 1 rfl) ?_
        refine lv_aload_n hx hb dX7_rememberedAt_13 rfl (lv_at hl 2 rfl) ?_
        refine lv_iload_n hx hb dX7_rememberedAt_14 rfl (lv_at hl 3 rfl) ?_
        refine lv_iload_n hx hb dX7_rememberedAt_15 rfl (lv_at hl 0 rfl) ?_
        refine kcV E hl.1 (c_X7_isRemembered l D tB tI tZ a_o a_o_forgets a_o_weight a_o_comes a_o_oxWeight a_o_oxPrice a_o_knows a_o_over a_o_named a_o_lieDay a_o_aloneYear a_o_text a_o_readForgets a_o_readWeight a_o_readComes a_o_readKnows a_o_readOx a_o_readPrice a_o_order a_o_orderNames a_o_seenWho a_o_seenNamed a_o_seenLetGo a_o_placeIn a_o_behind a_o_rowWho a_o_rowNames a_o_images a_o_isKept o_year o_bridges o_men o_oxen o_alive o_day o_seed o_texted o_faultPlace o_at0 o_said o_wordEnd o_number o_numberAt o_readYear o_readClauses o_readBridges o_readMen o_readMany o_readOxen o_sights o_rowMany o_lieDay o_forgets x1 k_4 (show x1 < 5 by first | assumption | omega | exact NN.none | exact NN.nat (by omega) (by omega) | exact NN.up (by assumption) (by omega)) (show k_4 < 6 by first | assumption | omega | exact NN.none | exact NN.nat (by omega) (by omega) | exact NN.up (by assumption) (by omega))) cv_X7_isRemembered wm_X7_238 hP hD hS hA [0, 1, 2] rfl rfl rfl (ws2 := [(a_o, .inr (7, (.int o_year :: .int (nI o_bridges) :: .ref a_o_forgets :: .int (nI o_men) :: .ref a_o_weight :: .ref a_o_comes :: .int (nI o_oxen) :: .ref a_o_oxWeight :: .ref a_o_oxPrice :: .ref a_o_knows :: .int o_alive :: .int o_day :: .ref a_o_over :: .ref a_o_named :: .ref a_o_lieDay :: .ref a_o_aloneYear :: .int o_seed :: .ref a_o_text :: .int (nI o_texted) :: .int o_faultPlace :: .int (nI o_at0) :: .long o_said :: .int (nI o_wordEnd) :: .int o_number :: .int (nI o_numberAt) :: .int o_readYear :: .int o_readClauses :: .int (nI o_readBridges) :: .ref a_o_readForgets :: .int (nI o_readMen) :: .ref a_o_readWeight :: .ref a_o_readComes :: .int o_readMany :: .ref a_o_readKnows :: .int (nI o_readOxen) :: .ref a_o_readOx :: .ref a_o_readPrice :: .ref a_o_order :: .ref a_o_orderNames :: .int (nI o_sights) :: .ref a_o_seenWho :: .ref a_o_seenNamed :: .ref a_o_seenLetGo :: .ref a_o_placeIn :: .ref a_o_behind :: .int (nI o_rowMany) :: .ref a_o_rowWho :: .ref a_o_rowNames :: .ref a_o_images :: .ref a_o_isKept :: []))), (a_o_lieDay, .inl (tI, 30, .inl o_lieDay)), (a_o_forgets, .inl (tI, 5, .inl o_forgets))]) rfl rfl (b := a_o) (As := [.int (nI x1), .int (nI k_4)]) (rest := [.int v2_4]) 0 7 rfl rfl rfl rfl (Nat.le_of_ble_eq_true rfl) ⟨Nat.le_of_ble_eq_true rfl, Nat.le_of_ble_eq_true rfl⟩ ⟨Nat.zero_le _, Nat.zero_le _⟩ dX7_rememberedAt_16 (fun H locs hP hD hS => ?_)
        refine lv_if_eq (tgt := 28) hx hb dX7_rememberedAt_19 (by decide) (fun c_2 => ?_) (fun c_2 => ?_)
        · rw [if_pos c_2] at hB_4
          refine lv_iconst (v := (0 : Int32)) hx hb dX7_rememberedAt_28 (by decide) ?_
          refine lv_ior hx hb dX7_rememberedAt_29 ?_
          refine lv_istore_n (lv' := [(2, .int (v2_4 ||| (0 : Int32))), (3, .int (nI k_4)), (0, .ref a_o), (1, .int (nI x1))]) hx hb dX7_rememberedAt_30 rfl hl (by decide) rfl (fun ls hl => ?_)
          refine lv_iinc (v := (nI (k_4 + 1))) (lv' := [(3, .int (nI (k_4 + 1))), (2, .int (v2_4 ||| (0 : Int32))), (0, .ref a_o), (1, .int (nI x1))]) hx hb dX7_rememberedAt_31 hl (k := 1) rfl (nI_i1 k_4) (by decide) rfl (fun ls hl => ?_)
          refine lv_goto (tgt := 4) hx hb dX7_rememberedAt_34 (by decide) ?_
          subst hB_4
          exact ih_4 (k_4 + 1) (v2_4 ||| (0 : Int32))  _ _ _ (by omega) hR hP hD hS (lv_sub hl [0, 1, 2, 3] rfl)
        · rw [if_neg c_2] at hB_4
          refine lv_iconst (v := (1 : Int32)) hx hb dX7_rememberedAt_22 (by decide) ?_
          refine lv_iload_n hx hb dX7_rememberedAt_23 rfl (lv_at hl 0 rfl) ?_
          refine lv_ishl hx hb dX7_rememberedAt_24 ?_
          refine lv_goto (tgt := 29) hx hb dX7_rememberedAt_25 (by decide) ?_
          refine lv_ior hx hb dX7_rememberedAt_29 ?_
          refine lv_istore_n (lv' := [(2, .int (v2_4 ||| ((1 : Int32) <<< ((nI k_4) &&& 31)))), (3, .int (nI k_4)), (0, .ref a_o), (1, .int (nI x1))]) hx hb dX7_rememberedAt_30 rfl hl (by decide) rfl (fun ls hl => ?_)
          refine lv_iinc (v := (nI (k_4 + 1))) (lv' := [(3, .int (nI (k_4 + 1))), (2, .int (v2_4 ||| ((1 : Int32) <<< ((nI k_4) &&& 31)))), (0, .ref a_o), (1, .int (nI x1))]) hx hb dX7_rememberedAt_31 hl (k := 1) rfl (nI_i1 k_4) (by decide) rfl (fun ls hl => ?_)
          refine lv_goto (tgt := 4) hx hb dX7_rememberedAt_34 (by decide) ?_
          subst hB_4
          exact ih_4 (k_4 + 1) (v2_4 ||| ((1 : Int32) <<< ((nI k_4) &&& 31)))  _ _ _ (by omega) hR hP hD hS (lv_sub hl [0, 1, 2, 3] rfl)
  exact LP_4 o_men 0 (0 : Int32)  _ _ _ (by omega) hR hP hD hS (lv_sub hl [0, 1, 2, 3] rfl)

def S_X7_bridge (x1 : Int32) (x2 : Int32) (o_bridges : Nat) (o_men : Nat) (o_day : Int32) (o_lieDay : Nat → Int32) (o_forgets : Nat → Int32) (o_over : Nat → Int32) : Int32 := (if (S_X7_isBridge x1 o_bridges) = 0 then (-1000000001 : Int32) else (if x2 = 0 then (o_forgets x1.toNatClampNeg) else (if x2 = (1 : Int32) then (o_over x1.toNatClampNeg) else (if x2 = (2 : Int32) then (S_X7_rememberedAt x1.toNatClampNeg o_men o_day o_lieDay o_forgets) else (-1000000002 : Int32)))))
set_option maxHeartbeats 4000000 in
set_option maxRecDepth 100000 in
theorem c_X7_bridge (l : Launch) (D : va_G) (tB tI tZ : ClassId) (a_o a_o_forgets a_o_weight a_o_comes a_o_oxWeight a_o_oxPrice a_o_knows a_o_over a_o_named a_o_lieDay a_o_aloneYear a_o_text a_o_readForgets a_o_readWeight a_o_readComes a_o_readKnows a_o_readOx a_o_readPrice a_o_order a_o_orderNames a_o_seenWho a_o_seenNamed a_o_seenLetGo a_o_placeIn a_o_behind a_o_rowWho a_o_rowNames a_o_images a_o_isKept : Nat) (o_year : Int32) (o_bridges : Nat) (o_men : Nat) (o_oxen : Nat) (o_alive : Int32) (o_day : Int32) (o_seed : Int32) (o_texted : Nat) (o_faultPlace : Int32) (o_at0 : Nat) (o_said : Int64) (o_wordEnd : Nat) (o_number : Int32) (o_numberAt : Nat) (o_readYear : Int32) (o_readClauses : Int32) (o_readBridges : Nat) (o_readMen : Nat) (o_readMany : Int32) (o_readOxen : Nat) (o_sights : Nat) (o_rowMany : Nat) (o_lieDay : Nat → Int32) (o_forgets : Nat → Int32) (o_over : Nat → Int32) (x1 : Int32) (x2 : Int32) (hbr : o_bridges ≤ 5) (hmen : o_men ≤ 6) : CT l D (tyL tB tI tZ) yX7_bridge (.code yX7_bridge cX7_bridge 3 (some .int)) 2 46 [.ref a_o, .int x1, .int x2] [(a_o, .inr (7, (.int o_year :: .int (nI o_bridges) :: .ref a_o_forgets :: .int (nI o_men) :: .ref a_o_weight :: .ref a_o_comes :: .int (nI o_oxen) :: .ref a_o_oxWeight :: .ref a_o_oxPrice :: .ref a_o_knows :: .int o_alive :: .int o_day :: .ref a_o_over :: .ref a_o_named :: .ref a_o_lieDay :: .ref a_o_aloneYear :: .int o_seed :: .ref a_o_text :: .int (nI o_texted) :: .int o_faultPlace :: .int (nI o_at0) :: .long o_said :: .int (nI o_wordEnd) :: .int o_number :: .int (nI o_numberAt) :: .int o_readYear :: .int o_readClauses :: .int (nI o_readBridges) :: .ref a_o_readForgets :: .int (nI o_readMen) :: .ref a_o_readWeight :: .ref a_o_readComes :: .int o_readMany :: .ref a_o_readKnows :: .int (nI o_readOxen) :: .ref a_o_readOx :: .ref a_o_readPrice :: .ref a_o_order :: .ref a_o_orderNames :: .int (nI o_sights) :: .ref a_o_seenWho :: .ref a_o_seenNamed :: .ref a_o_seenLetGo :: .ref a_o_placeIn :: .ref a_o_behind :: .int (nI o_rowMany) :: .ref a_o_rowWho :: .ref a_o_rowNames :: .ref a_o_images :: .ref a_o_isKept :: []))), (a_o_lieDay, .inl (tI, 30, .inl o_lieDay)), (a_o_forgets, .inl (tI, 5, .inl o_forgets)), (a_o_over, .inl (tI, 5, .inl o_over))] (fun u : Int32 => some (.int (u))) (fun _ : Int32 => [(a_o, .inr (7, (.int o_year :: .int (nI o_bridges) :: .ref a_o_forgets :: .int (nI o_men) :: .ref a_o_weight :: .ref a_o_comes :: .int (nI o_oxen) :: .ref a_o_oxWeight :: .ref a_o_oxPrice :: .ref a_o_knows :: .int o_alive :: .int o_day :: .ref a_o_over :: .ref a_o_named :: .ref a_o_lieDay :: .ref a_o_aloneYear :: .int o_seed :: .ref a_o_text :: .int (nI o_texted) :: .int o_faultPlace :: .int (nI o_at0) :: .long o_said :: .int (nI o_wordEnd) :: .int o_number :: .int (nI o_numberAt) :: .int o_readYear :: .int o_readClauses :: .int (nI o_readBridges) :: .ref a_o_readForgets :: .int (nI o_readMen) :: .ref a_o_readWeight :: .ref a_o_readComes :: .int o_readMany :: .ref a_o_readKnows :: .int (nI o_readOxen) :: .ref a_o_readOx :: .ref a_o_readPrice :: .ref a_o_order :: .ref a_o_orderNames :: .int (nI o_sights) :: .ref a_o_seenWho :: .ref a_o_seenNamed :: .ref a_o_seenLetGo :: .ref a_o_placeIn :: .ref a_o_behind :: .int (nI o_rowMany) :: .ref a_o_rowWho :: .ref a_o_rowNames :: .ref a_o_images :: .ref a_o_isKept :: []))), (a_o_lieDay, .inl (tI, 30, .inl o_lieDay)), (a_o_forgets, .inl (tI, 5, .inl o_forgets)), (a_o_over, .inl (tI, 5, .inl o_over))]) (S_X7_bridge x1 x2 o_bridges o_men o_day o_lieDay o_forgets o_over) := by
  refine CT.intro (k := 0) (Nat.le_of_ble_eq_true rfl) (by decide) ?_
  intro p e s m below meth c Q A ls E hA hP hD hS hl hF
  obtain ⟨⟨hx, hb, hml, hown, hts⟩, hK⟩ := id E
  generalize hR : S_X7_bridge x1 x2 o_bridges o_men o_day o_lieDay o_forgets o_over = RES at hF
  unfold S_X7_bridge at hR
  have hl : lv_has ls 3 [(0, .ref a_o), (1, .int x1), (2, .int x2)] := hl
  refine lv_aload_n hx hb dX7_bridge_0 rfl (lv_at hl 0 rfl) ?_
  refine lv_iload_n hx hb dX7_bridge_1 rfl (lv_at hl 1 rfl) ?_
  refine kcV E hl.1 (c_X7_isBridge l D tB tI tZ a_o a_o_forgets a_o_weight a_o_comes a_o_oxWeight a_o_oxPrice a_o_knows a_o_over a_o_named a_o_lieDay a_o_aloneYear a_o_text a_o_readForgets a_o_readWeight a_o_readComes a_o_readKnows a_o_readOx a_o_readPrice a_o_order a_o_orderNames a_o_seenWho a_o_seenNamed a_o_seenLetGo a_o_placeIn a_o_behind a_o_rowWho a_o_rowNames a_o_images a_o_isKept o_year o_bridges o_men o_oxen o_alive o_day o_seed o_texted o_faultPlace o_at0 o_said o_wordEnd o_number o_numberAt o_readYear o_readClauses o_readBridges o_readMen o_readMany o_readOxen o_sights o_rowMany x1 ) cv_X7_isBridge wm_X7_241 hP hD hS hA [0] rfl rfl rfl (ws2 := [(a_o, .inr (7, (.int o_year :: .int (nI o_bridges) :: .ref a_o_forgets :: .int (nI o_men) :: .ref a_o_weight :: .ref a_o_comes :: .int (nI o_oxen) :: .ref a_o_oxWeight :: .ref a_o_oxPrice :: .ref a_o_knows :: .int o_alive :: .int o_day :: .ref a_o_over :: .ref a_o_named :: .ref a_o_lieDay :: .ref a_o_aloneYear :: .int o_seed :: .ref a_o_text :: .int (nI o_texted) :: .int o_faultPlace :: .int (nI o_at0) :: .long o_said :: .int (nI o_wordEnd) :: .int o_number :: .int (nI o_numberAt) :: .int o_readYear :: .int o_readClauses :: .int (nI o_readBridges) :: .ref a_o_readForgets :: .int (nI o_readMen) :: .ref a_o_readWeight :: .ref a_o_readComes :: .int o_readMany :: .ref a_o_readKnows :: .int (nI o_readOxen) :: .ref a_o_readOx :: .ref a_o_readPrice :: .ref a_o_order :: .ref a_o_orderNames :: .int (nI o_sights) :: .ref a_o_seenWho :: .ref a_o_seenNamed :: .ref a_o_seenLetGo :: .ref a_o_placeIn :: .ref a_o_behind :: .int (nI o_rowMany) :: .ref a_o_rowWho :: .ref a_o_rowNames :: .ref a_o_images :: .ref a_o_isKept :: []))), (a_o_lieDay, .inl (tI, 30, .inl o_lieDay)), (a_o_forgets, .inl (tI, 5, .inl o_forgets)), (a_o_over, .inl (tI, 5, .inl o_over))]) rfl rfl (b := a_o) (As := [.int x1]) (rest := []) 0 7 rfl rfl rfl rfl (Nat.le_of_ble_eq_true rfl) ⟨Nat.le_of_ble_eq_true rfl, Nat.le_of_ble_eq_true rfl⟩ ⟨Nat.zero_le _, Nat.zero_le _⟩ dX7_bridge_2 (fun H locs hP hD hS => ?_)
  refine lv_if_ne (tgt := 11) hx hb dX7_bridge_5 (by decide) (fun c_1 => ?_) (fun c_1 => ?_)
  · rw [if_neg c_1] at hR
    obtain ⟨fa_c_1, fb_c_1⟩ := isBridge_of c_1 (by omega)
    refine lv_iload_n hx hb dX7_bridge_11 rfl (lv_at hl 2 rfl) ?_
    refine lv_if_ne (tgt := 24) hx hb dX7_bridge_12 (by decide) (fun c_2 => ?_) (fun c_2 => ?_)
    · rw [if_neg c_2] at hR
      refine lv_iload_n hx hb dX7_bridge_24 rfl (lv_at hl 2 rfl) ?_
      refine lv_iconst (v := (1 : Int32)) hx hb dX7_bridge_25 (by decide) ?_
      refine lv_icmp_ne (tgt := 38) hx hb dX7_bridge_26 (by decide) (fun c_3 => ?_) (fun c_3 => ?_)
      · rw [if_neg c_3] at hR
        refine lv_iload_n hx hb dX7_bridge_38 rfl (lv_at hl 2 rfl) ?_
        refine lv_iconst (v := (2 : Int32)) hx hb dX7_bridge_39 (by decide) ?_
        refine lv_icmp_ne (tgt := 51) hx hb dX7_bridge_40 (by decide) (fun c_4 => ?_) (fun c_4 => ?_)
        · rw [if_neg c_4] at hR
          refine lv_ldc hx hb hown (hts _ wk_X7_118) dX7_bridge_51 ?_
          subst hR
          exact (hF _ _ _ _ hP hS).1 _ rfl ⟨.int, rfl, rfl⟩ dX7_bridge_53
        · rw [if_pos c_4] at hR
          refine lv_aload_n hx hb dX7_bridge_43 rfl (lv_at hl 0 rfl) ?_
          refine lv_iload_n hx hb dX7_bridge_44 rfl (lv_at hl 1 rfl) ?_
          refine lv_is fa_c_1 ?_
          refine kcV E hl.1 (c_X7_rememberedAt l D tB tI tZ a_o a_o_forgets a_o_weight a_o_comes a_o_oxWeight a_o_oxPrice a_o_knows a_o_over a_o_named a_o_lieDay a_o_aloneYear a_o_text a_o_readForgets a_o_readWeight a_o_readComes a_o_readKnows a_o_readOx a_o_readPrice a_o_order a_o_orderNames a_o_seenWho a_o_seenNamed a_o_seenLetGo a_o_placeIn a_o_behind a_o_rowWho a_o_rowNames a_o_images a_o_isKept o_year o_bridges o_men o_oxen o_alive o_day o_seed o_texted o_faultPlace o_at0 o_said o_wordEnd o_number o_numberAt o_readYear o_readClauses o_readBridges o_readMen o_readMany o_readOxen o_sights o_rowMany o_lieDay o_forgets x1.toNatClampNeg (show x1.toNatClampNeg < 5 by first | assumption | omega | exact NN.none | exact NN.nat (by omega) (by omega) | exact NN.up (by assumption) (by omega)) (show o_men ≤ 6 by first | assumption | omega | exact NN.none | exact NN.nat (by omega) (by omega) | exact NN.up (by assumption) (by omega))) cv_X7_rememberedAt wm_X7_245 hP hD hS hA [0, 1, 2] rfl rfl rfl (ws2 := [(a_o, .inr (7, (.int o_year :: .int (nI o_bridges) :: .ref a_o_forgets :: .int (nI o_men) :: .ref a_o_weight :: .ref a_o_comes :: .int (nI o_oxen) :: .ref a_o_oxWeight :: .ref a_o_oxPrice :: .ref a_o_knows :: .int o_alive :: .int o_day :: .ref a_o_over :: .ref a_o_named :: .ref a_o_lieDay :: .ref a_o_aloneYear :: .int o_seed :: .ref a_o_text :: .int (nI o_texted) :: .int o_faultPlace :: .int (nI o_at0) :: .long o_said :: .int (nI o_wordEnd) :: .int o_number :: .int (nI o_numberAt) :: .int o_readYear :: .int o_readClauses :: .int (nI o_readBridges) :: .ref a_o_readForgets :: .int (nI o_readMen) :: .ref a_o_readWeight :: .ref a_o_readComes :: .int o_readMany :: .ref a_o_readKnows :: .int (nI o_readOxen) :: .ref a_o_readOx :: .ref a_o_readPrice :: .ref a_o_order :: .ref a_o_orderNames :: .int (nI o_sights) :: .ref a_o_seenWho :: .ref a_o_seenNamed :: .ref a_o_seenLetGo :: .ref a_o_placeIn :: .ref a_o_behind :: .int (nI o_rowMany) :: .ref a_o_rowWho :: .ref a_o_rowNames :: .ref a_o_images :: .ref a_o_isKept :: []))), (a_o_lieDay, .inl (tI, 30, .inl o_lieDay)), (a_o_forgets, .inl (tI, 5, .inl o_forgets)), (a_o_over, .inl (tI, 5, .inl o_over))]) rfl rfl (b := a_o) (As := [.int (nI x1.toNatClampNeg)]) (rest := []) 0 7 rfl rfl rfl rfl (Nat.le_of_ble_eq_true rfl) ⟨Nat.le_of_ble_eq_true rfl, Nat.le_of_ble_eq_true rfl⟩ ⟨Nat.zero_le _, Nat.zero_le _⟩ dX7_bridge_45 (fun H locs hP hD hS => ?_)
          refine lv_goto (tgt := 53) hx hb dX7_bridge_48 (by decide) ?_
          subst hR
          exact (hF _ _ _ _ hP hS).1 _ rfl ⟨.int, rfl, rfl⟩ dX7_bridge_53
      · rw [if_pos c_3] at hR
        refine lv_aload_n hx hb dX7_bridge_29 rfl (lv_at hl 0 rfl) ?_
        refine fget E hP 0 rfl fd_X7_32 (v := .ref a_o_over) rfl dX7_bridge_30 ?_
        refine lv_iload_n hx hb dX7_bridge_33 rfl (lv_at hl 1 rfl) ?_
        refine lv_is fa_c_1 ?_
        refine ild E hP 3 rfl (k := x1.toNatClampNeg) (by omega) (by decide) dX7_bridge_34 ?_
        refine lv_goto (tgt := 53) hx hb dX7_bridge_35 (by decide) ?_
        subst hR
        exact (hF _ _ _ _ hP hS).1 _ rfl ⟨.int, rfl, rfl⟩ dX7_bridge_53
    · rw [if_pos c_2] at hR
      refine lv_aload_n hx hb dX7_bridge_15 rfl (lv_at hl 0 rfl) ?_
      refine fget E hP 0 rfl fd_X7_13 (v := .ref a_o_forgets) rfl dX7_bridge_16 ?_
      refine lv_iload_n hx hb dX7_bridge_19 rfl (lv_at hl 1 rfl) ?_
      refine lv_is fa_c_1 ?_
      refine ild E hP 2 rfl (k := x1.toNatClampNeg) (by omega) (by decide) dX7_bridge_20 ?_
      refine lv_goto (tgt := 53) hx hb dX7_bridge_21 (by decide) ?_
      subst hR
      exact (hF _ _ _ _ hP hS).1 _ rfl ⟨.int, rfl, rfl⟩ dX7_bridge_53
  · rw [if_pos c_1] at hR
    refine lv_ldc hx hb hown (hts _ wk_X7_244) dX7_bridge_8 ?_
    subst hR
    exact (hF _ _ _ _ hP hS).1 _ rfl ⟨.int, rfl, rfl⟩ dX7_bridge_10

def S_X7_man (x1 : Int32) (x2 : Int32) (o_men : Nat) (o_alive : Int32) (o_knows : Nat → Int32) (o_comes : Nat → Int32) (o_weight : Nat → Int32) : Int32 := (if (S_X7_isMan x1 o_men) = 0 then (-1000000001 : Int32) else (if x2 = 0 then (o_weight x1.toNatClampNeg) else (if x2 = (1 : Int32) then (o_comes x1.toNatClampNeg) else (if x2 = (2 : Int32) then ((o_alive >>> ((nI x1.toNatClampNeg) &&& 31)) &&& (1 : Int32)) else (if x2 = (3 : Int32) then (o_knows x1.toNatClampNeg) else (-1000000002 : Int32))))))
set_option maxHeartbeats 4000000 in
set_option maxRecDepth 100000 in
theorem c_X7_man (l : Launch) (D : va_G) (tB tI tZ : ClassId) (a_o a_o_forgets a_o_weight a_o_comes a_o_oxWeight a_o_oxPrice a_o_knows a_o_over a_o_named a_o_lieDay a_o_aloneYear a_o_text a_o_readForgets a_o_readWeight a_o_readComes a_o_readKnows a_o_readOx a_o_readPrice a_o_order a_o_orderNames a_o_seenWho a_o_seenNamed a_o_seenLetGo a_o_placeIn a_o_behind a_o_rowWho a_o_rowNames a_o_images a_o_isKept : Nat) (o_year : Int32) (o_bridges : Nat) (o_men : Nat) (o_oxen : Nat) (o_alive : Int32) (o_day : Int32) (o_seed : Int32) (o_texted : Nat) (o_faultPlace : Int32) (o_at0 : Nat) (o_said : Int64) (o_wordEnd : Nat) (o_number : Int32) (o_numberAt : Nat) (o_readYear : Int32) (o_readClauses : Int32) (o_readBridges : Nat) (o_readMen : Nat) (o_readMany : Int32) (o_readOxen : Nat) (o_sights : Nat) (o_rowMany : Nat) (o_knows : Nat → Int32) (o_comes : Nat → Int32) (o_weight : Nat → Int32) (x1 : Int32) (x2 : Int32) (hmen : o_men ≤ 6) : CT l D (tyL tB tI tZ) yX7_man (.code yX7_man cX7_man 3 (some .int)) 2 46 [.ref a_o, .int x1, .int x2] [(a_o, .inr (7, (.int o_year :: .int (nI o_bridges) :: .ref a_o_forgets :: .int (nI o_men) :: .ref a_o_weight :: .ref a_o_comes :: .int (nI o_oxen) :: .ref a_o_oxWeight :: .ref a_o_oxPrice :: .ref a_o_knows :: .int o_alive :: .int o_day :: .ref a_o_over :: .ref a_o_named :: .ref a_o_lieDay :: .ref a_o_aloneYear :: .int o_seed :: .ref a_o_text :: .int (nI o_texted) :: .int o_faultPlace :: .int (nI o_at0) :: .long o_said :: .int (nI o_wordEnd) :: .int o_number :: .int (nI o_numberAt) :: .int o_readYear :: .int o_readClauses :: .int (nI o_readBridges) :: .ref a_o_readForgets :: .int (nI o_readMen) :: .ref a_o_readWeight :: .ref a_o_readComes :: .int o_readMany :: .ref a_o_readKnows :: .int (nI o_readOxen) :: .ref a_o_readOx :: .ref a_o_readPrice :: .ref a_o_order :: .ref a_o_orderNames :: .int (nI o_sights) :: .ref a_o_seenWho :: .ref a_o_seenNamed :: .ref a_o_seenLetGo :: .ref a_o_placeIn :: .ref a_o_behind :: .int (nI o_rowMany) :: .ref a_o_rowWho :: .ref a_o_rowNames :: .ref a_o_images :: .ref a_o_isKept :: []))), (a_o_knows, .inl (tI, 6, .inl o_knows)), (a_o_comes, .inl (tI, 6, .inl o_comes)), (a_o_weight, .inl (tI, 6, .inl o_weight))] (fun u : Int32 => some (.int (u))) (fun _ : Int32 => [(a_o, .inr (7, (.int o_year :: .int (nI o_bridges) :: .ref a_o_forgets :: .int (nI o_men) :: .ref a_o_weight :: .ref a_o_comes :: .int (nI o_oxen) :: .ref a_o_oxWeight :: .ref a_o_oxPrice :: .ref a_o_knows :: .int o_alive :: .int o_day :: .ref a_o_over :: .ref a_o_named :: .ref a_o_lieDay :: .ref a_o_aloneYear :: .int o_seed :: .ref a_o_text :: .int (nI o_texted) :: .int o_faultPlace :: .int (nI o_at0) :: .long o_said :: .int (nI o_wordEnd) :: .int o_number :: .int (nI o_numberAt) :: .int o_readYear :: .int o_readClauses :: .int (nI o_readBridges) :: .ref a_o_readForgets :: .int (nI o_readMen) :: .ref a_o_readWeight :: .ref a_o_readComes :: .int o_readMany :: .ref a_o_readKnows :: .int (nI o_readOxen) :: .ref a_o_readOx :: .ref a_o_readPrice :: .ref a_o_order :: .ref a_o_orderNames :: .int (nI o_sights) :: .ref a_o_seenWho :: .ref a_o_seenNamed :: .ref a_o_seenLetGo :: .ref a_o_placeIn :: .ref a_o_behind :: .int (nI o_rowMany) :: .ref a_o_rowWho :: .ref a_o_rowNames :: .ref a_o_images :: .ref a_o_isKept :: []))), (a_o_knows, .inl (tI, 6, .inl o_knows)), (a_o_comes, .inl (tI, 6, .inl o_comes)), (a_o_weight, .inl (tI, 6, .inl o_weight))]) (S_X7_man x1 x2 o_men o_alive o_knows o_comes o_weight) := by
  refine CT.intro (k := 0) (Nat.le_of_ble_eq_true rfl) (by decide) ?_
  intro p e s m below meth c Q A ls E hA hP hD hS hl hF
  obtain ⟨⟨hx, hb, hml, hown, hts⟩, hK⟩ := id E
  generalize hR : S_X7_man x1 x2 o_men o_alive o_knows o_comes o_weight = RES at hF
  unfold S_X7_man at hR
  have hl : lv_has ls 3 [(0, .ref a_o), (1, .int x1), (2, .int x2)] := hl
  refine lv_aload_n hx hb dX7_man_0 rfl (lv_at hl 0 rfl) ?_
  refine lv_iload_n hx hb dX7_man_1 rfl (lv_at hl 1 rfl) ?_
  refine kcV E hl.1 (c_X7_isMan l D tB tI tZ a_o a_o_forgets a_o_weight a_o_comes a_o_oxWeight a_o_oxPrice a_o_knows a_o_over a_o_named a_o_lieDay a_o_aloneYear a_o_text a_o_readForgets a_o_readWeight a_o_readComes a_o_readKnows a_o_readOx a_o_readPrice a_o_order a_o_orderNames a_o_seenWho a_o_seenNamed a_o_seenLetGo a_o_placeIn a_o_behind a_o_rowWho a_o_rowNames a_o_images a_o_isKept o_year o_bridges o_men o_oxen o_alive o_day o_seed o_texted o_faultPlace o_at0 o_said o_wordEnd o_number o_numberAt o_readYear o_readClauses o_readBridges o_readMen o_readMany o_readOxen o_sights o_rowMany x1 ) cv_X7_isMan wm_X7_112 hP hD hS hA [0] rfl rfl rfl (ws2 := [(a_o, .inr (7, (.int o_year :: .int (nI o_bridges) :: .ref a_o_forgets :: .int (nI o_men) :: .ref a_o_weight :: .ref a_o_comes :: .int (nI o_oxen) :: .ref a_o_oxWeight :: .ref a_o_oxPrice :: .ref a_o_knows :: .int o_alive :: .int o_day :: .ref a_o_over :: .ref a_o_named :: .ref a_o_lieDay :: .ref a_o_aloneYear :: .int o_seed :: .ref a_o_text :: .int (nI o_texted) :: .int o_faultPlace :: .int (nI o_at0) :: .long o_said :: .int (nI o_wordEnd) :: .int o_number :: .int (nI o_numberAt) :: .int o_readYear :: .int o_readClauses :: .int (nI o_readBridges) :: .ref a_o_readForgets :: .int (nI o_readMen) :: .ref a_o_readWeight :: .ref a_o_readComes :: .int o_readMany :: .ref a_o_readKnows :: .int (nI o_readOxen) :: .ref a_o_readOx :: .ref a_o_readPrice :: .ref a_o_order :: .ref a_o_orderNames :: .int (nI o_sights) :: .ref a_o_seenWho :: .ref a_o_seenNamed :: .ref a_o_seenLetGo :: .ref a_o_placeIn :: .ref a_o_behind :: .int (nI o_rowMany) :: .ref a_o_rowWho :: .ref a_o_rowNames :: .ref a_o_images :: .ref a_o_isKept :: []))), (a_o_knows, .inl (tI, 6, .inl o_knows)), (a_o_comes, .inl (tI, 6, .inl o_comes)), (a_o_weight, .inl (tI, 6, .inl o_weight))]) rfl rfl (b := a_o) (As := [.int x1]) (rest := []) 0 7 rfl rfl rfl rfl (Nat.le_of_ble_eq_true rfl) ⟨Nat.le_of_ble_eq_true rfl, Nat.le_of_ble_eq_true rfl⟩ ⟨Nat.zero_le _, Nat.zero_le _⟩ dX7_man_2 (fun H locs hP hD hS => ?_)
  refine lv_if_ne (tgt := 11) hx hb dX7_man_5 (by decide) (fun c_1 => ?_) (fun c_1 => ?_)
  · rw [if_neg c_1] at hR
    obtain ⟨fa_c_1, fb_c_1⟩ := isMan_of c_1 (by omega)
    refine lv_iload_n hx hb dX7_man_11 rfl (lv_at hl 2 rfl) ?_
    refine lv_if_ne (tgt := 24) hx hb dX7_man_12 (by decide) (fun c_2 => ?_) (fun c_2 => ?_)
    · rw [if_neg c_2] at hR
      refine lv_iload_n hx hb dX7_man_24 rfl (lv_at hl 2 rfl) ?_
      refine lv_iconst (v := (1 : Int32)) hx hb dX7_man_25 (by decide) ?_
      refine lv_icmp_ne (tgt := 38) hx hb dX7_man_26 (by decide) (fun c_3 => ?_) (fun c_3 => ?_)
      · rw [if_neg c_3] at hR
        refine lv_iload_n hx hb dX7_man_38 rfl (lv_at hl 2 rfl) ?_
        refine lv_iconst (v := (2 : Int32)) hx hb dX7_man_39 (by decide) ?_
        refine lv_icmp_ne (tgt := 54) hx hb dX7_man_40 (by decide) (fun c_4 => ?_) (fun c_4 => ?_)
        · rw [if_neg c_4] at hR
          refine lv_iload_n hx hb dX7_man_54 rfl (lv_at hl 2 rfl) ?_
          refine lv_iconst (v := (3 : Int32)) hx hb dX7_man_55 (by decide) ?_
          refine lv_icmp_ne (tgt := 68) hx hb dX7_man_56 (by decide) (fun c_5 => ?_) (fun c_5 => ?_)
          · rw [if_neg c_5] at hR
            refine lv_ldc hx hb hown (hts _ wk_X7_118) dX7_man_68 ?_
            subst hR
            exact (hF _ _ _ _ hP hS).1 _ rfl ⟨.int, rfl, rfl⟩ dX7_man_70
          · rw [if_pos c_5] at hR
            refine lv_aload_n hx hb dX7_man_59 rfl (lv_at hl 0 rfl) ?_
            refine fget E hP 0 rfl fd_X7_29 (v := .ref a_o_knows) rfl dX7_man_60 ?_
            refine lv_iload_n hx hb dX7_man_63 rfl (lv_at hl 1 rfl) ?_
            refine lv_is fa_c_1 ?_
            refine ild E hP 1 rfl (k := x1.toNatClampNeg) (by omega) (by decide) dX7_man_64 ?_
            refine lv_goto (tgt := 70) hx hb dX7_man_65 (by decide) ?_
            subst hR
            exact (hF _ _ _ _ hP hS).1 _ rfl ⟨.int, rfl, rfl⟩ dX7_man_70
        · rw [if_pos c_4] at hR
          refine lv_aload_n hx hb dX7_man_43 rfl (lv_at hl 0 rfl) ?_
          refine fget E hP 0 rfl fd_X7_226 (v := .int o_alive) rfl dX7_man_44 ?_
          refine lv_iload_n hx hb dX7_man_47 rfl (lv_at hl 1 rfl) ?_
          refine lv_is fa_c_1 ?_
          refine lv_ishr hx hb dX7_man_48 ?_
          refine lv_iconst (v := (1 : Int32)) hx hb dX7_man_49 (by decide) ?_
          refine lv_iand hx hb dX7_man_50 ?_
          refine lv_goto (tgt := 70) hx hb dX7_man_51 (by decide) ?_
          subst hR
          exact (hF _ _ _ _ hP hS).1 _ rfl ⟨.int, rfl, rfl⟩ dX7_man_70
      · rw [if_pos c_3] at hR
        refine lv_aload_n hx hb dX7_man_29 rfl (lv_at hl 0 rfl) ?_
        refine fget E hP 0 rfl fd_X7_20 (v := .ref a_o_comes) rfl dX7_man_30 ?_
        refine lv_iload_n hx hb dX7_man_33 rfl (lv_at hl 1 rfl) ?_
        refine lv_is fa_c_1 ?_
        refine ild E hP 2 rfl (k := x1.toNatClampNeg) (by omega) (by decide) dX7_man_34 ?_
        refine lv_goto (tgt := 70) hx hb dX7_man_35 (by decide) ?_
        subst hR
        exact (hF _ _ _ _ hP hS).1 _ rfl ⟨.int, rfl, rfl⟩ dX7_man_70
    · rw [if_pos c_2] at hR
      refine lv_aload_n hx hb dX7_man_15 rfl (lv_at hl 0 rfl) ?_
      refine fget E hP 0 rfl fd_X7_17 (v := .ref a_o_weight) rfl dX7_man_16 ?_
      refine lv_iload_n hx hb dX7_man_19 rfl (lv_at hl 1 rfl) ?_
      refine lv_is fa_c_1 ?_
      refine ild E hP 3 rfl (k := x1.toNatClampNeg) (by omega) (by decide) dX7_man_20 ?_
      refine lv_goto (tgt := 70) hx hb dX7_man_21 (by decide) ?_
      subst hR
      exact (hF _ _ _ _ hP hS).1 _ rfl ⟨.int, rfl, rfl⟩ dX7_man_70
  · rw [if_pos c_1] at hR
    refine lv_ldc hx hb hown (hts _ wk_X7_244) dX7_man_8 ?_
    subst hR
    exact (hF _ _ _ _ hP hS).1 _ rfl ⟨.int, rfl, rfl⟩ dX7_man_10

def S_X7_ox (x1 : Int32) (x2 : Int32) (o_oxen : Nat) (o_oxPrice : Nat → Int32) (o_oxWeight : Nat → Int32) : Int32 := (if (S_X7_in (x1.toInt64) (0 : Int64) (((nI o_oxen) - (1 : Int32)).toInt64)) = 0 then (-1000000001 : Int32) else (if x2 = 0 then (o_oxWeight x1.toNatClampNeg) else (if x2 = (1 : Int32) then (o_oxPrice x1.toNatClampNeg) else (-1000000002 : Int32))))
set_option maxHeartbeats 4000000 in
set_option maxRecDepth 100000 in
theorem c_X7_ox (l : Launch) (D : va_G) (tB tI tZ : ClassId) (a_o a_o_forgets a_o_weight a_o_comes a_o_oxWeight a_o_oxPrice a_o_knows a_o_over a_o_named a_o_lieDay a_o_aloneYear a_o_text a_o_readForgets a_o_readWeight a_o_readComes a_o_readKnows a_o_readOx a_o_readPrice a_o_order a_o_orderNames a_o_seenWho a_o_seenNamed a_o_seenLetGo a_o_placeIn a_o_behind a_o_rowWho a_o_rowNames a_o_images a_o_isKept : Nat) (o_year : Int32) (o_bridges : Nat) (o_men : Nat) (o_oxen : Nat) (o_alive : Int32) (o_day : Int32) (o_seed : Int32) (o_texted : Nat) (o_faultPlace : Int32) (o_at0 : Nat) (o_said : Int64) (o_wordEnd : Nat) (o_number : Int32) (o_numberAt : Nat) (o_readYear : Int32) (o_readClauses : Int32) (o_readBridges : Nat) (o_readMen : Nat) (o_readMany : Int32) (o_readOxen : Nat) (o_sights : Nat) (o_rowMany : Nat) (o_oxPrice : Nat → Int32) (o_oxWeight : Nat → Int32) (x1 : Int32) (x2 : Int32) (hox : o_oxen ≤ 5) : CT l D (tyL tB tI tZ) yX7_ox (.code yX7_ox cX7_ox 3 (some .int)) 1 25 [.ref a_o, .int x1, .int x2] [(a_o, .inr (7, (.int o_year :: .int (nI o_bridges) :: .ref a_o_forgets :: .int (nI o_men) :: .ref a_o_weight :: .ref a_o_comes :: .int (nI o_oxen) :: .ref a_o_oxWeight :: .ref a_o_oxPrice :: .ref a_o_knows :: .int o_alive :: .int o_day :: .ref a_o_over :: .ref a_o_named :: .ref a_o_lieDay :: .ref a_o_aloneYear :: .int o_seed :: .ref a_o_text :: .int (nI o_texted) :: .int o_faultPlace :: .int (nI o_at0) :: .long o_said :: .int (nI o_wordEnd) :: .int o_number :: .int (nI o_numberAt) :: .int o_readYear :: .int o_readClauses :: .int (nI o_readBridges) :: .ref a_o_readForgets :: .int (nI o_readMen) :: .ref a_o_readWeight :: .ref a_o_readComes :: .int o_readMany :: .ref a_o_readKnows :: .int (nI o_readOxen) :: .ref a_o_readOx :: .ref a_o_readPrice :: .ref a_o_order :: .ref a_o_orderNames :: .int (nI o_sights) :: .ref a_o_seenWho :: .ref a_o_seenNamed :: .ref a_o_seenLetGo :: .ref a_o_placeIn :: .ref a_o_behind :: .int (nI o_rowMany) :: .ref a_o_rowWho :: .ref a_o_rowNames :: .ref a_o_images :: .ref a_o_isKept :: []))), (a_o_oxPrice, .inl (tI, 5, .inl o_oxPrice)), (a_o_oxWeight, .inl (tI, 5, .inl o_oxWeight))] (fun u : Int32 => some (.int (u))) (fun _ : Int32 => [(a_o, .inr (7, (.int o_year :: .int (nI o_bridges) :: .ref a_o_forgets :: .int (nI o_men) :: .ref a_o_weight :: .ref a_o_comes :: .int (nI o_oxen) :: .ref a_o_oxWeight :: .ref a_o_oxPrice :: .ref a_o_knows :: .int o_alive :: .int o_day :: .ref a_o_over :: .ref a_o_named :: .ref a_o_lieDay :: .ref a_o_aloneYear :: .int o_seed :: .ref a_o_text :: .int (nI o_texted) :: .int o_faultPlace :: .int (nI o_at0) :: .long o_said :: .int (nI o_wordEnd) :: .int o_number :: .int (nI o_numberAt) :: .int o_readYear :: .int o_readClauses :: .int (nI o_readBridges) :: .ref a_o_readForgets :: .int (nI o_readMen) :: .ref a_o_readWeight :: .ref a_o_readComes :: .int o_readMany :: .ref a_o_readKnows :: .int (nI o_readOxen) :: .ref a_o_readOx :: .ref a_o_readPrice :: .ref a_o_order :: .ref a_o_orderNames :: .int (nI o_sights) :: .ref a_o_seenWho :: .ref a_o_seenNamed :: .ref a_o_seenLetGo :: .ref a_o_placeIn :: .ref a_o_behind :: .int (nI o_rowMany) :: .ref a_o_rowWho :: .ref a_o_rowNames :: .ref a_o_images :: .ref a_o_isKept :: []))), (a_o_oxPrice, .inl (tI, 5, .inl o_oxPrice)), (a_o_oxWeight, .inl (tI, 5, .inl o_oxWeight))]) (S_X7_ox x1 x2 o_oxen o_oxPrice o_oxWeight) := by
  refine CT.intro (k := 0) (Nat.le_of_ble_eq_true rfl) (by decide) ?_
  intro p e s m below meth c Q A ls E hA hP hD hS hl hF
  obtain ⟨⟨hx, hb, hml, hown, hts⟩, hK⟩ := id E
  generalize hR : S_X7_ox x1 x2 o_oxen o_oxPrice o_oxWeight = RES at hF
  unfold S_X7_ox at hR
  have hl : lv_has ls 3 [(0, .ref a_o), (1, .int x1), (2, .int x2)] := hl
  refine lv_iload_n hx hb dX7_ox_0 rfl (lv_at hl 1 rfl) ?_
  refine lv_i2l (v := (x1.toInt64)) hx hb dX7_ox_1 rfl ?_
  refine lv_lconst (v := (0 : Int64)) hx hb dX7_ox_2 (by decide) ?_
  refine lv_aload_n hx hb dX7_ox_3 rfl (lv_at hl 0 rfl) ?_
  refine fget E hP 0 rfl fd_X7_223 (v := .int (nI o_oxen)) rfl dX7_ox_4 ?_
  refine lv_iconst (v := (1 : Int32)) hx hb dX7_ox_7 (by decide) ?_
  refine lv_isub hx hb dX7_ox_8 ?_
  refine lv_i2l (v := (((nI o_oxen) - (1 : Int32)).toInt64)) hx hb dX7_ox_9 rfl ?_
  refine kcS E hl.1 (c_X7_in l D tB tI tZ (x1.toInt64) (0 : Int64) (((nI o_oxen) - (1 : Int32)).toInt64) ) cs_X7_in wm_X7_108 hP hD hS hA [] rfl rfl rfl (ws2 := [(a_o, .inr (7, (.int o_year :: .int (nI o_bridges) :: .ref a_o_forgets :: .int (nI o_men) :: .ref a_o_weight :: .ref a_o_comes :: .int (nI o_oxen) :: .ref a_o_oxWeight :: .ref a_o_oxPrice :: .ref a_o_knows :: .int o_alive :: .int o_day :: .ref a_o_over :: .ref a_o_named :: .ref a_o_lieDay :: .ref a_o_aloneYear :: .int o_seed :: .ref a_o_text :: .int (nI o_texted) :: .int o_faultPlace :: .int (nI o_at0) :: .long o_said :: .int (nI o_wordEnd) :: .int o_number :: .int (nI o_numberAt) :: .int o_readYear :: .int o_readClauses :: .int (nI o_readBridges) :: .ref a_o_readForgets :: .int (nI o_readMen) :: .ref a_o_readWeight :: .ref a_o_readComes :: .int o_readMany :: .ref a_o_readKnows :: .int (nI o_readOxen) :: .ref a_o_readOx :: .ref a_o_readPrice :: .ref a_o_order :: .ref a_o_orderNames :: .int (nI o_sights) :: .ref a_o_seenWho :: .ref a_o_seenNamed :: .ref a_o_seenLetGo :: .ref a_o_placeIn :: .ref a_o_behind :: .int (nI o_rowMany) :: .ref a_o_rowWho :: .ref a_o_rowNames :: .ref a_o_images :: .ref a_o_isKept :: []))), (a_o_oxPrice, .inl (tI, 5, .inl o_oxPrice)), (a_o_oxWeight, .inl (tI, 5, .inl o_oxWeight))]) rfl rfl (As := [.long (x1.toInt64), .long (0 : Int64), .long (((nI o_oxen) - (1 : Int32)).toInt64)]) (rest := []) rfl rfl (Nat.le_of_ble_eq_true rfl) ⟨Nat.le_of_ble_eq_true rfl, Nat.le_of_ble_eq_true rfl⟩ ⟨Nat.zero_le _, Nat.zero_le _⟩ dX7_ox_10 (fun H locs hP hD hS => ?_)
  refine lv_if_ne (tgt := 19) hx hb dX7_ox_13 (by decide) (fun c_1 => ?_) (fun c_1 => ?_)
  · rw [if_neg c_1] at hR
    obtain ⟨fx1, fx2⟩ := inB_of c_1 (by omega)
    refine lv_iload_n hx hb dX7_ox_19 rfl (lv_at hl 2 rfl) ?_
    refine lv_if_ne (tgt := 32) hx hb dX7_ox_20 (by decide) (fun c_2 => ?_) (fun c_2 => ?_)
    · rw [if_neg c_2] at hR
      refine lv_iload_n hx hb dX7_ox_32 rfl (lv_at hl 2 rfl) ?_
      refine lv_iconst (v := (1 : Int32)) hx hb dX7_ox_33 (by decide) ?_
      refine lv_icmp_ne (tgt := 46) hx hb dX7_ox_34 (by decide) (fun c_3 => ?_) (fun c_3 => ?_)
      · rw [if_neg c_3] at hR
        refine lv_ldc hx hb hown (hts _ wk_X7_118) dX7_ox_46 ?_
        subst hR
        exact (hF _ _ _ _ hP hS).1 _ rfl ⟨.int, rfl, rfl⟩ dX7_ox_48
      · rw [if_pos c_3] at hR
        refine lv_aload_n hx hb dX7_ox_37 rfl (lv_at hl 0 rfl) ?_
        refine fget E hP 0 rfl fd_X7_26 (v := .ref a_o_oxPrice) rfl dX7_ox_38 ?_
        refine lv_iload_n hx hb dX7_ox_41 rfl (lv_at hl 1 rfl) ?_
        refine lv_is fx1 ?_
        refine ild E hP 1 rfl (k := x1.toNatClampNeg) (by omega) (by decide) dX7_ox_42 ?_
        refine lv_goto (tgt := 48) hx hb dX7_ox_43 (by decide) ?_
        subst hR
        exact (hF _ _ _ _ hP hS).1 _ rfl ⟨.int, rfl, rfl⟩ dX7_ox_48
    · rw [if_pos c_2] at hR
      refine lv_aload_n hx hb dX7_ox_23 rfl (lv_at hl 0 rfl) ?_
      refine fget E hP 0 rfl fd_X7_23 (v := .ref a_o_oxWeight) rfl dX7_ox_24 ?_
      refine lv_iload_n hx hb dX7_ox_27 rfl (lv_at hl 1 rfl) ?_
      refine lv_is fx1 ?_
      refine ild E hP 2 rfl (k := x1.toNatClampNeg) (by omega) (by decide) dX7_ox_28 ?_
      refine lv_goto (tgt := 48) hx hb dX7_ox_29 (by decide) ?_
      subst hR
      exact (hF _ _ _ _ hP hS).1 _ rfl ⟨.int, rfl, rfl⟩ dX7_ox_48
  · rw [if_pos c_1] at hR
    refine lv_ldc hx hb hown (hts _ wk_X7_244) dX7_ox_16 ?_
    subst hR
    exact (hF _ _ _ _ hP hS).1 _ rfl ⟨.int, rfl, rfl⟩ dX7_ox_18

def S_X7_named (x1 : Int32) (x2 : Int32) (o_bridges : Nat) (o_men : Nat) (o_over : Nat → Int32) (o_named : Nat → Int32) : Int32 := (if (S_X7_isBridge x1 o_bridges) = 0 then (-1000000001 : Int32) else (if (S_X7_isMan x2 o_men) = 0 then (-1000000001 : Int32) else (if (S_X7_has (o_over x1.toNatClampNeg) (nI x2.toNatClampNeg)) = 0 then (-1000000003 : Int32) else (o_named ((6 * x1.toNatClampNeg) + x2.toNatClampNeg)))))
set_option maxHeartbeats 4000000 in
set_option maxRecDepth 100000 in
theorem c_X7_named (l : Launch) (D : va_G) (tB tI tZ : ClassId) (a_o a_o_forgets a_o_weight a_o_comes a_o_oxWeight a_o_oxPrice a_o_knows a_o_over a_o_named a_o_lieDay a_o_aloneYear a_o_text a_o_readForgets a_o_readWeight a_o_readComes a_o_readKnows a_o_readOx a_o_readPrice a_o_order a_o_orderNames a_o_seenWho a_o_seenNamed a_o_seenLetGo a_o_placeIn a_o_behind a_o_rowWho a_o_rowNames a_o_images a_o_isKept : Nat) (o_year : Int32) (o_bridges : Nat) (o_men : Nat) (o_oxen : Nat) (o_alive : Int32) (o_day : Int32) (o_seed : Int32) (o_texted : Nat) (o_faultPlace : Int32) (o_at0 : Nat) (o_said : Int64) (o_wordEnd : Nat) (o_number : Int32) (o_numberAt : Nat) (o_readYear : Int32) (o_readClauses : Int32) (o_readBridges : Nat) (o_readMen : Nat) (o_readMany : Int32) (o_readOxen : Nat) (o_sights : Nat) (o_rowMany : Nat) (o_over : Nat → Int32) (o_named : Nat → Int32) (x1 : Int32) (x2 : Int32) (hbr : o_bridges ≤ 5) (hmen : o_men ≤ 6) : CT l D (tyL tB tI tZ) yX7_named (.code yX7_named cX7_named 3 (some .int)) 2 46 [.ref a_o, .int x1, .int x2] [(a_o, .inr (7, (.int o_year :: .int (nI o_bridges) :: .ref a_o_forgets :: .int (nI o_men) :: .ref a_o_weight :: .ref a_o_comes :: .int (nI o_oxen) :: .ref a_o_oxWeight :: .ref a_o_oxPrice :: .ref a_o_knows :: .int o_alive :: .int o_day :: .ref a_o_over :: .ref a_o_named :: .ref a_o_lieDay :: .ref a_o_aloneYear :: .int o_seed :: .ref a_o_text :: .int (nI o_texted) :: .int o_faultPlace :: .int (nI o_at0) :: .long o_said :: .int (nI o_wordEnd) :: .int o_number :: .int (nI o_numberAt) :: .int o_readYear :: .int o_readClauses :: .int (nI o_readBridges) :: .ref a_o_readForgets :: .int (nI o_readMen) :: .ref a_o_readWeight :: .ref a_o_readComes :: .int o_readMany :: .ref a_o_readKnows :: .int (nI o_readOxen) :: .ref a_o_readOx :: .ref a_o_readPrice :: .ref a_o_order :: .ref a_o_orderNames :: .int (nI o_sights) :: .ref a_o_seenWho :: .ref a_o_seenNamed :: .ref a_o_seenLetGo :: .ref a_o_placeIn :: .ref a_o_behind :: .int (nI o_rowMany) :: .ref a_o_rowWho :: .ref a_o_rowNames :: .ref a_o_images :: .ref a_o_isKept :: []))), (a_o_over, .inl (tI, 5, .inl o_over)), (a_o_named, .inl (tI, 30, .inl o_named))] (fun u : Int32 => some (.int (u))) (fun _ : Int32 => [(a_o, .inr (7, (.int o_year :: .int (nI o_bridges) :: .ref a_o_forgets :: .int (nI o_men) :: .ref a_o_weight :: .ref a_o_comes :: .int (nI o_oxen) :: .ref a_o_oxWeight :: .ref a_o_oxPrice :: .ref a_o_knows :: .int o_alive :: .int o_day :: .ref a_o_over :: .ref a_o_named :: .ref a_o_lieDay :: .ref a_o_aloneYear :: .int o_seed :: .ref a_o_text :: .int (nI o_texted) :: .int o_faultPlace :: .int (nI o_at0) :: .long o_said :: .int (nI o_wordEnd) :: .int o_number :: .int (nI o_numberAt) :: .int o_readYear :: .int o_readClauses :: .int (nI o_readBridges) :: .ref a_o_readForgets :: .int (nI o_readMen) :: .ref a_o_readWeight :: .ref a_o_readComes :: .int o_readMany :: .ref a_o_readKnows :: .int (nI o_readOxen) :: .ref a_o_readOx :: .ref a_o_readPrice :: .ref a_o_order :: .ref a_o_orderNames :: .int (nI o_sights) :: .ref a_o_seenWho :: .ref a_o_seenNamed :: .ref a_o_seenLetGo :: .ref a_o_placeIn :: .ref a_o_behind :: .int (nI o_rowMany) :: .ref a_o_rowWho :: .ref a_o_rowNames :: .ref a_o_images :: .ref a_o_isKept :: []))), (a_o_over, .inl (tI, 5, .inl o_over)), (a_o_named, .inl (tI, 30, .inl o_named))]) (S_X7_named x1 x2 o_bridges o_men o_over o_named) := by
  refine CT.intro (k := 0) (Nat.le_of_ble_eq_true rfl) (by decide) ?_
  intro p e s m below meth c Q A ls E hA hP hD hS hl hF
  obtain ⟨⟨hx, hb, hml, hown, hts⟩, hK⟩ := id E
  generalize hR : S_X7_named x1 x2 o_bridges o_men o_over o_named = RES at hF
  unfold S_X7_named at hR
  have hl : lv_has ls 3 [(0, .ref a_o), (1, .int x1), (2, .int x2)] := hl
  refine lv_aload_n hx hb dX7_named_0 rfl (lv_at hl 0 rfl) ?_
  refine lv_iload_n hx hb dX7_named_1 rfl (lv_at hl 1 rfl) ?_
  refine kcV E hl.1 (c_X7_isBridge l D tB tI tZ a_o a_o_forgets a_o_weight a_o_comes a_o_oxWeight a_o_oxPrice a_o_knows a_o_over a_o_named a_o_lieDay a_o_aloneYear a_o_text a_o_readForgets a_o_readWeight a_o_readComes a_o_readKnows a_o_readOx a_o_readPrice a_o_order a_o_orderNames a_o_seenWho a_o_seenNamed a_o_seenLetGo a_o_placeIn a_o_behind a_o_rowWho a_o_rowNames a_o_images a_o_isKept o_year o_bridges o_men o_oxen o_alive o_day o_seed o_texted o_faultPlace o_at0 o_said o_wordEnd o_number o_numberAt o_readYear o_readClauses o_readBridges o_readMen o_readMany o_readOxen o_sights o_rowMany x1 ) cv_X7_isBridge wm_X7_241 hP hD hS hA [0] rfl rfl rfl (ws2 := [(a_o, .inr (7, (.int o_year :: .int (nI o_bridges) :: .ref a_o_forgets :: .int (nI o_men) :: .ref a_o_weight :: .ref a_o_comes :: .int (nI o_oxen) :: .ref a_o_oxWeight :: .ref a_o_oxPrice :: .ref a_o_knows :: .int o_alive :: .int o_day :: .ref a_o_over :: .ref a_o_named :: .ref a_o_lieDay :: .ref a_o_aloneYear :: .int o_seed :: .ref a_o_text :: .int (nI o_texted) :: .int o_faultPlace :: .int (nI o_at0) :: .long o_said :: .int (nI o_wordEnd) :: .int o_number :: .int (nI o_numberAt) :: .int o_readYear :: .int o_readClauses :: .int (nI o_readBridges) :: .ref a_o_readForgets :: .int (nI o_readMen) :: .ref a_o_readWeight :: .ref a_o_readComes :: .int o_readMany :: .ref a_o_readKnows :: .int (nI o_readOxen) :: .ref a_o_readOx :: .ref a_o_readPrice :: .ref a_o_order :: .ref a_o_orderNames :: .int (nI o_sights) :: .ref a_o_seenWho :: .ref a_o_seenNamed :: .ref a_o_seenLetGo :: .ref a_o_placeIn :: .ref a_o_behind :: .int (nI o_rowMany) :: .ref a_o_rowWho :: .ref a_o_rowNames :: .ref a_o_images :: .ref a_o_isKept :: []))), (a_o_over, .inl (tI, 5, .inl o_over)), (a_o_named, .inl (tI, 30, .inl o_named))]) rfl rfl (b := a_o) (As := [.int x1]) (rest := []) 0 7 rfl rfl rfl rfl (Nat.le_of_ble_eq_true rfl) ⟨Nat.le_of_ble_eq_true rfl, Nat.le_of_ble_eq_true rfl⟩ ⟨Nat.zero_le _, Nat.zero_le _⟩ dX7_named_2 (fun H locs hP hD hS => ?_)
  refine lv_if_eq (tgt := 16) hx hb dX7_named_5 (by decide) (fun c_1 => ?_) (fun c_1 => ?_)
  · rw [if_pos c_1] at hR
    refine lv_ldc hx hb hown (hts _ wk_X7_244) dX7_named_16 ?_
    subst hR
    exact (hF _ _ _ _ hP hS).1 _ rfl ⟨.int, rfl, rfl⟩ dX7_named_18
  · rw [if_neg c_1] at hR
    obtain ⟨fa_c_1, fb_c_1⟩ := isBridge_of c_1 (by omega)
    refine lv_aload_n hx hb dX7_named_8 rfl (lv_at hl 0 rfl) ?_
    refine lv_iload_n hx hb dX7_named_9 rfl (lv_at hl 2 rfl) ?_
    refine kcV E hl.1 (c_X7_isMan l D tB tI tZ a_o a_o_forgets a_o_weight a_o_comes a_o_oxWeight a_o_oxPrice a_o_knows a_o_over a_o_named a_o_lieDay a_o_aloneYear a_o_text a_o_readForgets a_o_readWeight a_o_readComes a_o_readKnows a_o_readOx a_o_readPrice a_o_order a_o_orderNames a_o_seenWho a_o_seenNamed a_o_seenLetGo a_o_placeIn a_o_behind a_o_rowWho a_o_rowNames a_o_images a_o_isKept o_year o_bridges o_men o_oxen o_alive o_day o_seed o_texted o_faultPlace o_at0 o_said o_wordEnd o_number o_numberAt o_readYear o_readClauses o_readBridges o_readMen o_readMany o_readOxen o_sights o_rowMany x2 ) cv_X7_isMan wm_X7_112 hP hD hS hA [0] rfl rfl rfl (ws2 := [(a_o, .inr (7, (.int o_year :: .int (nI o_bridges) :: .ref a_o_forgets :: .int (nI o_men) :: .ref a_o_weight :: .ref a_o_comes :: .int (nI o_oxen) :: .ref a_o_oxWeight :: .ref a_o_oxPrice :: .ref a_o_knows :: .int o_alive :: .int o_day :: .ref a_o_over :: .ref a_o_named :: .ref a_o_lieDay :: .ref a_o_aloneYear :: .int o_seed :: .ref a_o_text :: .int (nI o_texted) :: .int o_faultPlace :: .int (nI o_at0) :: .long o_said :: .int (nI o_wordEnd) :: .int o_number :: .int (nI o_numberAt) :: .int o_readYear :: .int o_readClauses :: .int (nI o_readBridges) :: .ref a_o_readForgets :: .int (nI o_readMen) :: .ref a_o_readWeight :: .ref a_o_readComes :: .int o_readMany :: .ref a_o_readKnows :: .int (nI o_readOxen) :: .ref a_o_readOx :: .ref a_o_readPrice :: .ref a_o_order :: .ref a_o_orderNames :: .int (nI o_sights) :: .ref a_o_seenWho :: .ref a_o_seenNamed :: .ref a_o_seenLetGo :: .ref a_o_placeIn :: .ref a_o_behind :: .int (nI o_rowMany) :: .ref a_o_rowWho :: .ref a_o_rowNames :: .ref a_o_images :: .ref a_o_isKept :: []))), (a_o_over, .inl (tI, 5, .inl o_over)), (a_o_named, .inl (tI, 30, .inl o_named))]) rfl rfl (b := a_o) (As := [.int x2]) (rest := []) 0 7 rfl rfl rfl rfl (Nat.le_of_ble_eq_true rfl) ⟨Nat.le_of_ble_eq_true rfl, Nat.le_of_ble_eq_true rfl⟩ ⟨Nat.zero_le _, Nat.zero_le _⟩ dX7_named_10 (fun H locs hP hD hS => ?_)
    refine lv_if_ne (tgt := 19) hx hb dX7_named_13 (by decide) (fun c_2 => ?_) (fun c_2 => ?_)
    · rw [if_neg c_2] at hR
      obtain ⟨fa_c_2, fb_c_2⟩ := isMan_of c_2 (by omega)
      refine lv_aload_n hx hb dX7_named_19 rfl (lv_at hl 0 rfl) ?_
      refine fget E hP 0 rfl fd_X7_32 (v := .ref a_o_over) rfl dX7_named_20 ?_
      refine lv_iload_n hx hb dX7_named_23 rfl (lv_at hl 1 rfl) ?_
      refine lv_is fa_c_1 ?_
      refine ild E hP 1 rfl (k := x1.toNatClampNeg) (by omega) (by decide) dX7_named_24 ?_
      refine lv_iload_n hx hb dX7_named_25 rfl (lv_at hl 2 rfl) ?_
      refine lv_is fa_c_2 ?_
      refine kcS E hl.1 (c_X7_has l D tB tI tZ (o_over x1.toNatClampNeg) (nI x2.toNatClampNeg) ) cs_X7_has wm_X7_184 hP hD hS hA [] rfl rfl rfl (ws2 := [(a_o, .inr (7, (.int o_year :: .int (nI o_bridges) :: .ref a_o_forgets :: .int (nI o_men) :: .ref a_o_weight :: .ref a_o_comes :: .int (nI o_oxen) :: .ref a_o_oxWeight :: .ref a_o_oxPrice :: .ref a_o_knows :: .int o_alive :: .int o_day :: .ref a_o_over :: .ref a_o_named :: .ref a_o_lieDay :: .ref a_o_aloneYear :: .int o_seed :: .ref a_o_text :: .int (nI o_texted) :: .int o_faultPlace :: .int (nI o_at0) :: .long o_said :: .int (nI o_wordEnd) :: .int o_number :: .int (nI o_numberAt) :: .int o_readYear :: .int o_readClauses :: .int (nI o_readBridges) :: .ref a_o_readForgets :: .int (nI o_readMen) :: .ref a_o_readWeight :: .ref a_o_readComes :: .int o_readMany :: .ref a_o_readKnows :: .int (nI o_readOxen) :: .ref a_o_readOx :: .ref a_o_readPrice :: .ref a_o_order :: .ref a_o_orderNames :: .int (nI o_sights) :: .ref a_o_seenWho :: .ref a_o_seenNamed :: .ref a_o_seenLetGo :: .ref a_o_placeIn :: .ref a_o_behind :: .int (nI o_rowMany) :: .ref a_o_rowWho :: .ref a_o_rowNames :: .ref a_o_images :: .ref a_o_isKept :: []))), (a_o_over, .inl (tI, 5, .inl o_over)), (a_o_named, .inl (tI, 30, .inl o_named))]) rfl rfl (As := [.int (o_over x1.toNatClampNeg), .int (nI x2.toNatClampNeg)]) (rest := []) rfl rfl (Nat.le_of_ble_eq_true rfl) ⟨Nat.le_of_ble_eq_true rfl, Nat.le_of_ble_eq_true rfl⟩ ⟨Nat.zero_le _, Nat.zero_le _⟩ dX7_named_26 (fun H locs hP hD hS => ?_)
      refine lv_if_eq (tgt := 46) hx hb dX7_named_29 (by decide) (fun c_3 => ?_) (fun c_3 => ?_)
      · rw [if_pos c_3] at hR
        refine lv_ldc hx hb hown (hts _ wk_X7_249) dX7_named_46 ?_
        subst hR
        exact (hF _ _ _ _ hP hS).1 _ rfl ⟨.int, rfl, rfl⟩ dX7_named_48
      · rw [if_neg c_3] at hR
        refine lv_aload_n hx hb dX7_named_32 rfl (lv_at hl 0 rfl) ?_
        refine fget E hP 0 rfl fd_X7_35 (v := .ref a_o_named) rfl dX7_named_33 ?_
        refine lv_bipush (v := (6 : Int32)) hx hb dX7_named_36 (by decide) ?_
        refine lv_iload_n hx hb dX7_named_38 rfl (lv_at hl 1 rfl) ?_
        refine lv_is fa_c_1 ?_
        refine lv_imul hx hb dX7_named_39 ?_
        refine lv_is (pk_mul 6 x1.toNatClampNeg) ?_
        refine lv_iload_n hx hb dX7_named_40 rfl (lv_at hl 2 rfl) ?_
        refine lv_is fa_c_2 ?_
        refine lv_iadd hx hb dX7_named_41 ?_
        refine lv_is (nI_add (6 * x1.toNatClampNeg) x2.toNatClampNeg) ?_
        refine ild E hP 2 rfl (k := ((6 * x1.toNatClampNeg) + x2.toNatClampNeg)) (by omega) (by decide) dX7_named_42 ?_
        refine lv_goto (tgt := 48) hx hb dX7_named_43 (by decide) ?_
        subst hR
        exact (hF _ _ _ _ hP hS).1 _ rfl ⟨.int, rfl, rfl⟩ dX7_named_48
    · rw [if_pos c_2] at hR
      refine lv_ldc hx hb hown (hts _ wk_X7_244) dX7_named_16 ?_
      subst hR
      exact (hF _ _ _ _ hP hS).1 _ rfl ⟨.int, rfl, rfl⟩ dX7_named_18

def K_X7_mayAlone_32  (v3_32 : Int32) : Int32 := v3_32
def B_X7_mayAlone_32 (x2 : Nat) (o_alive : Int32) (o_weight : Nat → Int32) (k_32 : Nat) (v3_32 : Int32) : Int32 := (if v3_32 = 0 then (0 : Int32) else (if k_32 = x2 then (1 : Int32) else (if (S_X7_has o_alive (nI k_32)) = 0 then (1 : Int32) else (if (o_weight x2) ≤ (o_weight k_32) then (0 : Int32) else (1 : Int32)))))
def S_X7_mayAlone (x1 : Nat) (x2 : Nat) (o_aloneYear : Nat → Int32) (o_day : Int32) (o_year : Int32) (o_men : Nat) (o_alive : Int32) (o_weight : Nat → Int32) : Int32 := (if (o_aloneYear ((6 * x1) + x2)) = (o_day / o_year) then ((fun a => K_X7_mayAlone_32 a) (iter (fun k a => B_X7_mayAlone_32 x2 o_alive o_weight k a) o_men 0 (0 : Int32))) else ((fun a => K_X7_mayAlone_32 a) (iter (fun k a => B_X7_mayAlone_32 x2 o_alive o_weight k a) o_men 0 (1 : Int32))))
theorem z_X7_mayAlone (x1 : Nat) (x2 : Nat) (o_aloneYear : Nat → Int32) (o_day : Int32) (o_year : Int32) (o_men : Nat) (o_alive : Int32) (o_weight : Nat → Int32)  : S_X7_mayAlone x1 x2 o_aloneYear o_day o_year o_men o_alive o_weight = 0 ∨ S_X7_mayAlone x1 x2 o_aloneYear o_day o_year o_men o_alive o_weight = 1 := by 
  unfold S_X7_mayAlone
  (repeat' split) <;> (refine iter_ind (N := o_men) (fun _ v => v = 0 ∨ v = 1) (fun k v hk hv => ?_) o_men 0 _ (by omega) (by first | exact Or.inl rfl | exact Or.inr rfl)
                       show B_X7_mayAlone_32 _ _ _ _ _ = 0 ∨ B_X7_mayAlone_32 _ _ _ _ _ = 1
                       unfold B_X7_mayAlone_32
                       (repeat' split) <;> first | exact Or.inl rfl | exact Or.inr rfl | exact hv)
set_option maxHeartbeats 4000000 in
set_option maxRecDepth 100000 in
theorem c_X7_mayAlone (l : Launch) (D : va_G) (tB tI tZ : ClassId) (a_o a_o_forgets a_o_weight a_o_comes a_o_oxWeight a_o_oxPrice a_o_knows a_o_over a_o_named a_o_lieDay a_o_aloneYear a_o_text a_o_readForgets a_o_readWeight a_o_readComes a_o_readKnows a_o_readOx a_o_readPrice a_o_order a_o_orderNames a_o_seenWho a_o_seenNamed a_o_seenLetGo a_o_placeIn a_o_behind a_o_rowWho a_o_rowNames a_o_images a_o_isKept : Nat) (o_year : Int32) (o_bridges : Nat) (o_men : Nat) (o_oxen : Nat) (o_alive : Int32) (o_day : Int32) (o_seed : Int32) (o_texted : Nat) (o_faultPlace : Int32) (o_at0 : Nat) (o_said : Int64) (o_wordEnd : Nat) (o_number : Int32) (o_numberAt : Nat) (o_readYear : Int32) (o_readClauses : Int32) (o_readBridges : Nat) (o_readMen : Nat) (o_readMany : Int32) (o_readOxen : Nat) (o_sights : Nat) (o_rowMany : Nat) (o_aloneYear : Nat → Int32) (o_weight : Nat → Int32) (x1 : Nat) (x2 : Nat) (hb : x1 < 5) (ht : x2 < 6) (hmen : o_men ≤ 6) (hy : ¬ o_year = 0) : CT l D (tyL tB tI tZ) yX7_mayAlone (.code yX7_mayAlone cX7_mayAlone 5 (some .boolean)) 1 21 [.ref a_o, .int (nI x1), .int (nI x2)] [(a_o, .inr (7, (.int o_year :: .int (nI o_bridges) :: .ref a_o_forgets :: .int (nI o_men) :: .ref a_o_weight :: .ref a_o_comes :: .int (nI o_oxen) :: .ref a_o_oxWeight :: .ref a_o_oxPrice :: .ref a_o_knows :: .int o_alive :: .int o_day :: .ref a_o_over :: .ref a_o_named :: .ref a_o_lieDay :: .ref a_o_aloneYear :: .int o_seed :: .ref a_o_text :: .int (nI o_texted) :: .int o_faultPlace :: .int (nI o_at0) :: .long o_said :: .int (nI o_wordEnd) :: .int o_number :: .int (nI o_numberAt) :: .int o_readYear :: .int o_readClauses :: .int (nI o_readBridges) :: .ref a_o_readForgets :: .int (nI o_readMen) :: .ref a_o_readWeight :: .ref a_o_readComes :: .int o_readMany :: .ref a_o_readKnows :: .int (nI o_readOxen) :: .ref a_o_readOx :: .ref a_o_readPrice :: .ref a_o_order :: .ref a_o_orderNames :: .int (nI o_sights) :: .ref a_o_seenWho :: .ref a_o_seenNamed :: .ref a_o_seenLetGo :: .ref a_o_placeIn :: .ref a_o_behind :: .int (nI o_rowMany) :: .ref a_o_rowWho :: .ref a_o_rowNames :: .ref a_o_images :: .ref a_o_isKept :: []))), (a_o_aloneYear, .inl (tI, 30, .inl o_aloneYear)), (a_o_weight, .inl (tI, 6, .inl o_weight))] (fun u : Int32 => some (.int (u))) (fun _ : Int32 => [(a_o, .inr (7, (.int o_year :: .int (nI o_bridges) :: .ref a_o_forgets :: .int (nI o_men) :: .ref a_o_weight :: .ref a_o_comes :: .int (nI o_oxen) :: .ref a_o_oxWeight :: .ref a_o_oxPrice :: .ref a_o_knows :: .int o_alive :: .int o_day :: .ref a_o_over :: .ref a_o_named :: .ref a_o_lieDay :: .ref a_o_aloneYear :: .int o_seed :: .ref a_o_text :: .int (nI o_texted) :: .int o_faultPlace :: .int (nI o_at0) :: .long o_said :: .int (nI o_wordEnd) :: .int o_number :: .int (nI o_numberAt) :: .int o_readYear :: .int o_readClauses :: .int (nI o_readBridges) :: .ref a_o_readForgets :: .int (nI o_readMen) :: .ref a_o_readWeight :: .ref a_o_readComes :: .int o_readMany :: .ref a_o_readKnows :: .int (nI o_readOxen) :: .ref a_o_readOx :: .ref a_o_readPrice :: .ref a_o_order :: .ref a_o_orderNames :: .int (nI o_sights) :: .ref a_o_seenWho :: .ref a_o_seenNamed :: .ref a_o_seenLetGo :: .ref a_o_placeIn :: .ref a_o_behind :: .int (nI o_rowMany) :: .ref a_o_rowWho :: .ref a_o_rowNames :: .ref a_o_images :: .ref a_o_isKept :: []))), (a_o_aloneYear, .inl (tI, 30, .inl o_aloneYear)), (a_o_weight, .inl (tI, 6, .inl o_weight))]) (S_X7_mayAlone x1 x2 o_aloneYear o_day o_year o_men o_alive o_weight) := by
  refine CT.intro (k := 0) (Nat.le_of_ble_eq_true rfl) (by decide) ?_
  intro p e s m below meth c Q A ls E hA hP hD hS hl hF
  obtain ⟨⟨hx, hb, hml, hown, hts⟩, hK⟩ := id E
  generalize hR : S_X7_mayAlone x1 x2 o_aloneYear o_day o_year o_men o_alive o_weight = RES at hF
  unfold S_X7_mayAlone at hR
  have hl : lv_has ls 5 [(0, .ref a_o), (1, .int (nI x1)), (2, .int (nI x2))] := hl
  refine lv_aload_n hx hb dX7_mayAlone_0 rfl (lv_at hl 0 rfl) ?_
  refine fget E hP 0 rfl fd_X7_41 (v := .ref a_o_aloneYear) rfl dX7_mayAlone_1 ?_
  refine lv_bipush (v := (6 : Int32)) hx hb dX7_mayAlone_4 (by decide) ?_
  refine lv_iload_n hx hb dX7_mayAlone_6 rfl (lv_at hl 1 rfl) ?_
  refine lv_imul hx hb dX7_mayAlone_7 ?_
  refine lv_is (pk_mul 6 x1) ?_
  refine lv_iload_n hx hb dX7_mayAlone_8 rfl (lv_at hl 2 rfl) ?_
  refine lv_iadd hx hb dX7_mayAlone_9 ?_
  refine lv_is (nI_add (6 * x1) x2) ?_
  refine ild E hP 1 rfl (k := ((6 * x1) + x2)) (by omega) (by decide) dX7_mayAlone_10 ?_
  refine lv_aload_n hx hb dX7_mayAlone_11 rfl (lv_at hl 0 rfl) ?_
  refine fget E hP 0 rfl fd_X7_229 (v := .int o_day) rfl dX7_mayAlone_12 ?_
  refine lv_aload_n hx hb dX7_mayAlone_15 rfl (lv_at hl 0 rfl) ?_
  refine fget E hP 0 rfl fd_X7_7 (v := .int o_year) rfl dX7_mayAlone_16 ?_
  refine lv_idiv hx hb dX7_mayAlone_19 (hy) ?_
  refine lv_icmp_eq (tgt := 27) hx hb dX7_mayAlone_20 (by decide) (fun c_1 => ?_) (fun c_1 => ?_)
  · rw [if_pos c_1] at hR
    refine lv_iconst (v := (0 : Int32)) hx hb dX7_mayAlone_27 (by decide) ?_
    refine lv_istore_n (lv' := [(3, .int (0 : Int32)), (0, .ref a_o), (1, .int (nI x1)), (2, .int (nI x2))]) hx hb dX7_mayAlone_28 rfl hl (by decide) rfl (fun ls hl => ?_)
    refine lv_iconst (v := (0 : Int32)) hx hb dX7_mayAlone_29 (by decide) ?_
    refine lv_istore (lv' := [(4, .int (0 : Int32)), (3, .int (0 : Int32)), (0, .ref a_o), (1, .int (nI x1)), (2, .int (nI x2))]) hx hb dX7_mayAlone_30 hl (by decide) rfl (fun ls hl => ?_)
    have EX_32 : ∀ (v3_32 : Int32) (hz_v3_32 : v3_32 = 0 ∨ v3_32 = 1) (H : Heap) (locs : List Loc) (ls : Array Slot), K_X7_mayAlone_32 v3_32 = RES → va_P D vwCl [(a_o, .inr (7, (.int o_year :: .int (nI o_bridges) :: .ref a_o_forgets :: .int (nI o_men) :: .ref a_o_weight :: .ref a_o_comes :: .int (nI o_oxen) :: .ref a_o_oxWeight :: .ref a_o_oxPrice :: .ref a_o_knows :: .int o_alive :: .int o_day :: .ref a_o_over :: .ref a_o_named :: .ref a_o_lieDay :: .ref a_o_aloneYear :: .int o_seed :: .ref a_o_text :: .int (nI o_texted) :: .int o_faultPlace :: .int (nI o_at0) :: .long o_said :: .int (nI o_wordEnd) :: .int o_number :: .int (nI o_numberAt) :: .int o_readYear :: .int o_readClauses :: .int (nI o_readBridges) :: .ref a_o_readForgets :: .int (nI o_readMen) :: .ref a_o_readWeight :: .ref a_o_readComes :: .int o_readMany :: .ref a_o_readKnows :: .int (nI o_readOxen) :: .ref a_o_readOx :: .ref a_o_readPrice :: .ref a_o_order :: .ref a_o_orderNames :: .int (nI o_sights) :: .ref a_o_seenWho :: .ref a_o_seenNamed :: .ref a_o_seenLetGo :: .ref a_o_placeIn :: .ref a_o_behind :: .int (nI o_rowMany) :: .ref a_o_rowWho :: .ref a_o_rowNames :: .ref a_o_images :: .ref a_o_isKept :: []))), (a_o_aloneYear, .inl (tI, 30, .inl o_aloneYear)), (a_o_weight, .inl (tI, 6, .inl o_weight))] H → va_D A [(a_o, .inr (7, (.int o_year :: .int (nI o_bridges) :: .ref a_o_forgets :: .int (nI o_men) :: .ref a_o_weight :: .ref a_o_comes :: .int (nI o_oxen) :: .ref a_o_oxWeight :: .ref a_o_oxPrice :: .ref a_o_knows :: .int o_alive :: .int o_day :: .ref a_o_over :: .ref a_o_named :: .ref a_o_lieDay :: .ref a_o_aloneYear :: .int o_seed :: .ref a_o_text :: .int (nI o_texted) :: .int o_faultPlace :: .int (nI o_at0) :: .long o_said :: .int (nI o_wordEnd) :: .int o_number :: .int (nI o_numberAt) :: .int o_readYear :: .int o_readClauses :: .int (nI o_readBridges) :: .ref a_o_readForgets :: .int (nI o_readMen) :: .ref a_o_readWeight :: .ref a_o_readComes :: .int o_readMany :: .ref a_o_readKnows :: .int (nI o_readOxen) :: .ref a_o_readOx :: .ref a_o_readPrice :: .ref a_o_order :: .ref a_o_orderNames :: .int (nI o_sights) :: .ref a_o_seenWho :: .ref a_o_seenNamed :: .ref a_o_seenLetGo :: .ref a_o_placeIn :: .ref a_o_behind :: .int (nI o_rowMany) :: .ref a_o_rowWho :: .ref a_o_rowNames :: .ref a_o_images :: .ref a_o_isKept :: []))), (a_o_aloneYear, .inl (tI, 30, .inl o_aloneYear)), (a_o_weight, .inl (tI, 6, .inl o_weight))] → va_S A s.heap H locs → lv_has ls 5 [(3, .int v3_32)] → W p l e { frames := 1, cells := 0, slots := 0, locals := 21 } s m ([.ref a_o, .int (nI x1), .int (nI x2)] : List Value).toArray below meth c H locs 0 0 Q (F0 m 91 ls []) := by
      intro v3_32 hz_v3_32 H locs ls hR hP hD hS hl
      unfold K_X7_mayAlone_32 at hR
      refine lv_iload_n hx hb dX7_mayAlone_91 rfl (lv_at hl 0 rfl) ?_
      subst hR
      exact (hF _ _ _ _ hP hS).1 _ rfl ⟨.boolean, rfl, zn _ (hz_v3_32)⟩ dX7_mayAlone_92
    have LP_32 : ∀ (n_32 k_32 : Nat) (v3_32 : Int32) (hz_v3_32 : v3_32 = 0 ∨ v3_32 = 1) (H : Heap) (locs : List Loc) (ls : Array Slot), k_32 + n_32 = o_men → (fun a => K_X7_mayAlone_32 a) (iter (fun k a => B_X7_mayAlone_32 x2 o_alive o_weight k a) n_32 k_32 v3_32) = RES → va_P D vwCl [(a_o, .inr (7, (.int o_year :: .int (nI o_bridges) :: .ref a_o_forgets :: .int (nI o_men) :: .ref a_o_weight :: .ref a_o_comes :: .int (nI o_oxen) :: .ref a_o_oxWeight :: .ref a_o_oxPrice :: .ref a_o_knows :: .int o_alive :: .int o_day :: .ref a_o_over :: .ref a_o_named :: .ref a_o_lieDay :: .ref a_o_aloneYear :: .int o_seed :: .ref a_o_text :: .int (nI o_texted) :: .int o_faultPlace :: .int (nI o_at0) :: .long o_said :: .int (nI o_wordEnd) :: .int o_number :: .int (nI o_numberAt) :: .int o_readYear :: .int o_readClauses :: .int (nI o_readBridges) :: .ref a_o_readForgets :: .int (nI o_readMen) :: .ref a_o_readWeight :: .ref a_o_readComes :: .int o_readMany :: .ref a_o_readKnows :: .int (nI o_readOxen) :: .ref a_o_readOx :: .ref a_o_readPrice :: .ref a_o_order :: .ref a_o_orderNames :: .int (nI o_sights) :: .ref a_o_seenWho :: .ref a_o_seenNamed :: .ref a_o_seenLetGo :: .ref a_o_placeIn :: .ref a_o_behind :: .int (nI o_rowMany) :: .ref a_o_rowWho :: .ref a_o_rowNames :: .ref a_o_images :: .ref a_o_isKept :: []))), (a_o_aloneYear, .inl (tI, 30, .inl o_aloneYear)), (a_o_weight, .inl (tI, 6, .inl o_weight))] H → va_D A [(a_o, .inr (7, (.int o_year :: .int (nI o_bridges) :: .ref a_o_forgets :: .int (nI o_men) :: .ref a_o_weight :: .ref a_o_comes :: .int (nI o_oxen) :: .ref a_o_oxWeight :: .ref a_o_oxPrice :: .ref a_o_knows :: .int o_alive :: .int o_day :: .ref a_o_over :: .ref a_o_named :: .ref a_o_lieDay :: .ref a_o_aloneYear :: .int o_seed :: .ref a_o_text :: .int (nI o_texted) :: .int o_faultPlace :: .int (nI o_at0) :: .long o_said :: .int (nI o_wordEnd) :: .int o_number :: .int (nI o_numberAt) :: .int o_readYear :: .int o_readClauses :: .int (nI o_readBridges) :: .ref a_o_readForgets :: .int (nI o_readMen) :: .ref a_o_readWeight :: .ref a_o_readComes :: .int o_readMany :: .ref a_o_readKnows :: .int (nI o_readOxen) :: .ref a_o_readOx :: .ref a_o_readPrice :: .ref a_o_order :: .ref a_o_orderNames :: .int (nI o_sights) :: .ref a_o_seenWho :: .ref a_o_seenNamed :: .ref a_o_seenLetGo :: .ref a_o_placeIn :: .ref a_o_behind :: .int (nI o_rowMany) :: .ref a_o_rowWho :: .ref a_o_rowNames :: .ref a_o_images :: .ref a_o_isKept :: []))), (a_o_aloneYear, .inl (tI, 30, .inl o_aloneYear)), (a_o_weight, .inl (tI, 6, .inl o_weight))] → va_S A s.heap H locs → lv_has ls 5 [(4, .int (nI k_32)), (3, .int v3_32), (0, .ref a_o), (2, .int (nI x2))] → W p l e { frames := 1, cells := 0, slots := 0, locals := 21 } s m ([.ref a_o, .int (nI x1), .int (nI x2)] : List Value).toArray below meth c H locs 0 0 Q (F0 m 32 ls []) := by
      intro n_32
      induction n_32 with
      | zero =>
        intro k_32 v3_32 hz_v3_32 H locs ls hn_32 hR hP hD hS hl
        refine lv_iload hx hb dX7_mayAlone_32 (lv_at hl 0 rfl) ?_
        refine lv_aload_n hx hb dX7_mayAlone_34 rfl (lv_at hl 2 rfl) ?_
        refine fget E hP 0 rfl fd_X7_102 (v := .int (nI o_men)) rfl dX7_mayAlone_35 ?_
        refine ni_ge (a := k_32) (b := o_men) (tgt := 91) (by omega) (by omega) hx hb dX7_mayAlone_38 (by decide) (fun g_32 => ?_) (fun g_32 => ?_)
        · exact EX_32 v3_32 hz_v3_32 _ _ _ hR hP hD hS (lv_sub hl [1] rfl)
        · exfalso; omega
      | succ n_32 ih_32 =>
        intro k_32 v3_32 hz_v3_32 H locs ls hn_32 hR hP hD hS hl
        have hR : (fun a => K_X7_mayAlone_32 a) (iter (fun k a => B_X7_mayAlone_32 x2 o_alive o_weight k a) n_32 (k_32 + 1) (B_X7_mayAlone_32 x2 o_alive o_weight k_32 v3_32)) = RES := hR
        generalize hB_32 : B_X7_mayAlone_32 x2 o_alive o_weight k_32 v3_32 = RB_32 at hR
        unfold B_X7_mayAlone_32 at hB_32
        refine lv_iload hx hb dX7_mayAlone_32 (lv_at hl 0 rfl) ?_
        refine lv_aload_n hx hb dX7_mayAlone_34 rfl (lv_at hl 2 rfl) ?_
        refine fget E hP 0 rfl fd_X7_102 (v := .int (nI o_men)) rfl dX7_mayAlone_35 ?_
        refine ni_ge (a := k_32) (b := o_men) (tgt := 91) (by omega) (by omega) hx hb dX7_mayAlone_38 (by decide) (fun g_32 => ?_) (fun g_32 => ?_)
        · exfalso; omega
        · refine lv_iload_n hx hb dX7_mayAlone_41 rfl (lv_at hl 1 rfl) ?_
          refine lv_if_eq (tgt := 83) hx hb dX7_mayAlone_42 (by decide) (fun c_3 => ?_) (fun c_3 => ?_)
          · rw [if_pos c_3] at hB_32
            refine lv_iconst (v := (0 : Int32)) hx hb dX7_mayAlone_83 (by decide) ?_
            refine lv_istore_n (lv' := [(3, .int (0 : Int32)), (4, .int (nI k_32)), (0, .ref a_o), (2, .int (nI x2))]) hx hb dX7_mayAlone_84 rfl hl (by decide) rfl (fun ls hl => ?_)
            refine lv_iinc (v := (nI (k_32 + 1))) (lv' := [(4, .int (nI (k_32 + 1))), (3, .int (0 : Int32)), (0, .ref a_o), (2, .int (nI x2))]) hx hb dX7_mayAlone_85 hl (k := 1) rfl (nI_i1 k_32) (by decide) rfl (fun ls hl => ?_)
            refine lv_goto (tgt := 32) hx hb dX7_mayAlone_88 (by decide) ?_
            subst hB_32
            exact ih_32 (k_32 + 1) (0 : Int32) (Or.inl rfl) _ _ _ (by omega) hR hP hD hS (lv_sub hl [0, 1, 2, 3] rfl)
          · rw [if_neg c_3] at hB_32
            refine lv_iload hx hb dX7_mayAlone_45 (lv_at hl 0 rfl) ?_
            refine lv_iload_n hx hb dX7_mayAlone_47 rfl (lv_at hl 3 rfl) ?_
            refine ni_eq (a := k_32) (b := x2) (tgt := 79) (by omega) (by omega) hx hb dX7_mayAlone_48 (by decide) (fun c_4 => ?_) (fun c_4 => ?_)
            · rw [if_pos c_4] at hB_32
              refine lv_iconst (v := (1 : Int32)) hx hb dX7_mayAlone_79 (by decide) ?_
              refine lv_goto (tgt := 84) hx hb dX7_mayAlone_80 (by decide) ?_
              refine lv_istore_n (lv' := [(3, .int (1 : Int32)), (4, .int (nI k_32)), (0, .ref a_o), (2, .int (nI x2))]) hx hb dX7_mayAlone_84 rfl hl (by decide) rfl (fun ls hl => ?_)
              refine lv_iinc (v := (nI (k_32 + 1))) (lv' := [(4, .int (nI (k_32 + 1))), (3, .int (1 : Int32)), (0, .ref a_o), (2, .int (nI x2))]) hx hb dX7_mayAlone_85 hl (k := 1) rfl (nI_i1 k_32) (by decide) rfl (fun ls hl => ?_)
              refine lv_goto (tgt := 32) hx hb dX7_mayAlone_88 (by decide) ?_
              subst hB_32
              exact ih_32 (k_32 + 1) (1 : Int32) (Or.inr rfl) _ _ _ (by omega) hR hP hD hS (lv_sub hl [0, 1, 2, 3] rfl)
            · rw [if_neg c_4] at hB_32
              refine lv_aload_n hx hb dX7_mayAlone_51 rfl (lv_at hl 2 rfl) ?_
              refine fget E hP 0 rfl fd_X7_226 (v := .int o_alive) rfl dX7_mayAlone_52 ?_
              refine lv_iload hx hb dX7_mayAlone_55 (lv_at hl 0 rfl) ?_
              refine kcS E hl.1 (c_X7_has l D tB tI tZ o_alive (nI k_32) ) cs_X7_has wm_X7_184 hP hD hS hA [] rfl rfl rfl (ws2 := [(a_o, .inr (7, (.int o_year :: .int (nI o_bridges) :: .ref a_o_forgets :: .int (nI o_men) :: .ref a_o_weight :: .ref a_o_comes :: .int (nI o_oxen) :: .ref a_o_oxWeight :: .ref a_o_oxPrice :: .ref a_o_knows :: .int o_alive :: .int o_day :: .ref a_o_over :: .ref a_o_named :: .ref a_o_lieDay :: .ref a_o_aloneYear :: .int o_seed :: .ref a_o_text :: .int (nI o_texted) :: .int o_faultPlace :: .int (nI o_at0) :: .long o_said :: .int (nI o_wordEnd) :: .int o_number :: .int (nI o_numberAt) :: .int o_readYear :: .int o_readClauses :: .int (nI o_readBridges) :: .ref a_o_readForgets :: .int (nI o_readMen) :: .ref a_o_readWeight :: .ref a_o_readComes :: .int o_readMany :: .ref a_o_readKnows :: .int (nI o_readOxen) :: .ref a_o_readOx :: .ref a_o_readPrice :: .ref a_o_order :: .ref a_o_orderNames :: .int (nI o_sights) :: .ref a_o_seenWho :: .ref a_o_seenNamed :: .ref a_o_seenLetGo :: .ref a_o_placeIn :: .ref a_o_behind :: .int (nI o_rowMany) :: .ref a_o_rowWho :: .ref a_o_rowNames :: .ref a_o_images :: .ref a_o_isKept :: []))), (a_o_aloneYear, .inl (tI, 30, .inl o_aloneYear)), (a_o_weight, .inl (tI, 6, .inl o_weight))]) rfl rfl (As := [.int o_alive, .int (nI k_32)]) (rest := []) rfl rfl (Nat.le_of_ble_eq_true rfl) ⟨Nat.le_of_ble_eq_true rfl, Nat.le_of_ble_eq_true rfl⟩ ⟨Nat.zero_le _, Nat.zero_le _⟩ dX7_mayAlone_57 (fun H locs hP hD hS => ?_)
              refine lv_if_eq (tgt := 79) hx hb dX7_mayAlone_60 (by decide) (fun c_5 => ?_) (fun c_5 => ?_)
              · rw [if_pos c_5] at hB_32
                refine lv_iconst (v := (1 : Int32)) hx hb dX7_mayAlone_79 (by decide) ?_
                refine lv_goto (tgt := 84) hx hb dX7_mayAlone_80 (by decide) ?_
                refine lv_istore_n (lv' := [(3, .int (1 : Int32)), (4, .int (nI k_32)), (0, .ref a_o), (2, .int (nI x2))]) hx hb dX7_mayAlone_84 rfl hl (by decide) rfl (fun ls hl => ?_)
                refine lv_iinc (v := (nI (k_32 + 1))) (lv' := [(4, .int (nI (k_32 + 1))), (3, .int (1 : Int32)), (0, .ref a_o), (2, .int (nI x2))]) hx hb dX7_mayAlone_85 hl (k := 1) rfl (nI_i1 k_32) (by decide) rfl (fun ls hl => ?_)
                refine lv_goto (tgt := 32) hx hb dX7_mayAlone_88 (by decide) ?_
                subst hB_32
                exact ih_32 (k_32 + 1) (1 : Int32) (Or.inr rfl) _ _ _ (by omega) hR hP hD hS (lv_sub hl [0, 1, 2, 3] rfl)
              · rw [if_neg c_5] at hB_32
                refine lv_aload_n hx hb dX7_mayAlone_63 rfl (lv_at hl 2 rfl) ?_
                refine fget E hP 0 rfl fd_X7_17 (v := .ref a_o_weight) rfl dX7_mayAlone_64 ?_
                refine lv_iload hx hb dX7_mayAlone_67 (lv_at hl 0 rfl) ?_
                refine ild E hP 2 rfl (k := k_32) (by omega) (by decide) dX7_mayAlone_69 ?_
                refine lv_aload_n hx hb dX7_mayAlone_70 rfl (lv_at hl 2 rfl) ?_
                refine fget E hP 0 rfl fd_X7_17 (v := .ref a_o_weight) rfl dX7_mayAlone_71 ?_
                refine lv_iload_n hx hb dX7_mayAlone_74 rfl (lv_at hl 3 rfl) ?_
                refine ild E hP 2 rfl (k := x2) (by omega) (by decide) dX7_mayAlone_75 ?_
                refine lv_icmp_ge (tgt := 83) hx hb dX7_mayAlone_76 (by decide) (fun c_6 => ?_) (fun c_6 => ?_)
                · rw [if_pos c_6] at hB_32
                  refine lv_iconst (v := (0 : Int32)) hx hb dX7_mayAlone_83 (by decide) ?_
                  refine lv_istore_n (lv' := [(3, .int (0 : Int32)), (4, .int (nI k_32)), (0, .ref a_o), (2, .int (nI x2))]) hx hb dX7_mayAlone_84 rfl hl (by decide) rfl (fun ls hl => ?_)
                  refine lv_iinc (v := (nI (k_32 + 1))) (lv' := [(4, .int (nI (k_32 + 1))), (3, .int (0 : Int32)), (0, .ref a_o), (2, .int (nI x2))]) hx hb dX7_mayAlone_85 hl (k := 1) rfl (nI_i1 k_32) (by decide) rfl (fun ls hl => ?_)
                  refine lv_goto (tgt := 32) hx hb dX7_mayAlone_88 (by decide) ?_
                  subst hB_32
                  exact ih_32 (k_32 + 1) (0 : Int32) (Or.inl rfl) _ _ _ (by omega) hR hP hD hS (lv_sub hl [0, 1, 2, 3] rfl)
                · rw [if_neg c_6] at hB_32
                  refine lv_iconst (v := (1 : Int32)) hx hb dX7_mayAlone_79 (by decide) ?_
                  refine lv_goto (tgt := 84) hx hb dX7_mayAlone_80 (by decide) ?_
                  refine lv_istore_n (lv' := [(3, .int (1 : Int32)), (4, .int (nI k_32)), (0, .ref a_o), (2, .int (nI x2))]) hx hb dX7_mayAlone_84 rfl hl (by decide) rfl (fun ls hl => ?_)
                  refine lv_iinc (v := (nI (k_32 + 1))) (lv' := [(4, .int (nI (k_32 + 1))), (3, .int (1 : Int32)), (0, .ref a_o), (2, .int (nI x2))]) hx hb dX7_mayAlone_85 hl (k := 1) rfl (nI_i1 k_32) (by decide) rfl (fun ls hl => ?_)
                  refine lv_goto (tgt := 32) hx hb dX7_mayAlone_88 (by decide) ?_
                  subst hB_32
                  exact ih_32 (k_32 + 1) (1 : Int32) (Or.inr rfl) _ _ _ (by omega) hR hP hD hS (lv_sub hl [0, 1, 2, 3] rfl)
    exact LP_32 o_men 0 (0 : Int32) (Or.inl rfl) _ _ _ (by omega) hR hP hD hS (lv_sub hl [0, 1, 2, 4] rfl)
  · rw [if_neg c_1] at hR
    refine lv_iconst (v := (1 : Int32)) hx hb dX7_mayAlone_23 (by decide) ?_
    refine lv_goto (tgt := 28) hx hb dX7_mayAlone_24 (by decide) ?_
    refine lv_istore_n (lv' := [(3, .int (1 : Int32)), (0, .ref a_o), (1, .int (nI x1)), (2, .int (nI x2))]) hx hb dX7_mayAlone_28 rfl hl (by decide) rfl (fun ls hl => ?_)
    refine lv_iconst (v := (0 : Int32)) hx hb dX7_mayAlone_29 (by decide) ?_
    refine lv_istore (lv' := [(4, .int (0 : Int32)), (3, .int (1 : Int32)), (0, .ref a_o), (1, .int (nI x1)), (2, .int (nI x2))]) hx hb dX7_mayAlone_30 hl (by decide) rfl (fun ls hl => ?_)
    have EX_32 : ∀ (v3_32 : Int32) (hz_v3_32 : v3_32 = 0 ∨ v3_32 = 1) (H : Heap) (locs : List Loc) (ls : Array Slot), K_X7_mayAlone_32 v3_32 = RES → va_P D vwCl [(a_o, .inr (7, (.int o_year :: .int (nI o_bridges) :: .ref a_o_forgets :: .int (nI o_men) :: .ref a_o_weight :: .ref a_o_comes :: .int (nI o_oxen) :: .ref a_o_oxWeight :: .ref a_o_oxPrice :: .ref a_o_knows :: .int o_alive :: .int o_day :: .ref a_o_over :: .ref a_o_named :: .ref a_o_lieDay :: .ref a_o_aloneYear :: .int o_seed :: .ref a_o_text :: .int (nI o_texted) :: .int o_faultPlace :: .int (nI o_at0) :: .long o_said :: .int (nI o_wordEnd) :: .int o_number :: .int (nI o_numberAt) :: .int o_readYear :: .int o_readClauses :: .int (nI o_readBridges) :: .ref a_o_readForgets :: .int (nI o_readMen) :: .ref a_o_readWeight :: .ref a_o_readComes :: .int o_readMany :: .ref a_o_readKnows :: .int (nI o_readOxen) :: .ref a_o_readOx :: .ref a_o_readPrice :: .ref a_o_order :: .ref a_o_orderNames :: .int (nI o_sights) :: .ref a_o_seenWho :: .ref a_o_seenNamed :: .ref a_o_seenLetGo :: .ref a_o_placeIn :: .ref a_o_behind :: .int (nI o_rowMany) :: .ref a_o_rowWho :: .ref a_o_rowNames :: .ref a_o_images :: .ref a_o_isKept :: []))), (a_o_aloneYear, .inl (tI, 30, .inl o_aloneYear)), (a_o_weight, .inl (tI, 6, .inl o_weight))] H → va_D A [(a_o, .inr (7, (.int o_year :: .int (nI o_bridges) :: .ref a_o_forgets :: .int (nI o_men) :: .ref a_o_weight :: .ref a_o_comes :: .int (nI o_oxen) :: .ref a_o_oxWeight :: .ref a_o_oxPrice :: .ref a_o_knows :: .int o_alive :: .int o_day :: .ref a_o_over :: .ref a_o_named :: .ref a_o_lieDay :: .ref a_o_aloneYear :: .int o_seed :: .ref a_o_text :: .int (nI o_texted) :: .int o_faultPlace :: .int (nI o_at0) :: .long o_said :: .int (nI o_wordEnd) :: .int o_number :: .int (nI o_numberAt) :: .int o_readYear :: .int o_readClauses :: .int (nI o_readBridges) :: .ref a_o_readForgets :: .int (nI o_readMen) :: .ref a_o_readWeight :: .ref a_o_readComes :: .int o_readMany :: .ref a_o_readKnows :: .int (nI o_readOxen) :: .ref a_o_readOx :: .ref a_o_readPrice :: .ref a_o_order :: .ref a_o_orderNames :: .int (nI o_sights) :: .ref a_o_seenWho :: .ref a_o_seenNamed :: .ref a_o_seenLetGo :: .ref a_o_placeIn :: .ref a_o_behind :: .int (nI o_rowMany) :: .ref a_o_rowWho :: .ref a_o_rowNames :: .ref a_o_images :: .ref a_o_isKept :: []))), (a_o_aloneYear, .inl (tI, 30, .inl o_aloneYear)), (a_o_weight, .inl (tI, 6, .inl o_weight))] → va_S A s.heap H locs → lv_has ls 5 [(3, .int v3_32)] → W p l e { frames := 1, cells := 0, slots := 0, locals := 21 } s m ([.ref a_o, .int (nI x1), .int (nI x2)] : List Value).toArray below meth c H locs 0 0 Q (F0 m 91 ls []) := by
      intro v3_32 hz_v3_32 H locs ls hR hP hD hS hl
      unfold K_X7_mayAlone_32 at hR
      refine lv_iload_n hx hb dX7_mayAlone_91 rfl (lv_at hl 0 rfl) ?_
      subst hR
      exact (hF _ _ _ _ hP hS).1 _ rfl ⟨.boolean, rfl, zn _ (hz_v3_32)⟩ dX7_mayAlone_92
    have LP_32 : ∀ (n_32 k_32 : Nat) (v3_32 : Int32) (hz_v3_32 : v3_32 = 0 ∨ v3_32 = 1) (H : Heap) (locs : List Loc) (ls : Array Slot), k_32 + n_32 = o_men → (fun a => K_X7_mayAlone_32 a) (iter (fun k a => B_X7_mayAlone_32 x2 o_alive o_weight k a) n_32 k_32 v3_32) = RES → va_P D vwCl [(a_o, .inr (7, (.int o_year :: .int (nI o_bridges) :: .ref a_o_forgets :: .int (nI o_men) :: .ref a_o_weight :: .ref a_o_comes :: .int (nI o_oxen) :: .ref a_o_oxWeight :: .ref a_o_oxPrice :: .ref a_o_knows :: .int o_alive :: .int o_day :: .ref a_o_over :: .ref a_o_named :: .ref a_o_lieDay :: .ref a_o_aloneYear :: .int o_seed :: .ref a_o_text :: .int (nI o_texted) :: .int o_faultPlace :: .int (nI o_at0) :: .long o_said :: .int (nI o_wordEnd) :: .int o_number :: .int (nI o_numberAt) :: .int o_readYear :: .int o_readClauses :: .int (nI o_readBridges) :: .ref a_o_readForgets :: .int (nI o_readMen) :: .ref a_o_readWeight :: .ref a_o_readComes :: .int o_readMany :: .ref a_o_readKnows :: .int (nI o_readOxen) :: .ref a_o_readOx :: .ref a_o_readPrice :: .ref a_o_order :: .ref a_o_orderNames :: .int (nI o_sights) :: .ref a_o_seenWho :: .ref a_o_seenNamed :: .ref a_o_seenLetGo :: .ref a_o_placeIn :: .ref a_o_behind :: .int (nI o_rowMany) :: .ref a_o_rowWho :: .ref a_o_rowNames :: .ref a_o_images :: .ref a_o_isKept :: []))), (a_o_aloneYear, .inl (tI, 30, .inl o_aloneYear)), (a_o_weight, .inl (tI, 6, .inl o_weight))] H → va_D A [(a_o, .inr (7, (.int o_year :: .int (nI o_bridges) :: .ref a_o_forgets :: .int (nI o_men) :: .ref a_o_weight :: .ref a_o_comes :: .int (nI o_oxen) :: .ref a_o_oxWeight :: .ref a_o_oxPrice :: .ref a_o_knows :: .int o_alive :: .int o_day :: .ref a_o_over :: .ref a_o_named :: .ref a_o_lieDay :: .ref a_o_aloneYear :: .int o_seed :: .ref a_o_text :: .int (nI o_texted) :: .int o_faultPlace :: .int (nI o_at0) :: .long o_said :: .int (nI o_wordEnd) :: .int o_number :: .int (nI o_numberAt) :: .int o_readYear :: .int o_readClauses :: .int (nI o_readBridges) :: .ref a_o_readForgets :: .int (nI o_readMen) :: .ref a_o_readWeight :: .ref a_o_readComes :: .int o_readMany :: .ref a_o_readKnows :: .int (nI o_readOxen) :: .ref a_o_readOx :: .ref a_o_readPrice :: .ref a_o_order :: .ref a_o_orderNames :: .int (nI o_sights) :: .ref a_o_seenWho :: .ref a_o_seenNamed :: .ref a_o_seenLetGo :: .ref a_o_placeIn :: .ref a_o_behind :: .int (nI o_rowMany) :: .ref a_o_rowWho :: .ref a_o_rowNames :: .ref a_o_images :: .ref a_o_isKept :: []))), (a_o_aloneYear, .inl (tI, 30, .inl o_aloneYear)), (a_o_weight, .inl (tI, 6, .inl o_weight))] → va_S A s.heap H locs → lv_has ls 5 [(4, .int (nI k_32)), (3, .int v3_32), (0, .ref a_o), (2, .int (nI x2))] → W p l e { frames := 1, cells := 0, slots := 0, locals := 21 } s m ([.ref a_o, .int (nI x1), .int (nI x2)] : List Value).toArray below meth c H locs 0 0 Q (F0 m 32 ls []) := by
      intro n_32
      induction n_32 with
      | zero =>
        intro k_32 v3_32 hz_v3_32 H locs ls hn_32 hR hP hD hS hl
        refine lv_iload hx hb dX7_mayAlone_32 (lv_at hl 0 rfl) ?_
        refine lv_aload_n hx hb dX7_mayAlone_34 rfl (lv_at hl 2 rfl) ?_
        refine fget E hP 0 rfl fd_X7_102 (v := .int (nI o_men)) rfl dX7_mayAlone_35 ?_
        refine ni_ge (a := k_32) (b := o_men) (tgt := 91) (by omega) (by omega) hx hb dX7_mayAlone_38 (by decide) (fun g_32 => ?_) (fun g_32 => ?_)
        · exact EX_32 v3_32 hz_v3_32 _ _ _ hR hP hD hS (lv_sub hl [1] rfl)
        · exfalso; omega
      | succ n_32 ih_32 =>
        intro k_32 v3_32 hz_v3_32 H locs ls hn_32 hR hP hD hS hl
        have hR : (fun a => K_X7_mayAlone_32 a) (iter (fun k a => B_X7_mayAlone_32 x2 o_alive o_weight k a) n_32 (k_32 + 1) (B_X7_mayAlone_32 x2 o_alive o_weight k_32 v3_32)) = RES := hR
        generalize hB_32 : B_X7_mayAlone_32 x2 o_alive o_weight k_32 v3_32 = RB_32 at hR
        unfold B_X7_mayAlone_32 at hB_32
        refine lv_iload hx hb dX7_mayAlone_32 (lv_at hl 0 rfl) ?_
        refine lv_aload_n hx hb dX7_mayAlone_34 rfl (lv_at hl 2 rfl) ?_
        refine fget E hP 0 rfl fd_X7_102 (v := .int (nI o_men)) rfl dX7_mayAlone_35 ?_
        refine ni_ge (a := k_32) (b := o_men) (tgt := 91) (by omega) (by omega) hx hb dX7_mayAlone_38 (by decide) (fun g_32 => ?_) (fun g_32 => ?_)
        · exfalso; omega
        · refine lv_iload_n hx hb dX7_mayAlone_41 rfl (lv_at hl 1 rfl) ?_
          refine lv_if_eq (tgt := 83) hx hb dX7_mayAlone_42 (by decide) (fun c_9 => ?_) (fun c_9 => ?_)
          · rw [if_pos c_9] at hB_32
            refine lv_iconst (v := (0 : Int32)) hx hb dX7_mayAlone_83 (by decide) ?_
            refine lv_istore_n (lv' := [(3, .int (0 : Int32)), (4, .int (nI k_32)), (0, .ref a_o), (2, .int (nI x2))]) hx hb dX7_mayAlone_84 rfl hl (by decide) rfl (fun ls hl => ?_)
            refine lv_iinc (v := (nI (k_32 + 1))) (lv' := [(4, .int (nI (k_32 + 1))), (3, .int (0 : Int32)), (0, .ref a_o), (2, .int (nI x2))]) hx hb dX7_mayAlone_85 hl (k := 1) rfl (nI_i1 k_32) (by decide) rfl (fun ls hl => ?_)
            refine lv_goto (tgt := 32) hx hb dX7_mayAlone_88 (by decide) ?_
            subst hB_32
            exact ih_32 (k_32 + 1) (0 : Int32) (Or.inl rfl) _ _ _ (by omega) hR hP hD hS (lv_sub hl [0, 1, 2, 3] rfl)
          · rw [if_neg c_9] at hB_32
            refine lv_iload hx hb dX7_mayAlone_45 (lv_at hl 0 rfl) ?_
            refine lv_iload_n hx hb dX7_mayAlone_47 rfl (lv_at hl 3 rfl) ?_
            refine ni_eq (a := k_32) (b := x2) (tgt := 79) (by omega) (by omega) hx hb dX7_mayAlone_48 (by decide) (fun c_10 => ?_) (fun c_10 => ?_)
            · rw [if_pos c_10] at hB_32
              refine lv_iconst (v := (1 : Int32)) hx hb dX7_mayAlone_79 (by decide) ?_
              refine lv_goto (tgt := 84) hx hb dX7_mayAlone_80 (by decide) ?_
              refine lv_istore_n (lv' := [(3, .int (1 : Int32)), (4, .int (nI k_32)), (0, .ref a_o), (2, .int (nI x2))]) hx hb dX7_mayAlone_84 rfl hl (by decide) rfl (fun ls hl => ?_)
              refine lv_iinc (v := (nI (k_32 + 1))) (lv' := [(4, .int (nI (k_32 + 1))), (3, .int (1 : Int32)), (0, .ref a_o), (2, .int (nI x2))]) hx hb dX7_mayAlone_85 hl (k := 1) rfl (nI_i1 k_32) (by decide) rfl (fun ls hl => ?_)
              refine lv_goto (tgt := 32) hx hb dX7_mayAlone_88 (by decide) ?_
              subst hB_32
              exact ih_32 (k_32 + 1) (1 : Int32) (Or.inr rfl) _ _ _ (by omega) hR hP hD hS (lv_sub hl [0, 1, 2, 3] rfl)
            · rw [if_neg c_10] at hB_32
              refine lv_aload_n hx hb dX7_mayAlone_51 rfl (lv_at hl 2 rfl) ?_
              refine fget E hP 0 rfl fd_X7_226 (v := .int o_alive) rfl dX7_mayAlone_52 ?_
              refine lv_iload hx hb dX7_mayAlone_55 (lv_at hl 0 rfl) ?_
              refine kcS E hl.1 (c_X7_has l D tB tI tZ o_alive (nI k_32) ) cs_X7_has wm_X7_184 hP hD hS hA [] rfl rfl rfl (ws2 := [(a_o, .inr (7, (.int o_year :: .int (nI o_bridges) :: .ref a_o_forgets :: .int (nI o_men) :: .ref a_o_weight :: .ref a_o_comes :: .int (nI o_oxen) :: .ref a_o_oxWeight :: .ref a_o_oxPrice :: .ref a_o_knows :: .int o_alive :: .int o_day :: .ref a_o_over :: .ref a_o_named :: .ref a_o_lieDay :: .ref a_o_aloneYear :: .int o_seed :: .ref a_o_text :: .int (nI o_texted) :: .int o_faultPlace :: .int (nI o_at0) :: .long o_said :: .int (nI o_wordEnd) :: .int o_number :: .int (nI o_numberAt) :: .int o_readYear :: .int o_readClauses :: .int (nI o_readBridges) :: .ref a_o_readForgets :: .int (nI o_readMen) :: .ref a_o_readWeight :: .ref a_o_readComes :: .int o_readMany :: .ref a_o_readKnows :: .int (nI o_readOxen) :: .ref a_o_readOx :: .ref a_o_readPrice :: .ref a_o_order :: .ref a_o_orderNames :: .int (nI o_sights) :: .ref a_o_seenWho :: .ref a_o_seenNamed :: .ref a_o_seenLetGo :: .ref a_o_placeIn :: .ref a_o_behind :: .int (nI o_rowMany) :: .ref a_o_rowWho :: .ref a_o_rowNames :: .ref a_o_images :: .ref a_o_isKept :: []))), (a_o_aloneYear, .inl (tI, 30, .inl o_aloneYear)), (a_o_weight, .inl (tI, 6, .inl o_weight))]) rfl rfl (As := [.int o_alive, .int (nI k_32)]) (rest := []) rfl rfl (Nat.le_of_ble_eq_true rfl) ⟨Nat.le_of_ble_eq_true rfl, Nat.le_of_ble_eq_true rfl⟩ ⟨Nat.zero_le _, Nat.zero_le _⟩ dX7_mayAlone_57 (fun H locs hP hD hS => ?_)
              refine lv_if_eq (tgt := 79) hx hb dX7_mayAlone_60 (by decide) (fun c_11 => ?_) (fun c_11 => ?_)
              · rw [if_pos c_11] at hB_32
                refine lv_iconst (v := (1 : Int32)) hx hb dX7_mayAlone_79 (by decide) ?_
                refine lv_goto (tgt := 84) hx hb dX7_mayAlone_80 (by decide) ?_
                refine lv_istore_n (lv' := [(3, .int (1 : Int32)), (4, .int (nI k_32)), (0, .ref a_o), (2, .int (nI x2))]) hx hb dX7_mayAlone_84 rfl hl (by decide) rfl (fun ls hl => ?_)
                refine lv_iinc (v := (nI (k_32 + 1))) (lv' := [(4, .int (nI (k_32 + 1))), (3, .int (1 : Int32)), (0, .ref a_o), (2, .int (nI x2))]) hx hb dX7_mayAlone_85 hl (k := 1) rfl (nI_i1 k_32) (by decide) rfl (fun ls hl => ?_)
                refine lv_goto (tgt := 32) hx hb dX7_mayAlone_88 (by decide) ?_
                subst hB_32
                exact ih_32 (k_32 + 1) (1 : Int32) (Or.inr rfl) _ _ _ (by omega) hR hP hD hS (lv_sub hl [0, 1, 2, 3] rfl)
              · rw [if_neg c_11] at hB_32
                refine lv_aload_n hx hb dX7_mayAlone_63 rfl (lv_at hl 2 rfl) ?_
                refine fget E hP 0 rfl fd_X7_17 (v := .ref a_o_weight) rfl dX7_mayAlone_64 ?_
                refine lv_iload hx hb dX7_mayAlone_67 (lv_at hl 0 rfl) ?_
                refine ild E hP 2 rfl (k := k_32) (by omega) (by decide) dX7_mayAlone_69 ?_
                refine lv_aload_n hx hb dX7_mayAlone_70 rfl (lv_at hl 2 rfl) ?_
                refine fget E hP 0 rfl fd_X7_17 (v := .ref a_o_weight) rfl dX7_mayAlone_71 ?_
                refine lv_iload_n hx hb dX7_mayAlone_74 rfl (lv_at hl 3 rfl) ?_
                refine ild E hP 2 rfl (k := x2) (by omega) (by decide) dX7_mayAlone_75 ?_
                refine lv_icmp_ge (tgt := 83) hx hb dX7_mayAlone_76 (by decide) (fun c_12 => ?_) (fun c_12 => ?_)
                · rw [if_pos c_12] at hB_32
                  refine lv_iconst (v := (0 : Int32)) hx hb dX7_mayAlone_83 (by decide) ?_
                  refine lv_istore_n (lv' := [(3, .int (0 : Int32)), (4, .int (nI k_32)), (0, .ref a_o), (2, .int (nI x2))]) hx hb dX7_mayAlone_84 rfl hl (by decide) rfl (fun ls hl => ?_)
                  refine lv_iinc (v := (nI (k_32 + 1))) (lv' := [(4, .int (nI (k_32 + 1))), (3, .int (0 : Int32)), (0, .ref a_o), (2, .int (nI x2))]) hx hb dX7_mayAlone_85 hl (k := 1) rfl (nI_i1 k_32) (by decide) rfl (fun ls hl => ?_)
                  refine lv_goto (tgt := 32) hx hb dX7_mayAlone_88 (by decide) ?_
                  subst hB_32
                  exact ih_32 (k_32 + 1) (0 : Int32) (Or.inl rfl) _ _ _ (by omega) hR hP hD hS (lv_sub hl [0, 1, 2, 3] rfl)
                · rw [if_neg c_12] at hB_32
                  refine lv_iconst (v := (1 : Int32)) hx hb dX7_mayAlone_79 (by decide) ?_
                  refine lv_goto (tgt := 84) hx hb dX7_mayAlone_80 (by decide) ?_
                  refine lv_istore_n (lv' := [(3, .int (1 : Int32)), (4, .int (nI k_32)), (0, .ref a_o), (2, .int (nI x2))]) hx hb dX7_mayAlone_84 rfl hl (by decide) rfl (fun ls hl => ?_)
                  refine lv_iinc (v := (nI (k_32 + 1))) (lv' := [(4, .int (nI (k_32 + 1))), (3, .int (1 : Int32)), (0, .ref a_o), (2, .int (nI x2))]) hx hb dX7_mayAlone_85 hl (k := 1) rfl (nI_i1 k_32) (by decide) rfl (fun ls hl => ?_)
                  refine lv_goto (tgt := 32) hx hb dX7_mayAlone_88 (by decide) ?_
                  subst hB_32
                  exact ih_32 (k_32 + 1) (1 : Int32) (Or.inr rfl) _ _ _ (by omega) hR hP hD hS (lv_sub hl [0, 1, 2, 3] rfl)
    exact LP_32 o_men 0 (1 : Int32) (Or.inr rfl) _ _ _ (by omega) hR hP hD hS (lv_sub hl [0, 1, 2, 4] rfl)

def S_X7_mayName (x1 : Nat) (x2 : Nat) (x3 : Nat) (o_weight : Nat → Int32) (o_alive : Int32) (o_day : Int32) (o_over : Nat → Int32) (o_lieDay : Nat → Int32) (o_forgets : Nat → Int32) : Int32 := (if (o_weight x3) ≤ (o_weight x2) then (0 : Int32) else (if (S_X7_has o_alive (nI x3)) = 0 then (0 : Int32) else (if (S_X7_has (o_over x1) (nI x3)) = 0 then (if (S_X7_isRemembered x1 x2 o_lieDay o_forgets o_day) = 0 then (1 : Int32) else (0 : Int32)) else (0 : Int32))))
theorem z_X7_mayName (x1 : Nat) (x2 : Nat) (x3 : Nat) (o_weight : Nat → Int32) (o_alive : Int32) (o_day : Int32) (o_over : Nat → Int32) (o_lieDay : Nat → Int32) (o_forgets : Nat → Int32)  : S_X7_mayName x1 x2 x3 o_weight o_alive o_day o_over o_lieDay o_forgets = 0 ∨ S_X7_mayName x1 x2 x3 o_weight o_alive o_day o_over o_lieDay o_forgets = 1 := by unfold S_X7_mayName; (repeat' split) <;> first | exact Or.inl rfl | exact Or.inr rfl | assumption | exact z_X7_has _ _ | exact z_X7_isRemembered _ _ _ _ _
set_option maxHeartbeats 4000000 in
set_option maxRecDepth 100000 in
theorem c_X7_mayName (l : Launch) (D : va_G) (tB tI tZ : ClassId) (a_o a_o_forgets a_o_weight a_o_comes a_o_oxWeight a_o_oxPrice a_o_knows a_o_over a_o_named a_o_lieDay a_o_aloneYear a_o_text a_o_readForgets a_o_readWeight a_o_readComes a_o_readKnows a_o_readOx a_o_readPrice a_o_order a_o_orderNames a_o_seenWho a_o_seenNamed a_o_seenLetGo a_o_placeIn a_o_behind a_o_rowWho a_o_rowNames a_o_images a_o_isKept : Nat) (o_year : Int32) (o_bridges : Nat) (o_men : Nat) (o_oxen : Nat) (o_alive : Int32) (o_day : Int32) (o_seed : Int32) (o_texted : Nat) (o_faultPlace : Int32) (o_at0 : Nat) (o_said : Int64) (o_wordEnd : Nat) (o_number : Int32) (o_numberAt : Nat) (o_readYear : Int32) (o_readClauses : Int32) (o_readBridges : Nat) (o_readMen : Nat) (o_readMany : Int32) (o_readOxen : Nat) (o_sights : Nat) (o_rowMany : Nat) (o_weight : Nat → Int32) (o_over : Nat → Int32) (o_lieDay : Nat → Int32) (o_forgets : Nat → Int32) (x1 : Nat) (x2 : Nat) (x3 : Nat) (hb : x1 < 5) (ht : x2 < 6) (hu : x3 < 6) : CT l D (tyL tB tI tZ) yX7_mayName (.code yX7_mayName cX7_mayName 4 (some .boolean)) 1 23 [.ref a_o, .int (nI x1), .int (nI x2), .int (nI x3)] [(a_o, .inr (7, (.int o_year :: .int (nI o_bridges) :: .ref a_o_forgets :: .int (nI o_men) :: .ref a_o_weight :: .ref a_o_comes :: .int (nI o_oxen) :: .ref a_o_oxWeight :: .ref a_o_oxPrice :: .ref a_o_knows :: .int o_alive :: .int o_day :: .ref a_o_over :: .ref a_o_named :: .ref a_o_lieDay :: .ref a_o_aloneYear :: .int o_seed :: .ref a_o_text :: .int (nI o_texted) :: .int o_faultPlace :: .int (nI o_at0) :: .long o_said :: .int (nI o_wordEnd) :: .int o_number :: .int (nI o_numberAt) :: .int o_readYear :: .int o_readClauses :: .int (nI o_readBridges) :: .ref a_o_readForgets :: .int (nI o_readMen) :: .ref a_o_readWeight :: .ref a_o_readComes :: .int o_readMany :: .ref a_o_readKnows :: .int (nI o_readOxen) :: .ref a_o_readOx :: .ref a_o_readPrice :: .ref a_o_order :: .ref a_o_orderNames :: .int (nI o_sights) :: .ref a_o_seenWho :: .ref a_o_seenNamed :: .ref a_o_seenLetGo :: .ref a_o_placeIn :: .ref a_o_behind :: .int (nI o_rowMany) :: .ref a_o_rowWho :: .ref a_o_rowNames :: .ref a_o_images :: .ref a_o_isKept :: []))), (a_o_weight, .inl (tI, 6, .inl o_weight)), (a_o_over, .inl (tI, 5, .inl o_over)), (a_o_lieDay, .inl (tI, 30, .inl o_lieDay)), (a_o_forgets, .inl (tI, 5, .inl o_forgets))] (fun u : Int32 => some (.int (u))) (fun _ : Int32 => [(a_o, .inr (7, (.int o_year :: .int (nI o_bridges) :: .ref a_o_forgets :: .int (nI o_men) :: .ref a_o_weight :: .ref a_o_comes :: .int (nI o_oxen) :: .ref a_o_oxWeight :: .ref a_o_oxPrice :: .ref a_o_knows :: .int o_alive :: .int o_day :: .ref a_o_over :: .ref a_o_named :: .ref a_o_lieDay :: .ref a_o_aloneYear :: .int o_seed :: .ref a_o_text :: .int (nI o_texted) :: .int o_faultPlace :: .int (nI o_at0) :: .long o_said :: .int (nI o_wordEnd) :: .int o_number :: .int (nI o_numberAt) :: .int o_readYear :: .int o_readClauses :: .int (nI o_readBridges) :: .ref a_o_readForgets :: .int (nI o_readMen) :: .ref a_o_readWeight :: .ref a_o_readComes :: .int o_readMany :: .ref a_o_readKnows :: .int (nI o_readOxen) :: .ref a_o_readOx :: .ref a_o_readPrice :: .ref a_o_order :: .ref a_o_orderNames :: .int (nI o_sights) :: .ref a_o_seenWho :: .ref a_o_seenNamed :: .ref a_o_seenLetGo :: .ref a_o_placeIn :: .ref a_o_behind :: .int (nI o_rowMany) :: .ref a_o_rowWho :: .ref a_o_rowNames :: .ref a_o_images :: .ref a_o_isKept :: []))), (a_o_weight, .inl (tI, 6, .inl o_weight)), (a_o_over, .inl (tI, 5, .inl o_over)), (a_o_lieDay, .inl (tI, 30, .inl o_lieDay)), (a_o_forgets, .inl (tI, 5, .inl o_forgets))]) (S_X7_mayName x1 x2 x3 o_weight o_alive o_day o_over o_lieDay o_forgets) := by
  refine CT.intro (k := 0) (Nat.le_of_ble_eq_true rfl) (by decide) ?_
  intro p e s m below meth c Q A ls E hA hP hD hS hl hF
  obtain ⟨⟨hx, hb, hml, hown, hts⟩, hK⟩ := id E
  generalize hR : S_X7_mayName x1 x2 x3 o_weight o_alive o_day o_over o_lieDay o_forgets = RES at hF
  unfold S_X7_mayName at hR
  have hl : lv_has ls 4 [(0, .ref a_o), (1, .int (nI x1)), (2, .int (nI x2)), (3, .int (nI x3))] := hl
  refine lv_aload_n hx hb dX7_mayName_0 rfl (lv_at hl 0 rfl) ?_
  refine fget E hP 0 rfl fd_X7_17 (v := .ref a_o_weight) rfl dX7_mayName_1 ?_
  refine lv_iload_n hx hb dX7_mayName_4 rfl (lv_at hl 3 rfl) ?_
  refine ild E hP 1 rfl (k := x3) (by omega) (by decide) dX7_mayName_5 ?_
  refine lv_aload_n hx hb dX7_mayName_6 rfl (lv_at hl 0 rfl) ?_
  refine fget E hP 0 rfl fd_X7_17 (v := .ref a_o_weight) rfl dX7_mayName_7 ?_
  refine lv_iload_n hx hb dX7_mayName_10 rfl (lv_at hl 2 rfl) ?_
  refine ild E hP 1 rfl (k := x2) (by omega) (by decide) dX7_mayName_11 ?_
  refine lv_icmp_le (tgt := 52) hx hb dX7_mayName_12 (by decide) (fun c_1 => ?_) (fun c_1 => ?_)
  · rw [if_pos c_1] at hR
    refine lv_iconst (v := (0 : Int32)) hx hb dX7_mayName_52 (by decide) ?_
    subst hR
    exact (hF _ _ _ _ hP hS).1 _ rfl ⟨.boolean, rfl, rfl⟩ dX7_mayName_53
  · rw [if_neg c_1] at hR
    refine lv_aload_n hx hb dX7_mayName_15 rfl (lv_at hl 0 rfl) ?_
    refine fget E hP 0 rfl fd_X7_226 (v := .int o_alive) rfl dX7_mayName_16 ?_
    refine lv_iload_n hx hb dX7_mayName_19 rfl (lv_at hl 3 rfl) ?_
    refine kcS E hl.1 (c_X7_has l D tB tI tZ o_alive (nI x3) ) cs_X7_has wm_X7_184 hP hD hS hA [] rfl rfl rfl (ws2 := [(a_o, .inr (7, (.int o_year :: .int (nI o_bridges) :: .ref a_o_forgets :: .int (nI o_men) :: .ref a_o_weight :: .ref a_o_comes :: .int (nI o_oxen) :: .ref a_o_oxWeight :: .ref a_o_oxPrice :: .ref a_o_knows :: .int o_alive :: .int o_day :: .ref a_o_over :: .ref a_o_named :: .ref a_o_lieDay :: .ref a_o_aloneYear :: .int o_seed :: .ref a_o_text :: .int (nI o_texted) :: .int o_faultPlace :: .int (nI o_at0) :: .long o_said :: .int (nI o_wordEnd) :: .int o_number :: .int (nI o_numberAt) :: .int o_readYear :: .int o_readClauses :: .int (nI o_readBridges) :: .ref a_o_readForgets :: .int (nI o_readMen) :: .ref a_o_readWeight :: .ref a_o_readComes :: .int o_readMany :: .ref a_o_readKnows :: .int (nI o_readOxen) :: .ref a_o_readOx :: .ref a_o_readPrice :: .ref a_o_order :: .ref a_o_orderNames :: .int (nI o_sights) :: .ref a_o_seenWho :: .ref a_o_seenNamed :: .ref a_o_seenLetGo :: .ref a_o_placeIn :: .ref a_o_behind :: .int (nI o_rowMany) :: .ref a_o_rowWho :: .ref a_o_rowNames :: .ref a_o_images :: .ref a_o_isKept :: []))), (a_o_weight, .inl (tI, 6, .inl o_weight)), (a_o_over, .inl (tI, 5, .inl o_over)), (a_o_lieDay, .inl (tI, 30, .inl o_lieDay)), (a_o_forgets, .inl (tI, 5, .inl o_forgets))]) rfl rfl (As := [.int o_alive, .int (nI x3)]) (rest := []) rfl rfl (Nat.le_of_ble_eq_true rfl) ⟨Nat.le_of_ble_eq_true rfl, Nat.le_of_ble_eq_true rfl⟩ ⟨Nat.zero_le _, Nat.zero_le _⟩ dX7_mayName_20 (fun H locs hP hD hS => ?_)
    refine lv_if_eq (tgt := 52) hx hb dX7_mayName_23 (by decide) (fun c_2 => ?_) (fun c_2 => ?_)
    · rw [if_pos c_2] at hR
      refine lv_iconst (v := (0 : Int32)) hx hb dX7_mayName_52 (by decide) ?_
      subst hR
      exact (hF _ _ _ _ hP hS).1 _ rfl ⟨.boolean, rfl, rfl⟩ dX7_mayName_53
    · rw [if_neg c_2] at hR
      refine lv_aload_n hx hb dX7_mayName_26 rfl (lv_at hl 0 rfl) ?_
      refine fget E hP 0 rfl fd_X7_32 (v := .ref a_o_over) rfl dX7_mayName_27 ?_
      refine lv_iload_n hx hb dX7_mayName_30 rfl (lv_at hl 1 rfl) ?_
      refine ild E hP 2 rfl (k := x1) (by omega) (by decide) dX7_mayName_31 ?_
      refine lv_iload_n hx hb dX7_mayName_32 rfl (lv_at hl 3 rfl) ?_
      refine kcS E hl.1 (c_X7_has l D tB tI tZ (o_over x1) (nI x3) ) cs_X7_has wm_X7_184 hP hD hS hA [] rfl rfl rfl (ws2 := [(a_o, .inr (7, (.int o_year :: .int (nI o_bridges) :: .ref a_o_forgets :: .int (nI o_men) :: .ref a_o_weight :: .ref a_o_comes :: .int (nI o_oxen) :: .ref a_o_oxWeight :: .ref a_o_oxPrice :: .ref a_o_knows :: .int o_alive :: .int o_day :: .ref a_o_over :: .ref a_o_named :: .ref a_o_lieDay :: .ref a_o_aloneYear :: .int o_seed :: .ref a_o_text :: .int (nI o_texted) :: .int o_faultPlace :: .int (nI o_at0) :: .long o_said :: .int (nI o_wordEnd) :: .int o_number :: .int (nI o_numberAt) :: .int o_readYear :: .int o_readClauses :: .int (nI o_readBridges) :: .ref a_o_readForgets :: .int (nI o_readMen) :: .ref a_o_readWeight :: .ref a_o_readComes :: .int o_readMany :: .ref a_o_readKnows :: .int (nI o_readOxen) :: .ref a_o_readOx :: .ref a_o_readPrice :: .ref a_o_order :: .ref a_o_orderNames :: .int (nI o_sights) :: .ref a_o_seenWho :: .ref a_o_seenNamed :: .ref a_o_seenLetGo :: .ref a_o_placeIn :: .ref a_o_behind :: .int (nI o_rowMany) :: .ref a_o_rowWho :: .ref a_o_rowNames :: .ref a_o_images :: .ref a_o_isKept :: []))), (a_o_weight, .inl (tI, 6, .inl o_weight)), (a_o_over, .inl (tI, 5, .inl o_over)), (a_o_lieDay, .inl (tI, 30, .inl o_lieDay)), (a_o_forgets, .inl (tI, 5, .inl o_forgets))]) rfl rfl (As := [.int (o_over x1), .int (nI x3)]) (rest := []) rfl rfl (Nat.le_of_ble_eq_true rfl) ⟨Nat.le_of_ble_eq_true rfl, Nat.le_of_ble_eq_true rfl⟩ ⟨Nat.zero_le _, Nat.zero_le _⟩ dX7_mayName_33 (fun H locs hP hD hS => ?_)
      refine lv_if_ne (tgt := 52) hx hb dX7_mayName_36 (by decide) (fun c_3 => ?_) (fun c_3 => ?_)
      · rw [if_neg c_3] at hR
        refine lv_iconst (v := (0 : Int32)) hx hb dX7_mayName_52 (by decide) ?_
        subst hR
        exact (hF _ _ _ _ hP hS).1 _ rfl ⟨.boolean, rfl, rfl⟩ dX7_mayName_53
      · rw [if_pos c_3] at hR
        refine lv_aload_n hx hb dX7_mayName_39 rfl (lv_at hl 0 rfl) ?_
        refine lv_iload_n hx hb dX7_mayName_40 rfl (lv_at hl 1 rfl) ?_
        refine lv_iload_n hx hb dX7_mayName_41 rfl (lv_at hl 2 rfl) ?_
        refine kcV E hl.1 (c_X7_isRemembered l D tB tI tZ a_o a_o_forgets a_o_weight a_o_comes a_o_oxWeight a_o_oxPrice a_o_knows a_o_over a_o_named a_o_lieDay a_o_aloneYear a_o_text a_o_readForgets a_o_readWeight a_o_readComes a_o_readKnows a_o_readOx a_o_readPrice a_o_order a_o_orderNames a_o_seenWho a_o_seenNamed a_o_seenLetGo a_o_placeIn a_o_behind a_o_rowWho a_o_rowNames a_o_images a_o_isKept o_year o_bridges o_men o_oxen o_alive o_day o_seed o_texted o_faultPlace o_at0 o_said o_wordEnd o_number o_numberAt o_readYear o_readClauses o_readBridges o_readMen o_readMany o_readOxen o_sights o_rowMany o_lieDay o_forgets x1 x2 (show x1 < 5 by first | assumption | omega | exact NN.none | exact NN.nat (by omega) (by omega) | exact NN.up (by assumption) (by omega)) (show x2 < 6 by first | assumption | omega | exact NN.none | exact NN.nat (by omega) (by omega) | exact NN.up (by assumption) (by omega))) cv_X7_isRemembered wm_X7_238 hP hD hS hA [0, 3, 4] rfl rfl rfl (ws2 := [(a_o, .inr (7, (.int o_year :: .int (nI o_bridges) :: .ref a_o_forgets :: .int (nI o_men) :: .ref a_o_weight :: .ref a_o_comes :: .int (nI o_oxen) :: .ref a_o_oxWeight :: .ref a_o_oxPrice :: .ref a_o_knows :: .int o_alive :: .int o_day :: .ref a_o_over :: .ref a_o_named :: .ref a_o_lieDay :: .ref a_o_aloneYear :: .int o_seed :: .ref a_o_text :: .int (nI o_texted) :: .int o_faultPlace :: .int (nI o_at0) :: .long o_said :: .int (nI o_wordEnd) :: .int o_number :: .int (nI o_numberAt) :: .int o_readYear :: .int o_readClauses :: .int (nI o_readBridges) :: .ref a_o_readForgets :: .int (nI o_readMen) :: .ref a_o_readWeight :: .ref a_o_readComes :: .int o_readMany :: .ref a_o_readKnows :: .int (nI o_readOxen) :: .ref a_o_readOx :: .ref a_o_readPrice :: .ref a_o_order :: .ref a_o_orderNames :: .int (nI o_sights) :: .ref a_o_seenWho :: .ref a_o_seenNamed :: .ref a_o_seenLetGo :: .ref a_o_placeIn :: .ref a_o_behind :: .int (nI o_rowMany) :: .ref a_o_rowWho :: .ref a_o_rowNames :: .ref a_o_images :: .ref a_o_isKept :: []))), (a_o_weight, .inl (tI, 6, .inl o_weight)), (a_o_over, .inl (tI, 5, .inl o_over)), (a_o_lieDay, .inl (tI, 30, .inl o_lieDay)), (a_o_forgets, .inl (tI, 5, .inl o_forgets))]) rfl rfl (b := a_o) (As := [.int (nI x1), .int (nI x2)]) (rest := []) 0 7 rfl rfl rfl rfl (Nat.le_of_ble_eq_true rfl) ⟨Nat.le_of_ble_eq_true rfl, Nat.le_of_ble_eq_true rfl⟩ ⟨Nat.zero_le _, Nat.zero_le _⟩ dX7_mayName_42 (fun H locs hP hD hS => ?_)
        refine lv_if_ne (tgt := 52) hx hb dX7_mayName_45 (by decide) (fun c_4 => ?_) (fun c_4 => ?_)
        · rw [if_neg c_4] at hR
          refine lv_iconst (v := (0 : Int32)) hx hb dX7_mayName_52 (by decide) ?_
          subst hR
          exact (hF _ _ _ _ hP hS).1 _ rfl ⟨.boolean, rfl, rfl⟩ dX7_mayName_53
        · rw [if_pos c_4] at hR
          refine lv_iconst (v := (1 : Int32)) hx hb dX7_mayName_48 (by decide) ?_
          refine lv_goto (tgt := 53) hx hb dX7_mayName_49 (by decide) ?_
          subst hR
          exact (hF _ _ _ _ hP hS).1 _ rfl ⟨.boolean, rfl, rfl⟩ dX7_mayName_53

def S_X7_isLetGo (x1 : Nat) (x2 : Nat) (x3 : Int32) (o_year : Int32) (o_men : Nat) (o_alive : Int32) (o_day : Int32) (o_weight : Nat → Int32) (o_over : Nat → Int32) (o_lieDay : Nat → Int32) (o_forgets : Nat → Int32) (o_aloneYear : Nat → Int32) : Int32 := (if x3 = (-1 : Int32) then (S_X7_mayAlone x1 x2 o_aloneYear o_day o_year o_men o_alive o_weight) else (S_X7_mayName x1 x2 x3.toNatClampNeg o_weight o_alive o_day o_over o_lieDay o_forgets))
theorem z_X7_isLetGo (x1 : Nat) (x2 : Nat) (x3 : Int32) (o_year : Int32) (o_men : Nat) (o_alive : Int32) (o_day : Int32) (o_weight : Nat → Int32) (o_over : Nat → Int32) (o_lieDay : Nat → Int32) (o_forgets : Nat → Int32) (o_aloneYear : Nat → Int32)  : S_X7_isLetGo x1 x2 x3 o_year o_men o_alive o_day o_weight o_over o_lieDay o_forgets o_aloneYear = 0 ∨ S_X7_isLetGo x1 x2 x3 o_year o_men o_alive o_day o_weight o_over o_lieDay o_forgets o_aloneYear = 1 := by unfold S_X7_isLetGo; (repeat' split) <;> first | exact Or.inl rfl | exact Or.inr rfl | assumption | exact z_X7_mayAlone _ _ _ _ _ _ _ _ | exact z_X7_mayName _ _ _ _ _ _ _ _ _
set_option maxHeartbeats 4000000 in
set_option maxRecDepth 100000 in
theorem c_X7_isLetGo (l : Launch) (D : va_G) (tB tI tZ : ClassId) (a_o a_o_forgets a_o_weight a_o_comes a_o_oxWeight a_o_oxPrice a_o_knows a_o_over a_o_named a_o_lieDay a_o_aloneYear a_o_text a_o_readForgets a_o_readWeight a_o_readComes a_o_readKnows a_o_readOx a_o_readPrice a_o_order a_o_orderNames a_o_seenWho a_o_seenNamed a_o_seenLetGo a_o_placeIn a_o_behind a_o_rowWho a_o_rowNames a_o_images a_o_isKept : Nat) (o_year : Int32) (o_bridges : Nat) (o_men : Nat) (o_oxen : Nat) (o_alive : Int32) (o_day : Int32) (o_seed : Int32) (o_texted : Nat) (o_faultPlace : Int32) (o_at0 : Nat) (o_said : Int64) (o_wordEnd : Nat) (o_number : Int32) (o_numberAt : Nat) (o_readYear : Int32) (o_readClauses : Int32) (o_readBridges : Nat) (o_readMen : Nat) (o_readMany : Int32) (o_readOxen : Nat) (o_sights : Nat) (o_rowMany : Nat) (o_weight : Nat → Int32) (o_over : Nat → Int32) (o_lieDay : Nat → Int32) (o_forgets : Nat → Int32) (o_aloneYear : Nat → Int32) (x1 : Nat) (x2 : Nat) (x3 : Int32) (hb : x1 < 5) (ht : x2 < 6) (hmen : o_men ≤ 6) (hy : ¬ o_year = 0) (hu : NN 6 x3) : CT l D (tyL tB tI tZ) yX7_isLetGo (.code yX7_isLetGo cX7_isLetGo 4 (some .boolean)) 2 46 [.ref a_o, .int (nI x1), .int (nI x2), .int x3] [(a_o, .inr (7, (.int o_year :: .int (nI o_bridges) :: .ref a_o_forgets :: .int (nI o_men) :: .ref a_o_weight :: .ref a_o_comes :: .int (nI o_oxen) :: .ref a_o_oxWeight :: .ref a_o_oxPrice :: .ref a_o_knows :: .int o_alive :: .int o_day :: .ref a_o_over :: .ref a_o_named :: .ref a_o_lieDay :: .ref a_o_aloneYear :: .int o_seed :: .ref a_o_text :: .int (nI o_texted) :: .int o_faultPlace :: .int (nI o_at0) :: .long o_said :: .int (nI o_wordEnd) :: .int o_number :: .int (nI o_numberAt) :: .int o_readYear :: .int o_readClauses :: .int (nI o_readBridges) :: .ref a_o_readForgets :: .int (nI o_readMen) :: .ref a_o_readWeight :: .ref a_o_readComes :: .int o_readMany :: .ref a_o_readKnows :: .int (nI o_readOxen) :: .ref a_o_readOx :: .ref a_o_readPrice :: .ref a_o_order :: .ref a_o_orderNames :: .int (nI o_sights) :: .ref a_o_seenWho :: .ref a_o_seenNamed :: .ref a_o_seenLetGo :: .ref a_o_placeIn :: .ref a_o_behind :: .int (nI o_rowMany) :: .ref a_o_rowWho :: .ref a_o_rowNames :: .ref a_o_images :: .ref a_o_isKept :: []))), (a_o_weight, .inl (tI, 6, .inl o_weight)), (a_o_over, .inl (tI, 5, .inl o_over)), (a_o_lieDay, .inl (tI, 30, .inl o_lieDay)), (a_o_forgets, .inl (tI, 5, .inl o_forgets)), (a_o_aloneYear, .inl (tI, 30, .inl o_aloneYear))] (fun u : Int32 => some (.int (u))) (fun _ : Int32 => [(a_o, .inr (7, (.int o_year :: .int (nI o_bridges) :: .ref a_o_forgets :: .int (nI o_men) :: .ref a_o_weight :: .ref a_o_comes :: .int (nI o_oxen) :: .ref a_o_oxWeight :: .ref a_o_oxPrice :: .ref a_o_knows :: .int o_alive :: .int o_day :: .ref a_o_over :: .ref a_o_named :: .ref a_o_lieDay :: .ref a_o_aloneYear :: .int o_seed :: .ref a_o_text :: .int (nI o_texted) :: .int o_faultPlace :: .int (nI o_at0) :: .long o_said :: .int (nI o_wordEnd) :: .int o_number :: .int (nI o_numberAt) :: .int o_readYear :: .int o_readClauses :: .int (nI o_readBridges) :: .ref a_o_readForgets :: .int (nI o_readMen) :: .ref a_o_readWeight :: .ref a_o_readComes :: .int o_readMany :: .ref a_o_readKnows :: .int (nI o_readOxen) :: .ref a_o_readOx :: .ref a_o_readPrice :: .ref a_o_order :: .ref a_o_orderNames :: .int (nI o_sights) :: .ref a_o_seenWho :: .ref a_o_seenNamed :: .ref a_o_seenLetGo :: .ref a_o_placeIn :: .ref a_o_behind :: .int (nI o_rowMany) :: .ref a_o_rowWho :: .ref a_o_rowNames :: .ref a_o_images :: .ref a_o_isKept :: []))), (a_o_weight, .inl (tI, 6, .inl o_weight)), (a_o_over, .inl (tI, 5, .inl o_over)), (a_o_lieDay, .inl (tI, 30, .inl o_lieDay)), (a_o_forgets, .inl (tI, 5, .inl o_forgets)), (a_o_aloneYear, .inl (tI, 30, .inl o_aloneYear))]) (S_X7_isLetGo x1 x2 x3 o_year o_men o_alive o_day o_weight o_over o_lieDay o_forgets o_aloneYear) := by
  refine CT.intro (k := 0) (Nat.le_of_ble_eq_true rfl) (by decide) ?_
  intro p e s m below meth c Q A ls E hA hP hD hS hl hF
  obtain ⟨⟨hx, hb, hml, hown, hts⟩, hK⟩ := id E
  generalize hR : S_X7_isLetGo x1 x2 x3 o_year o_men o_alive o_day o_weight o_over o_lieDay o_forgets o_aloneYear = RES at hF
  unfold S_X7_isLetGo at hR
  have hl : lv_has ls 4 [(0, .ref a_o), (1, .int (nI x1)), (2, .int (nI x2)), (3, .int x3)] := hl
  refine lv_iload_n hx hb dX7_isLetGo_0 rfl (lv_at hl 3 rfl) ?_
  refine lv_iconst (v := (-1 : Int32)) hx hb dX7_isLetGo_1 (by decide) ?_
  refine lv_icmp_ne (tgt := 14) hx hb dX7_isLetGo_2 (by decide) (fun c_1 => ?_) (fun c_1 => ?_)
  · rw [if_neg c_1] at hR
    obtain ⟨fu1, fu2⟩ := hu.of c_1
    refine lv_aload_n hx hb dX7_isLetGo_14 rfl (lv_at hl 0 rfl) ?_
    refine lv_iload_n hx hb dX7_isLetGo_15 rfl (lv_at hl 1 rfl) ?_
    refine lv_iload_n hx hb dX7_isLetGo_16 rfl (lv_at hl 2 rfl) ?_
    refine lv_iload_n hx hb dX7_isLetGo_17 rfl (lv_at hl 3 rfl) ?_
    refine lv_is fu1 ?_
    refine kcV E hl.1 (c_X7_mayName l D tB tI tZ a_o a_o_forgets a_o_weight a_o_comes a_o_oxWeight a_o_oxPrice a_o_knows a_o_over a_o_named a_o_lieDay a_o_aloneYear a_o_text a_o_readForgets a_o_readWeight a_o_readComes a_o_readKnows a_o_readOx a_o_readPrice a_o_order a_o_orderNames a_o_seenWho a_o_seenNamed a_o_seenLetGo a_o_placeIn a_o_behind a_o_rowWho a_o_rowNames a_o_images a_o_isKept o_year o_bridges o_men o_oxen o_alive o_day o_seed o_texted o_faultPlace o_at0 o_said o_wordEnd o_number o_numberAt o_readYear o_readClauses o_readBridges o_readMen o_readMany o_readOxen o_sights o_rowMany o_weight o_over o_lieDay o_forgets x1 x2 x3.toNatClampNeg (show x1 < 5 by first | assumption | omega | exact NN.none | exact NN.nat (by omega) (by omega) | exact NN.up (by assumption) (by omega)) (show x2 < 6 by first | assumption | omega | exact NN.none | exact NN.nat (by omega) (by omega) | exact NN.up (by assumption) (by omega)) (show x3.toNatClampNeg < 6 by first | assumption | omega | exact NN.none | exact NN.nat (by omega) (by omega) | exact NN.up (by assumption) (by omega))) cv_X7_mayName wm_X7_253 hP hD hS hA [0, 1, 2, 3, 4] rfl rfl rfl (ws2 := [(a_o, .inr (7, (.int o_year :: .int (nI o_bridges) :: .ref a_o_forgets :: .int (nI o_men) :: .ref a_o_weight :: .ref a_o_comes :: .int (nI o_oxen) :: .ref a_o_oxWeight :: .ref a_o_oxPrice :: .ref a_o_knows :: .int o_alive :: .int o_day :: .ref a_o_over :: .ref a_o_named :: .ref a_o_lieDay :: .ref a_o_aloneYear :: .int o_seed :: .ref a_o_text :: .int (nI o_texted) :: .int o_faultPlace :: .int (nI o_at0) :: .long o_said :: .int (nI o_wordEnd) :: .int o_number :: .int (nI o_numberAt) :: .int o_readYear :: .int o_readClauses :: .int (nI o_readBridges) :: .ref a_o_readForgets :: .int (nI o_readMen) :: .ref a_o_readWeight :: .ref a_o_readComes :: .int o_readMany :: .ref a_o_readKnows :: .int (nI o_readOxen) :: .ref a_o_readOx :: .ref a_o_readPrice :: .ref a_o_order :: .ref a_o_orderNames :: .int (nI o_sights) :: .ref a_o_seenWho :: .ref a_o_seenNamed :: .ref a_o_seenLetGo :: .ref a_o_placeIn :: .ref a_o_behind :: .int (nI o_rowMany) :: .ref a_o_rowWho :: .ref a_o_rowNames :: .ref a_o_images :: .ref a_o_isKept :: []))), (a_o_weight, .inl (tI, 6, .inl o_weight)), (a_o_over, .inl (tI, 5, .inl o_over)), (a_o_lieDay, .inl (tI, 30, .inl o_lieDay)), (a_o_forgets, .inl (tI, 5, .inl o_forgets)), (a_o_aloneYear, .inl (tI, 30, .inl o_aloneYear))]) rfl rfl (b := a_o) (As := [.int (nI x1), .int (nI x2), .int (nI x3.toNatClampNeg)]) (rest := []) 0 7 rfl rfl rfl rfl (Nat.le_of_ble_eq_true rfl) ⟨Nat.le_of_ble_eq_true rfl, Nat.le_of_ble_eq_true rfl⟩ ⟨Nat.zero_le _, Nat.zero_le _⟩ dX7_isLetGo_18 (fun H locs hP hD hS => ?_)
    subst hR
    exact (hF _ _ _ _ hP hS).1 _ rfl ⟨.boolean, rfl, zn _ (z_X7_mayName _ _ _ _ _ _ _ _ _)⟩ dX7_isLetGo_21
  · rw [if_pos c_1] at hR
    refine lv_aload_n hx hb dX7_isLetGo_5 rfl (lv_at hl 0 rfl) ?_
    refine lv_iload_n hx hb dX7_isLetGo_6 rfl (lv_at hl 1 rfl) ?_
    refine lv_iload_n hx hb dX7_isLetGo_7 rfl (lv_at hl 2 rfl) ?_
    refine kcV E hl.1 (c_X7_mayAlone l D tB tI tZ a_o a_o_forgets a_o_weight a_o_comes a_o_oxWeight a_o_oxPrice a_o_knows a_o_over a_o_named a_o_lieDay a_o_aloneYear a_o_text a_o_readForgets a_o_readWeight a_o_readComes a_o_readKnows a_o_readOx a_o_readPrice a_o_order a_o_orderNames a_o_seenWho a_o_seenNamed a_o_seenLetGo a_o_placeIn a_o_behind a_o_rowWho a_o_rowNames a_o_images a_o_isKept o_year o_bridges o_men o_oxen o_alive o_day o_seed o_texted o_faultPlace o_at0 o_said o_wordEnd o_number o_numberAt o_readYear o_readClauses o_readBridges o_readMen o_readMany o_readOxen o_sights o_rowMany o_aloneYear o_weight x1 x2 (show x1 < 5 by first | assumption | omega | exact NN.none | exact NN.nat (by omega) (by omega) | exact NN.up (by assumption) (by omega)) (show x2 < 6 by first | assumption | omega | exact NN.none | exact NN.nat (by omega) (by omega) | exact NN.up (by assumption) (by omega)) (show o_men ≤ 6 by first | assumption | omega | exact NN.none | exact NN.nat (by omega) (by omega) | exact NN.up (by assumption) (by omega)) (show ¬ o_year = 0 by first | assumption | omega | exact NN.none | exact NN.nat (by omega) (by omega) | exact NN.up (by assumption) (by omega))) cv_X7_mayAlone wm_X7_250 hP hD hS hA [0, 5, 1] rfl rfl rfl (ws2 := [(a_o, .inr (7, (.int o_year :: .int (nI o_bridges) :: .ref a_o_forgets :: .int (nI o_men) :: .ref a_o_weight :: .ref a_o_comes :: .int (nI o_oxen) :: .ref a_o_oxWeight :: .ref a_o_oxPrice :: .ref a_o_knows :: .int o_alive :: .int o_day :: .ref a_o_over :: .ref a_o_named :: .ref a_o_lieDay :: .ref a_o_aloneYear :: .int o_seed :: .ref a_o_text :: .int (nI o_texted) :: .int o_faultPlace :: .int (nI o_at0) :: .long o_said :: .int (nI o_wordEnd) :: .int o_number :: .int (nI o_numberAt) :: .int o_readYear :: .int o_readClauses :: .int (nI o_readBridges) :: .ref a_o_readForgets :: .int (nI o_readMen) :: .ref a_o_readWeight :: .ref a_o_readComes :: .int o_readMany :: .ref a_o_readKnows :: .int (nI o_readOxen) :: .ref a_o_readOx :: .ref a_o_readPrice :: .ref a_o_order :: .ref a_o_orderNames :: .int (nI o_sights) :: .ref a_o_seenWho :: .ref a_o_seenNamed :: .ref a_o_seenLetGo :: .ref a_o_placeIn :: .ref a_o_behind :: .int (nI o_rowMany) :: .ref a_o_rowWho :: .ref a_o_rowNames :: .ref a_o_images :: .ref a_o_isKept :: []))), (a_o_weight, .inl (tI, 6, .inl o_weight)), (a_o_over, .inl (tI, 5, .inl o_over)), (a_o_lieDay, .inl (tI, 30, .inl o_lieDay)), (a_o_forgets, .inl (tI, 5, .inl o_forgets)), (a_o_aloneYear, .inl (tI, 30, .inl o_aloneYear))]) rfl rfl (b := a_o) (As := [.int (nI x1), .int (nI x2)]) (rest := []) 0 7 rfl rfl rfl rfl (Nat.le_of_ble_eq_true rfl) ⟨Nat.le_of_ble_eq_true rfl, Nat.le_of_ble_eq_true rfl⟩ ⟨Nat.zero_le _, Nat.zero_le _⟩ dX7_isLetGo_8 (fun H locs hP hD hS => ?_)
    refine lv_goto (tgt := 21) hx hb dX7_isLetGo_11 (by decide) ?_
    subst hR
    exact (hF _ _ _ _ hP hS).1 _ rfl ⟨.boolean, rfl, zn _ (z_X7_mayAlone _ _ _ _ _ _ _ _)⟩ dX7_isLetGo_21

def S_X7_canCross (x1 : Nat) (x2 : Nat) (x3 : Int32) (o_alive : Int32) (o_over : Nat → Int32) (o_knows : Nat → Int32) : Int32 := (if (S_X7_has o_alive (nI x2)) = 0 then (0 : Int32) else (if (S_X7_has (o_over x1) (nI x2)) = 0 then (if x3 = (-1 : Int32) then (1 : Int32) else (if (S_X7_has (o_knows x2) x3) = 0 then (0 : Int32) else (1 : Int32))) else (0 : Int32)))
theorem z_X7_canCross (x1 : Nat) (x2 : Nat) (x3 : Int32) (o_alive : Int32) (o_over : Nat → Int32) (o_knows : Nat → Int32)  : S_X7_canCross x1 x2 x3 o_alive o_over o_knows = 0 ∨ S_X7_canCross x1 x2 x3 o_alive o_over o_knows = 1 := by unfold S_X7_canCross; (repeat' split) <;> first | exact Or.inl rfl | exact Or.inr rfl | assumption | exact z_X7_has _ _
set_option maxHeartbeats 4000000 in
set_option maxRecDepth 100000 in
theorem c_X7_canCross (l : Launch) (D : va_G) (tB tI tZ : ClassId) (a_o a_o_forgets a_o_weight a_o_comes a_o_oxWeight a_o_oxPrice a_o_knows a_o_over a_o_named a_o_lieDay a_o_aloneYear a_o_text a_o_readForgets a_o_readWeight a_o_readComes a_o_readKnows a_o_readOx a_o_readPrice a_o_order a_o_orderNames a_o_seenWho a_o_seenNamed a_o_seenLetGo a_o_placeIn a_o_behind a_o_rowWho a_o_rowNames a_o_images a_o_isKept : Nat) (o_year : Int32) (o_bridges : Nat) (o_men : Nat) (o_oxen : Nat) (o_alive : Int32) (o_day : Int32) (o_seed : Int32) (o_texted : Nat) (o_faultPlace : Int32) (o_at0 : Nat) (o_said : Int64) (o_wordEnd : Nat) (o_number : Int32) (o_numberAt : Nat) (o_readYear : Int32) (o_readClauses : Int32) (o_readBridges : Nat) (o_readMen : Nat) (o_readMany : Int32) (o_readOxen : Nat) (o_sights : Nat) (o_rowMany : Nat) (o_over : Nat → Int32) (o_knows : Nat → Int32) (x1 : Nat) (x2 : Nat) (x3 : Int32) (hb : x1 < 5) (ht : x2 < 6) : CT l D (tyL tB tI tZ) yX7_canCross (.code yX7_canCross cX7_canCross 4 (some .boolean)) 1 21 [.ref a_o, .int (nI x1), .int (nI x2), .int x3] [(a_o, .inr (7, (.int o_year :: .int (nI o_bridges) :: .ref a_o_forgets :: .int (nI o_men) :: .ref a_o_weight :: .ref a_o_comes :: .int (nI o_oxen) :: .ref a_o_oxWeight :: .ref a_o_oxPrice :: .ref a_o_knows :: .int o_alive :: .int o_day :: .ref a_o_over :: .ref a_o_named :: .ref a_o_lieDay :: .ref a_o_aloneYear :: .int o_seed :: .ref a_o_text :: .int (nI o_texted) :: .int o_faultPlace :: .int (nI o_at0) :: .long o_said :: .int (nI o_wordEnd) :: .int o_number :: .int (nI o_numberAt) :: .int o_readYear :: .int o_readClauses :: .int (nI o_readBridges) :: .ref a_o_readForgets :: .int (nI o_readMen) :: .ref a_o_readWeight :: .ref a_o_readComes :: .int o_readMany :: .ref a_o_readKnows :: .int (nI o_readOxen) :: .ref a_o_readOx :: .ref a_o_readPrice :: .ref a_o_order :: .ref a_o_orderNames :: .int (nI o_sights) :: .ref a_o_seenWho :: .ref a_o_seenNamed :: .ref a_o_seenLetGo :: .ref a_o_placeIn :: .ref a_o_behind :: .int (nI o_rowMany) :: .ref a_o_rowWho :: .ref a_o_rowNames :: .ref a_o_images :: .ref a_o_isKept :: []))), (a_o_over, .inl (tI, 5, .inl o_over)), (a_o_knows, .inl (tI, 6, .inl o_knows))] (fun u : Int32 => some (.int (u))) (fun _ : Int32 => [(a_o, .inr (7, (.int o_year :: .int (nI o_bridges) :: .ref a_o_forgets :: .int (nI o_men) :: .ref a_o_weight :: .ref a_o_comes :: .int (nI o_oxen) :: .ref a_o_oxWeight :: .ref a_o_oxPrice :: .ref a_o_knows :: .int o_alive :: .int o_day :: .ref a_o_over :: .ref a_o_named :: .ref a_o_lieDay :: .ref a_o_aloneYear :: .int o_seed :: .ref a_o_text :: .int (nI o_texted) :: .int o_faultPlace :: .int (nI o_at0) :: .long o_said :: .int (nI o_wordEnd) :: .int o_number :: .int (nI o_numberAt) :: .int o_readYear :: .int o_readClauses :: .int (nI o_readBridges) :: .ref a_o_readForgets :: .int (nI o_readMen) :: .ref a_o_readWeight :: .ref a_o_readComes :: .int o_readMany :: .ref a_o_readKnows :: .int (nI o_readOxen) :: .ref a_o_readOx :: .ref a_o_readPrice :: .ref a_o_order :: .ref a_o_orderNames :: .int (nI o_sights) :: .ref a_o_seenWho :: .ref a_o_seenNamed :: .ref a_o_seenLetGo :: .ref a_o_placeIn :: .ref a_o_behind :: .int (nI o_rowMany) :: .ref a_o_rowWho :: .ref a_o_rowNames :: .ref a_o_images :: .ref a_o_isKept :: []))), (a_o_over, .inl (tI, 5, .inl o_over)), (a_o_knows, .inl (tI, 6, .inl o_knows))]) (S_X7_canCross x1 x2 x3 o_alive o_over o_knows) := by
  refine CT.intro (k := 0) (Nat.le_of_ble_eq_true rfl) (by decide) ?_
  intro p e s m below meth c Q A ls E hA hP hD hS hl hF
  obtain ⟨⟨hx, hb, hml, hown, hts⟩, hK⟩ := id E
  generalize hR : S_X7_canCross x1 x2 x3 o_alive o_over o_knows = RES at hF
  unfold S_X7_canCross at hR
  have hl : lv_has ls 4 [(0, .ref a_o), (1, .int (nI x1)), (2, .int (nI x2)), (3, .int x3)] := hl
  refine lv_aload_n hx hb dX7_canCross_0 rfl (lv_at hl 0 rfl) ?_
  refine fget E hP 0 rfl fd_X7_226 (v := .int o_alive) rfl dX7_canCross_1 ?_
  refine lv_iload_n hx hb dX7_canCross_4 rfl (lv_at hl 2 rfl) ?_
  refine kcS E hl.1 (c_X7_has l D tB tI tZ o_alive (nI x2) ) cs_X7_has wm_X7_184 hP hD hS hA [] rfl rfl rfl (ws2 := [(a_o, .inr (7, (.int o_year :: .int (nI o_bridges) :: .ref a_o_forgets :: .int (nI o_men) :: .ref a_o_weight :: .ref a_o_comes :: .int (nI o_oxen) :: .ref a_o_oxWeight :: .ref a_o_oxPrice :: .ref a_o_knows :: .int o_alive :: .int o_day :: .ref a_o_over :: .ref a_o_named :: .ref a_o_lieDay :: .ref a_o_aloneYear :: .int o_seed :: .ref a_o_text :: .int (nI o_texted) :: .int o_faultPlace :: .int (nI o_at0) :: .long o_said :: .int (nI o_wordEnd) :: .int o_number :: .int (nI o_numberAt) :: .int o_readYear :: .int o_readClauses :: .int (nI o_readBridges) :: .ref a_o_readForgets :: .int (nI o_readMen) :: .ref a_o_readWeight :: .ref a_o_readComes :: .int o_readMany :: .ref a_o_readKnows :: .int (nI o_readOxen) :: .ref a_o_readOx :: .ref a_o_readPrice :: .ref a_o_order :: .ref a_o_orderNames :: .int (nI o_sights) :: .ref a_o_seenWho :: .ref a_o_seenNamed :: .ref a_o_seenLetGo :: .ref a_o_placeIn :: .ref a_o_behind :: .int (nI o_rowMany) :: .ref a_o_rowWho :: .ref a_o_rowNames :: .ref a_o_images :: .ref a_o_isKept :: []))), (a_o_over, .inl (tI, 5, .inl o_over)), (a_o_knows, .inl (tI, 6, .inl o_knows))]) rfl rfl (As := [.int o_alive, .int (nI x2)]) (rest := []) rfl rfl (Nat.le_of_ble_eq_true rfl) ⟨Nat.le_of_ble_eq_true rfl, Nat.le_of_ble_eq_true rfl⟩ ⟨Nat.zero_le _, Nat.zero_le _⟩ dX7_canCross_5 (fun H locs hP hD hS => ?_)
  refine lv_if_eq (tgt := 46) hx hb dX7_canCross_8 (by decide) (fun c_1 => ?_) (fun c_1 => ?_)
  · rw [if_pos c_1] at hR
    refine lv_iconst (v := (0 : Int32)) hx hb dX7_canCross_46 (by decide) ?_
    subst hR
    exact (hF _ _ _ _ hP hS).1 _ rfl ⟨.boolean, rfl, rfl⟩ dX7_canCross_47
  · rw [if_neg c_1] at hR
    refine lv_aload_n hx hb dX7_canCross_11 rfl (lv_at hl 0 rfl) ?_
    refine fget E hP 0 rfl fd_X7_32 (v := .ref a_o_over) rfl dX7_canCross_12 ?_
    refine lv_iload_n hx hb dX7_canCross_15 rfl (lv_at hl 1 rfl) ?_
    refine ild E hP 1 rfl (k := x1) (by omega) (by decide) dX7_canCross_16 ?_
    refine lv_iload_n hx hb dX7_canCross_17 rfl (lv_at hl 2 rfl) ?_
    refine kcS E hl.1 (c_X7_has l D tB tI tZ (o_over x1) (nI x2) ) cs_X7_has wm_X7_184 hP hD hS hA [] rfl rfl rfl (ws2 := [(a_o, .inr (7, (.int o_year :: .int (nI o_bridges) :: .ref a_o_forgets :: .int (nI o_men) :: .ref a_o_weight :: .ref a_o_comes :: .int (nI o_oxen) :: .ref a_o_oxWeight :: .ref a_o_oxPrice :: .ref a_o_knows :: .int o_alive :: .int o_day :: .ref a_o_over :: .ref a_o_named :: .ref a_o_lieDay :: .ref a_o_aloneYear :: .int o_seed :: .ref a_o_text :: .int (nI o_texted) :: .int o_faultPlace :: .int (nI o_at0) :: .long o_said :: .int (nI o_wordEnd) :: .int o_number :: .int (nI o_numberAt) :: .int o_readYear :: .int o_readClauses :: .int (nI o_readBridges) :: .ref a_o_readForgets :: .int (nI o_readMen) :: .ref a_o_readWeight :: .ref a_o_readComes :: .int o_readMany :: .ref a_o_readKnows :: .int (nI o_readOxen) :: .ref a_o_readOx :: .ref a_o_readPrice :: .ref a_o_order :: .ref a_o_orderNames :: .int (nI o_sights) :: .ref a_o_seenWho :: .ref a_o_seenNamed :: .ref a_o_seenLetGo :: .ref a_o_placeIn :: .ref a_o_behind :: .int (nI o_rowMany) :: .ref a_o_rowWho :: .ref a_o_rowNames :: .ref a_o_images :: .ref a_o_isKept :: []))), (a_o_over, .inl (tI, 5, .inl o_over)), (a_o_knows, .inl (tI, 6, .inl o_knows))]) rfl rfl (As := [.int (o_over x1), .int (nI x2)]) (rest := []) rfl rfl (Nat.le_of_ble_eq_true rfl) ⟨Nat.le_of_ble_eq_true rfl, Nat.le_of_ble_eq_true rfl⟩ ⟨Nat.zero_le _, Nat.zero_le _⟩ dX7_canCross_18 (fun H locs hP hD hS => ?_)
    refine lv_if_ne (tgt := 46) hx hb dX7_canCross_21 (by decide) (fun c_2 => ?_) (fun c_2 => ?_)
    · rw [if_neg c_2] at hR
      refine lv_iconst (v := (0 : Int32)) hx hb dX7_canCross_46 (by decide) ?_
      subst hR
      exact (hF _ _ _ _ hP hS).1 _ rfl ⟨.boolean, rfl, rfl⟩ dX7_canCross_47
    · rw [if_pos c_2] at hR
      refine lv_iload_n hx hb dX7_canCross_24 rfl (lv_at hl 3 rfl) ?_
      refine lv_iconst (v := (-1 : Int32)) hx hb dX7_canCross_25 (by decide) ?_
      refine lv_icmp_eq (tgt := 42) hx hb dX7_canCross_26 (by decide) (fun c_3 => ?_) (fun c_3 => ?_)
      · rw [if_pos c_3] at hR
        refine lv_iconst (v := (1 : Int32)) hx hb dX7_canCross_42 (by decide) ?_
        refine lv_goto (tgt := 47) hx hb dX7_canCross_43 (by decide) ?_
        subst hR
        exact (hF _ _ _ _ hP hS).1 _ rfl ⟨.boolean, rfl, rfl⟩ dX7_canCross_47
      · rw [if_neg c_3] at hR
        refine lv_aload_n hx hb dX7_canCross_29 rfl (lv_at hl 0 rfl) ?_
        refine fget E hP 0 rfl fd_X7_29 (v := .ref a_o_knows) rfl dX7_canCross_30 ?_
        refine lv_iload_n hx hb dX7_canCross_33 rfl (lv_at hl 2 rfl) ?_
        refine ild E hP 2 rfl (k := x2) (by omega) (by decide) dX7_canCross_34 ?_
        refine lv_iload_n hx hb dX7_canCross_35 rfl (lv_at hl 3 rfl) ?_
        refine kcS E hl.1 (c_X7_has l D tB tI tZ (o_knows x2) x3 ) cs_X7_has wm_X7_184 hP hD hS hA [] rfl rfl rfl (ws2 := [(a_o, .inr (7, (.int o_year :: .int (nI o_bridges) :: .ref a_o_forgets :: .int (nI o_men) :: .ref a_o_weight :: .ref a_o_comes :: .int (nI o_oxen) :: .ref a_o_oxWeight :: .ref a_o_oxPrice :: .ref a_o_knows :: .int o_alive :: .int o_day :: .ref a_o_over :: .ref a_o_named :: .ref a_o_lieDay :: .ref a_o_aloneYear :: .int o_seed :: .ref a_o_text :: .int (nI o_texted) :: .int o_faultPlace :: .int (nI o_at0) :: .long o_said :: .int (nI o_wordEnd) :: .int o_number :: .int (nI o_numberAt) :: .int o_readYear :: .int o_readClauses :: .int (nI o_readBridges) :: .ref a_o_readForgets :: .int (nI o_readMen) :: .ref a_o_readWeight :: .ref a_o_readComes :: .int o_readMany :: .ref a_o_readKnows :: .int (nI o_readOxen) :: .ref a_o_readOx :: .ref a_o_readPrice :: .ref a_o_order :: .ref a_o_orderNames :: .int (nI o_sights) :: .ref a_o_seenWho :: .ref a_o_seenNamed :: .ref a_o_seenLetGo :: .ref a_o_placeIn :: .ref a_o_behind :: .int (nI o_rowMany) :: .ref a_o_rowWho :: .ref a_o_rowNames :: .ref a_o_images :: .ref a_o_isKept :: []))), (a_o_over, .inl (tI, 5, .inl o_over)), (a_o_knows, .inl (tI, 6, .inl o_knows))]) rfl rfl (As := [.int (o_knows x2), .int x3]) (rest := []) rfl rfl (Nat.le_of_ble_eq_true rfl) ⟨Nat.le_of_ble_eq_true rfl, Nat.le_of_ble_eq_true rfl⟩ ⟨Nat.zero_le _, Nat.zero_le _⟩ dX7_canCross_36 (fun H locs hP hD hS => ?_)
        refine lv_if_eq (tgt := 46) hx hb dX7_canCross_39 (by decide) (fun c_4 => ?_) (fun c_4 => ?_)
        · rw [if_pos c_4] at hR
          refine lv_iconst (v := (0 : Int32)) hx hb dX7_canCross_46 (by decide) ?_
          subst hR
          exact (hF _ _ _ _ hP hS).1 _ rfl ⟨.boolean, rfl, rfl⟩ dX7_canCross_47
        · rw [if_neg c_4] at hR
          refine lv_iconst (v := (1 : Int32)) hx hb dX7_canCross_42 (by decide) ?_
          refine lv_goto (tgt := 47) hx hb dX7_canCross_43 (by decide) ?_
          subst hR
          exact (hF _ _ _ _ hP hS).1 _ rfl ⟨.boolean, rfl, rfl⟩ dX7_canCross_47

def S_X7_crossNow (x1 : Nat) (x2 : Nat) (x3 : Int32) (o_year : Int32) (o_men : Nat) (o_alive : Int32) (o_day : Int32) (o_weight : Nat → Int32) (o_over : Nat → Int32) (o_lieDay : Nat → Int32) (o_forgets : Nat → Int32) (o_aloneYear : Nat → Int32) (o_named : Nat → Int32) : Int32 × (Nat → Int32) × (Nat → Int32) × (Nat → Int32) × Int32 := (if (S_X7_isLetGo x1 x2 x3 o_year o_men o_alive o_day o_weight o_over o_lieDay o_forgets o_aloneYear) = 0 then ((0 : Int32), o_over, o_named, o_aloneYear, (o_alive &&& (((1 : Int32) <<< ((nI x2) &&& 31)) ^^^ (-1 : Int32)))) else (if x3 = (-1 : Int32) then ((1 : Int32), (upd o_over x1 ((o_over x1) ||| ((1 : Int32) <<< ((nI x2) &&& 31)))), (upd o_named ((6 * x1) + x2) x3), (upd o_aloneYear ((6 * x1) + x2) (o_day / o_year)), o_alive) else ((1 : Int32), (upd o_over x1 ((o_over x1) ||| ((1 : Int32) <<< ((nI x2) &&& 31)))), (upd o_named ((6 * x1) + x2) x3), (upd o_aloneYear ((6 * x1) + x2) (o_aloneYear ((6 * x1) + x2))), o_alive)))
set_option maxHeartbeats 4000000 in
set_option maxRecDepth 100000 in
theorem c_X7_crossNow (l : Launch) (D : va_G) (tB tI tZ : ClassId) (a_o a_o_forgets a_o_weight a_o_comes a_o_oxWeight a_o_oxPrice a_o_knows a_o_over a_o_named a_o_lieDay a_o_aloneYear a_o_text a_o_readForgets a_o_readWeight a_o_readComes a_o_readKnows a_o_readOx a_o_readPrice a_o_order a_o_orderNames a_o_seenWho a_o_seenNamed a_o_seenLetGo a_o_placeIn a_o_behind a_o_rowWho a_o_rowNames a_o_images a_o_isKept : Nat) (o_year : Int32) (o_bridges : Nat) (o_men : Nat) (o_oxen : Nat) (o_alive : Int32) (o_day : Int32) (o_seed : Int32) (o_texted : Nat) (o_faultPlace : Int32) (o_at0 : Nat) (o_said : Int64) (o_wordEnd : Nat) (o_number : Int32) (o_numberAt : Nat) (o_readYear : Int32) (o_readClauses : Int32) (o_readBridges : Nat) (o_readMen : Nat) (o_readMany : Int32) (o_readOxen : Nat) (o_sights : Nat) (o_rowMany : Nat) (o_weight : Nat → Int32) (o_over : Nat → Int32) (o_lieDay : Nat → Int32) (o_forgets : Nat → Int32) (o_aloneYear : Nat → Int32) (o_named : Nat → Int32) (x1 : Nat) (x2 : Nat) (x3 : Int32) (hb : x1 < 5) (ht : x2 < 6) (hmen : o_men ≤ 6) (hy : ¬ o_year = 0) (hu : NN 6 x3) : CT l D (tyL tB tI tZ) yX7_crossNow (.code yX7_crossNow cX7_crossNow 4 (some .int)) 3 69 [.ref a_o, .int (nI x1), .int (nI x2), .int x3] [(a_o, .inr (7, (.int o_year :: .int (nI o_bridges) :: .ref a_o_forgets :: .int (nI o_men) :: .ref a_o_weight :: .ref a_o_comes :: .int (nI o_oxen) :: .ref a_o_oxWeight :: .ref a_o_oxPrice :: .ref a_o_knows :: .int o_alive :: .int o_day :: .ref a_o_over :: .ref a_o_named :: .ref a_o_lieDay :: .ref a_o_aloneYear :: .int o_seed :: .ref a_o_text :: .int (nI o_texted) :: .int o_faultPlace :: .int (nI o_at0) :: .long o_said :: .int (nI o_wordEnd) :: .int o_number :: .int (nI o_numberAt) :: .int o_readYear :: .int o_readClauses :: .int (nI o_readBridges) :: .ref a_o_readForgets :: .int (nI o_readMen) :: .ref a_o_readWeight :: .ref a_o_readComes :: .int o_readMany :: .ref a_o_readKnows :: .int (nI o_readOxen) :: .ref a_o_readOx :: .ref a_o_readPrice :: .ref a_o_order :: .ref a_o_orderNames :: .int (nI o_sights) :: .ref a_o_seenWho :: .ref a_o_seenNamed :: .ref a_o_seenLetGo :: .ref a_o_placeIn :: .ref a_o_behind :: .int (nI o_rowMany) :: .ref a_o_rowWho :: .ref a_o_rowNames :: .ref a_o_images :: .ref a_o_isKept :: []))), (a_o_weight, .inl (tI, 6, .inl o_weight)), (a_o_over, .inl (tI, 5, .inl o_over)), (a_o_lieDay, .inl (tI, 30, .inl o_lieDay)), (a_o_forgets, .inl (tI, 5, .inl o_forgets)), (a_o_aloneYear, .inl (tI, 30, .inl o_aloneYear)), (a_o_named, .inl (tI, 30, .inl o_named))] (fun u : Int32 × (Nat → Int32) × (Nat → Int32) × (Nat → Int32) × Int32 => some (.int (u.1))) (fun u : Int32 × (Nat → Int32) × (Nat → Int32) × (Nat → Int32) × Int32 => [(a_o, .inr (7, (.int o_year :: .int (nI o_bridges) :: .ref a_o_forgets :: .int (nI o_men) :: .ref a_o_weight :: .ref a_o_comes :: .int (nI o_oxen) :: .ref a_o_oxWeight :: .ref a_o_oxPrice :: .ref a_o_knows :: .int (u.2.2.2.2) :: .int o_day :: .ref a_o_over :: .ref a_o_named :: .ref a_o_lieDay :: .ref a_o_aloneYear :: .int o_seed :: .ref a_o_text :: .int (nI o_texted) :: .int o_faultPlace :: .int (nI o_at0) :: .long o_said :: .int (nI o_wordEnd) :: .int o_number :: .int (nI o_numberAt) :: .int o_readYear :: .int o_readClauses :: .int (nI o_readBridges) :: .ref a_o_readForgets :: .int (nI o_readMen) :: .ref a_o_readWeight :: .ref a_o_readComes :: .int o_readMany :: .ref a_o_readKnows :: .int (nI o_readOxen) :: .ref a_o_readOx :: .ref a_o_readPrice :: .ref a_o_order :: .ref a_o_orderNames :: .int (nI o_sights) :: .ref a_o_seenWho :: .ref a_o_seenNamed :: .ref a_o_seenLetGo :: .ref a_o_placeIn :: .ref a_o_behind :: .int (nI o_rowMany) :: .ref a_o_rowWho :: .ref a_o_rowNames :: .ref a_o_images :: .ref a_o_isKept :: []))), (a_o_weight, .inl (tI, 6, .inl o_weight)), (a_o_over, .inl (tI, 5, .inl (u.2.1))), (a_o_lieDay, .inl (tI, 30, .inl o_lieDay)), (a_o_forgets, .inl (tI, 5, .inl o_forgets)), (a_o_aloneYear, .inl (tI, 30, .inl (u.2.2.2.1))), (a_o_named, .inl (tI, 30, .inl (u.2.2.1)))]) (S_X7_crossNow x1 x2 x3 o_year o_men o_alive o_day o_weight o_over o_lieDay o_forgets o_aloneYear o_named) := by
  refine CT.intro (k := 0) (Nat.le_of_ble_eq_true rfl) (by decide) ?_
  intro p e s m below meth c Q A ls E hA hP hD hS hl hF
  obtain ⟨⟨hx, hb, hml, hown, hts⟩, hK⟩ := id E
  generalize hR : S_X7_crossNow x1 x2 x3 o_year o_men o_alive o_day o_weight o_over o_lieDay o_forgets o_aloneYear o_named = RES at hF
  unfold S_X7_crossNow at hR
  have hl : lv_has ls 4 [(0, .ref a_o), (1, .int (nI x1)), (2, .int (nI x2)), (3, .int x3)] := hl
  refine lv_aload_n hx hb dX7_crossNow_0 rfl (lv_at hl 0 rfl) ?_
  refine lv_iload_n hx hb dX7_crossNow_1 rfl (lv_at hl 1 rfl) ?_
  refine lv_iload_n hx hb dX7_crossNow_2 rfl (lv_at hl 2 rfl) ?_
  refine lv_iload_n hx hb dX7_crossNow_3 rfl (lv_at hl 3 rfl) ?_
  refine kcV E hl.1 (c_X7_isLetGo l D tB tI tZ a_o a_o_forgets a_o_weight a_o_comes a_o_oxWeight a_o_oxPrice a_o_knows a_o_over a_o_named a_o_lieDay a_o_aloneYear a_o_text a_o_readForgets a_o_readWeight a_o_readComes a_o_readKnows a_o_readOx a_o_readPrice a_o_order a_o_orderNames a_o_seenWho a_o_seenNamed a_o_seenLetGo a_o_placeIn a_o_behind a_o_rowWho a_o_rowNames a_o_images a_o_isKept o_year o_bridges o_men o_oxen o_alive o_day o_seed o_texted o_faultPlace o_at0 o_said o_wordEnd o_number o_numberAt o_readYear o_readClauses o_readBridges o_readMen o_readMany o_readOxen o_sights o_rowMany o_weight o_over o_lieDay o_forgets o_aloneYear x1 x2 x3 (show x1 < 5 by first | assumption | omega | exact NN.none | exact NN.nat (by omega) (by omega) | exact NN.up (by assumption) (by omega)) (show x2 < 6 by first | assumption | omega | exact NN.none | exact NN.nat (by omega) (by omega) | exact NN.up (by assumption) (by omega)) (show o_men ≤ 6 by first | assumption | omega | exact NN.none | exact NN.nat (by omega) (by omega) | exact NN.up (by assumption) (by omega)) (show ¬ o_year = 0 by first | assumption | omega | exact NN.none | exact NN.nat (by omega) (by omega) | exact NN.up (by assumption) (by omega)) (show NN 6 x3 by first | assumption | omega | exact NN.none | exact NN.nat (by omega) (by omega) | exact NN.up (by assumption) (by omega))) cv_X7_isLetGo wm_X7_257 hP hD hS hA [0, 1, 2, 3, 4, 5] rfl rfl rfl (ws2 := [(a_o, .inr (7, (.int o_year :: .int (nI o_bridges) :: .ref a_o_forgets :: .int (nI o_men) :: .ref a_o_weight :: .ref a_o_comes :: .int (nI o_oxen) :: .ref a_o_oxWeight :: .ref a_o_oxPrice :: .ref a_o_knows :: .int o_alive :: .int o_day :: .ref a_o_over :: .ref a_o_named :: .ref a_o_lieDay :: .ref a_o_aloneYear :: .int o_seed :: .ref a_o_text :: .int (nI o_texted) :: .int o_faultPlace :: .int (nI o_at0) :: .long o_said :: .int (nI o_wordEnd) :: .int o_number :: .int (nI o_numberAt) :: .int o_readYear :: .int o_readClauses :: .int (nI o_readBridges) :: .ref a_o_readForgets :: .int (nI o_readMen) :: .ref a_o_readWeight :: .ref a_o_readComes :: .int o_readMany :: .ref a_o_readKnows :: .int (nI o_readOxen) :: .ref a_o_readOx :: .ref a_o_readPrice :: .ref a_o_order :: .ref a_o_orderNames :: .int (nI o_sights) :: .ref a_o_seenWho :: .ref a_o_seenNamed :: .ref a_o_seenLetGo :: .ref a_o_placeIn :: .ref a_o_behind :: .int (nI o_rowMany) :: .ref a_o_rowWho :: .ref a_o_rowNames :: .ref a_o_images :: .ref a_o_isKept :: []))), (a_o_weight, .inl (tI, 6, .inl o_weight)), (a_o_over, .inl (tI, 5, .inl o_over)), (a_o_lieDay, .inl (tI, 30, .inl o_lieDay)), (a_o_forgets, .inl (tI, 5, .inl o_forgets)), (a_o_aloneYear, .inl (tI, 30, .inl o_aloneYear)), (a_o_named, .inl (tI, 30, .inl o_named))]) rfl rfl (b := a_o) (As := [.int (nI x1), .int (nI x2), .int x3]) (rest := []) 0 7 rfl rfl rfl rfl (Nat.le_of_ble_eq_true rfl) ⟨Nat.le_of_ble_eq_true rfl, Nat.le_of_ble_eq_true rfl⟩ ⟨Nat.zero_le _, Nat.zero_le _⟩ dX7_crossNow_4 (fun H locs hP hD hS => ?_)
  refine lv_if_ne (tgt := 26) hx hb dX7_crossNow_7 (by decide) (fun c_1 => ?_) (fun c_1 => ?_)
  · rw [if_neg c_1] at hR
    refine lv_aload_n hx hb dX7_crossNow_26 rfl (lv_at hl 0 rfl) ?_
    refine fget E hP 0 rfl fd_X7_32 (v := .ref a_o_over) rfl dX7_crossNow_27 ?_
    refine lv_iload_n hx hb dX7_crossNow_30 rfl (lv_at hl 1 rfl) ?_
    refine lv_dup2_11 hx hb dX7_crossNow_31 rfl rfl ?_
    refine ild E hP 2 rfl (k := x1) (by omega) (by decide) dX7_crossNow_32 ?_
    refine lv_iconst (v := (1 : Int32)) hx hb dX7_crossNow_33 (by decide) ?_
    refine lv_iload_n hx hb dX7_crossNow_34 rfl (lv_at hl 2 rfl) ?_
    refine lv_ishl hx hb dX7_crossNow_35 ?_
    refine lv_ior hx hb dX7_crossNow_36 ?_
    refine ist E hP hD hS 2 rfl (k := x1) (by omega) (by decide) dX7_crossNow_37 (fun H locs hP hD hS => ?_)
    have hP : va_P D vwCl [(a_o, .inr (7, (.int o_year :: .int (nI o_bridges) :: .ref a_o_forgets :: .int (nI o_men) :: .ref a_o_weight :: .ref a_o_comes :: .int (nI o_oxen) :: .ref a_o_oxWeight :: .ref a_o_oxPrice :: .ref a_o_knows :: .int o_alive :: .int o_day :: .ref a_o_over :: .ref a_o_named :: .ref a_o_lieDay :: .ref a_o_aloneYear :: .int o_seed :: .ref a_o_text :: .int (nI o_texted) :: .int o_faultPlace :: .int (nI o_at0) :: .long o_said :: .int (nI o_wordEnd) :: .int o_number :: .int (nI o_numberAt) :: .int o_readYear :: .int o_readClauses :: .int (nI o_readBridges) :: .ref a_o_readForgets :: .int (nI o_readMen) :: .ref a_o_readWeight :: .ref a_o_readComes :: .int o_readMany :: .ref a_o_readKnows :: .int (nI o_readOxen) :: .ref a_o_readOx :: .ref a_o_readPrice :: .ref a_o_order :: .ref a_o_orderNames :: .int (nI o_sights) :: .ref a_o_seenWho :: .ref a_o_seenNamed :: .ref a_o_seenLetGo :: .ref a_o_placeIn :: .ref a_o_behind :: .int (nI o_rowMany) :: .ref a_o_rowWho :: .ref a_o_rowNames :: .ref a_o_images :: .ref a_o_isKept :: []))), (a_o_weight, .inl (tI, 6, .inl o_weight)), (a_o_over, .inl (tI, 5, .inl (upd o_over x1 ((o_over x1) ||| ((1 : Int32) <<< ((nI x2) &&& 31)))))), (a_o_lieDay, .inl (tI, 30, .inl o_lieDay)), (a_o_forgets, .inl (tI, 5, .inl o_forgets)), (a_o_aloneYear, .inl (tI, 30, .inl o_aloneYear)), (a_o_named, .inl (tI, 30, .inl o_named))] H := hP
    have hD : va_D A [(a_o, .inr (7, (.int o_year :: .int (nI o_bridges) :: .ref a_o_forgets :: .int (nI o_men) :: .ref a_o_weight :: .ref a_o_comes :: .int (nI o_oxen) :: .ref a_o_oxWeight :: .ref a_o_oxPrice :: .ref a_o_knows :: .int o_alive :: .int o_day :: .ref a_o_over :: .ref a_o_named :: .ref a_o_lieDay :: .ref a_o_aloneYear :: .int o_seed :: .ref a_o_text :: .int (nI o_texted) :: .int o_faultPlace :: .int (nI o_at0) :: .long o_said :: .int (nI o_wordEnd) :: .int o_number :: .int (nI o_numberAt) :: .int o_readYear :: .int o_readClauses :: .int (nI o_readBridges) :: .ref a_o_readForgets :: .int (nI o_readMen) :: .ref a_o_readWeight :: .ref a_o_readComes :: .int o_readMany :: .ref a_o_readKnows :: .int (nI o_readOxen) :: .ref a_o_readOx :: .ref a_o_readPrice :: .ref a_o_order :: .ref a_o_orderNames :: .int (nI o_sights) :: .ref a_o_seenWho :: .ref a_o_seenNamed :: .ref a_o_seenLetGo :: .ref a_o_placeIn :: .ref a_o_behind :: .int (nI o_rowMany) :: .ref a_o_rowWho :: .ref a_o_rowNames :: .ref a_o_images :: .ref a_o_isKept :: []))), (a_o_weight, .inl (tI, 6, .inl o_weight)), (a_o_over, .inl (tI, 5, .inl (upd o_over x1 ((o_over x1) ||| ((1 : Int32) <<< ((nI x2) &&& 31)))))), (a_o_lieDay, .inl (tI, 30, .inl o_lieDay)), (a_o_forgets, .inl (tI, 5, .inl o_forgets)), (a_o_aloneYear, .inl (tI, 30, .inl o_aloneYear)), (a_o_named, .inl (tI, 30, .inl o_named))] := hD
    refine lv_aload_n hx hb dX7_crossNow_38 rfl (lv_at hl 0 rfl) ?_
    refine fget E hP 0 rfl fd_X7_35 (v := .ref a_o_named) rfl dX7_crossNow_39 ?_
    refine lv_bipush (v := (6 : Int32)) hx hb dX7_crossNow_42 (by decide) ?_
    refine lv_iload_n hx hb dX7_crossNow_44 rfl (lv_at hl 1 rfl) ?_
    refine lv_imul hx hb dX7_crossNow_45 ?_
    refine lv_is (pk_mul 6 x1) ?_
    refine lv_iload_n hx hb dX7_crossNow_46 rfl (lv_at hl 2 rfl) ?_
    refine lv_iadd hx hb dX7_crossNow_47 ?_
    refine lv_is (nI_add (6 * x1) x2) ?_
    refine lv_iload_n hx hb dX7_crossNow_48 rfl (lv_at hl 3 rfl) ?_
    refine ist E hP hD hS 6 rfl (k := ((6 * x1) + x2)) (by omega) (by decide) dX7_crossNow_49 (fun H locs hP hD hS => ?_)
    have hP : va_P D vwCl [(a_o, .inr (7, (.int o_year :: .int (nI o_bridges) :: .ref a_o_forgets :: .int (nI o_men) :: .ref a_o_weight :: .ref a_o_comes :: .int (nI o_oxen) :: .ref a_o_oxWeight :: .ref a_o_oxPrice :: .ref a_o_knows :: .int o_alive :: .int o_day :: .ref a_o_over :: .ref a_o_named :: .ref a_o_lieDay :: .ref a_o_aloneYear :: .int o_seed :: .ref a_o_text :: .int (nI o_texted) :: .int o_faultPlace :: .int (nI o_at0) :: .long o_said :: .int (nI o_wordEnd) :: .int o_number :: .int (nI o_numberAt) :: .int o_readYear :: .int o_readClauses :: .int (nI o_readBridges) :: .ref a_o_readForgets :: .int (nI o_readMen) :: .ref a_o_readWeight :: .ref a_o_readComes :: .int o_readMany :: .ref a_o_readKnows :: .int (nI o_readOxen) :: .ref a_o_readOx :: .ref a_o_readPrice :: .ref a_o_order :: .ref a_o_orderNames :: .int (nI o_sights) :: .ref a_o_seenWho :: .ref a_o_seenNamed :: .ref a_o_seenLetGo :: .ref a_o_placeIn :: .ref a_o_behind :: .int (nI o_rowMany) :: .ref a_o_rowWho :: .ref a_o_rowNames :: .ref a_o_images :: .ref a_o_isKept :: []))), (a_o_weight, .inl (tI, 6, .inl o_weight)), (a_o_over, .inl (tI, 5, .inl (upd o_over x1 ((o_over x1) ||| ((1 : Int32) <<< ((nI x2) &&& 31)))))), (a_o_lieDay, .inl (tI, 30, .inl o_lieDay)), (a_o_forgets, .inl (tI, 5, .inl o_forgets)), (a_o_aloneYear, .inl (tI, 30, .inl o_aloneYear)), (a_o_named, .inl (tI, 30, .inl (upd o_named ((6 * x1) + x2) x3)))] H := hP
    have hD : va_D A [(a_o, .inr (7, (.int o_year :: .int (nI o_bridges) :: .ref a_o_forgets :: .int (nI o_men) :: .ref a_o_weight :: .ref a_o_comes :: .int (nI o_oxen) :: .ref a_o_oxWeight :: .ref a_o_oxPrice :: .ref a_o_knows :: .int o_alive :: .int o_day :: .ref a_o_over :: .ref a_o_named :: .ref a_o_lieDay :: .ref a_o_aloneYear :: .int o_seed :: .ref a_o_text :: .int (nI o_texted) :: .int o_faultPlace :: .int (nI o_at0) :: .long o_said :: .int (nI o_wordEnd) :: .int o_number :: .int (nI o_numberAt) :: .int o_readYear :: .int o_readClauses :: .int (nI o_readBridges) :: .ref a_o_readForgets :: .int (nI o_readMen) :: .ref a_o_readWeight :: .ref a_o_readComes :: .int o_readMany :: .ref a_o_readKnows :: .int (nI o_readOxen) :: .ref a_o_readOx :: .ref a_o_readPrice :: .ref a_o_order :: .ref a_o_orderNames :: .int (nI o_sights) :: .ref a_o_seenWho :: .ref a_o_seenNamed :: .ref a_o_seenLetGo :: .ref a_o_placeIn :: .ref a_o_behind :: .int (nI o_rowMany) :: .ref a_o_rowWho :: .ref a_o_rowNames :: .ref a_o_images :: .ref a_o_isKept :: []))), (a_o_weight, .inl (tI, 6, .inl o_weight)), (a_o_over, .inl (tI, 5, .inl (upd o_over x1 ((o_over x1) ||| ((1 : Int32) <<< ((nI x2) &&& 31)))))), (a_o_lieDay, .inl (tI, 30, .inl o_lieDay)), (a_o_forgets, .inl (tI, 5, .inl o_forgets)), (a_o_aloneYear, .inl (tI, 30, .inl o_aloneYear)), (a_o_named, .inl (tI, 30, .inl (upd o_named ((6 * x1) + x2) x3)))] := hD
    refine lv_aload_n hx hb dX7_crossNow_50 rfl (lv_at hl 0 rfl) ?_
    refine fget E hP 0 rfl fd_X7_41 (v := .ref a_o_aloneYear) rfl dX7_crossNow_51 ?_
    refine lv_bipush (v := (6 : Int32)) hx hb dX7_crossNow_54 (by decide) ?_
    refine lv_iload_n hx hb dX7_crossNow_56 rfl (lv_at hl 1 rfl) ?_
    refine lv_imul hx hb dX7_crossNow_57 ?_
    refine lv_is (pk_mul 6 x1) ?_
    refine lv_iload_n hx hb dX7_crossNow_58 rfl (lv_at hl 2 rfl) ?_
    refine lv_iadd hx hb dX7_crossNow_59 ?_
    refine lv_is (nI_add (6 * x1) x2) ?_
    refine lv_iload_n hx hb dX7_crossNow_60 rfl (lv_at hl 3 rfl) ?_
    refine lv_iconst (v := (-1 : Int32)) hx hb dX7_crossNow_61 (by decide) ?_
    refine lv_icmp_ne (tgt := 77) hx hb dX7_crossNow_62 (by decide) (fun c_2 => ?_) (fun c_2 => ?_)
    · rw [if_neg c_2] at hR
      refine lv_aload_n hx hb dX7_crossNow_77 rfl (lv_at hl 0 rfl) ?_
      refine fget E hP 0 rfl fd_X7_41 (v := .ref a_o_aloneYear) rfl dX7_crossNow_78 ?_
      refine lv_bipush (v := (6 : Int32)) hx hb dX7_crossNow_81 (by decide) ?_
      refine lv_iload_n hx hb dX7_crossNow_83 rfl (lv_at hl 1 rfl) ?_
      refine lv_imul hx hb dX7_crossNow_84 ?_
      refine lv_is (pk_mul 6 x1) ?_
      refine lv_iload_n hx hb dX7_crossNow_85 rfl (lv_at hl 2 rfl) ?_
      refine lv_iadd hx hb dX7_crossNow_86 ?_
      refine lv_is (nI_add (6 * x1) x2) ?_
      refine ild E hP 5 rfl (k := ((6 * x1) + x2)) (by omega) (by decide) dX7_crossNow_87 ?_
      refine ist E hP hD hS 5 rfl (k := ((6 * x1) + x2)) (by omega) (by decide) dX7_crossNow_88 (fun H locs hP hD hS => ?_)
      have hP : va_P D vwCl [(a_o, .inr (7, (.int o_year :: .int (nI o_bridges) :: .ref a_o_forgets :: .int (nI o_men) :: .ref a_o_weight :: .ref a_o_comes :: .int (nI o_oxen) :: .ref a_o_oxWeight :: .ref a_o_oxPrice :: .ref a_o_knows :: .int o_alive :: .int o_day :: .ref a_o_over :: .ref a_o_named :: .ref a_o_lieDay :: .ref a_o_aloneYear :: .int o_seed :: .ref a_o_text :: .int (nI o_texted) :: .int o_faultPlace :: .int (nI o_at0) :: .long o_said :: .int (nI o_wordEnd) :: .int o_number :: .int (nI o_numberAt) :: .int o_readYear :: .int o_readClauses :: .int (nI o_readBridges) :: .ref a_o_readForgets :: .int (nI o_readMen) :: .ref a_o_readWeight :: .ref a_o_readComes :: .int o_readMany :: .ref a_o_readKnows :: .int (nI o_readOxen) :: .ref a_o_readOx :: .ref a_o_readPrice :: .ref a_o_order :: .ref a_o_orderNames :: .int (nI o_sights) :: .ref a_o_seenWho :: .ref a_o_seenNamed :: .ref a_o_seenLetGo :: .ref a_o_placeIn :: .ref a_o_behind :: .int (nI o_rowMany) :: .ref a_o_rowWho :: .ref a_o_rowNames :: .ref a_o_images :: .ref a_o_isKept :: []))), (a_o_weight, .inl (tI, 6, .inl o_weight)), (a_o_over, .inl (tI, 5, .inl (upd o_over x1 ((o_over x1) ||| ((1 : Int32) <<< ((nI x2) &&& 31)))))), (a_o_lieDay, .inl (tI, 30, .inl o_lieDay)), (a_o_forgets, .inl (tI, 5, .inl o_forgets)), (a_o_aloneYear, .inl (tI, 30, .inl (upd o_aloneYear ((6 * x1) + x2) (o_aloneYear ((6 * x1) + x2))))), (a_o_named, .inl (tI, 30, .inl (upd o_named ((6 * x1) + x2) x3)))] H := hP
      have hD : va_D A [(a_o, .inr (7, (.int o_year :: .int (nI o_bridges) :: .ref a_o_forgets :: .int (nI o_men) :: .ref a_o_weight :: .ref a_o_comes :: .int (nI o_oxen) :: .ref a_o_oxWeight :: .ref a_o_oxPrice :: .ref a_o_knows :: .int o_alive :: .int o_day :: .ref a_o_over :: .ref a_o_named :: .ref a_o_lieDay :: .ref a_o_aloneYear :: .int o_seed :: .ref a_o_text :: .int (nI o_texted) :: .int o_faultPlace :: .int (nI o_at0) :: .long o_said :: .int (nI o_wordEnd) :: .int o_number :: .int (nI o_numberAt) :: .int o_readYear :: .int o_readClauses :: .int (nI o_readBridges) :: .ref a_o_readForgets :: .int (nI o_readMen) :: .ref a_o_readWeight :: .ref a_o_readComes :: .int o_readMany :: .ref a_o_readKnows :: .int (nI o_readOxen) :: .ref a_o_readOx :: .ref a_o_readPrice :: .ref a_o_order :: .ref a_o_orderNames :: .int (nI o_sights) :: .ref a_o_seenWho :: .ref a_o_seenNamed :: .ref a_o_seenLetGo :: .ref a_o_placeIn :: .ref a_o_behind :: .int (nI o_rowMany) :: .ref a_o_rowWho :: .ref a_o_rowNames :: .ref a_o_images :: .ref a_o_isKept :: []))), (a_o_weight, .inl (tI, 6, .inl o_weight)), (a_o_over, .inl (tI, 5, .inl (upd o_over x1 ((o_over x1) ||| ((1 : Int32) <<< ((nI x2) &&& 31)))))), (a_o_lieDay, .inl (tI, 30, .inl o_lieDay)), (a_o_forgets, .inl (tI, 5, .inl o_forgets)), (a_o_aloneYear, .inl (tI, 30, .inl (upd o_aloneYear ((6 * x1) + x2) (o_aloneYear ((6 * x1) + x2))))), (a_o_named, .inl (tI, 30, .inl (upd o_named ((6 * x1) + x2) x3)))] := hD
      refine lv_iconst (v := (1 : Int32)) hx hb dX7_crossNow_89 (by decide) ?_
      subst hR
      exact (hF _ _ _ _ hP hS).1 _ rfl ⟨.int, rfl, rfl⟩ dX7_crossNow_90
    · rw [if_pos c_2] at hR
      refine lv_aload_n hx hb dX7_crossNow_65 rfl (lv_at hl 0 rfl) ?_
      refine fget E hP 0 rfl fd_X7_229 (v := .int o_day) rfl dX7_crossNow_66 ?_
      refine lv_aload_n hx hb dX7_crossNow_69 rfl (lv_at hl 0 rfl) ?_
      refine fget E hP 0 rfl fd_X7_7 (v := .int o_year) rfl dX7_crossNow_70 ?_
      refine lv_idiv hx hb dX7_crossNow_73 (hy) ?_
      refine lv_goto (tgt := 88) hx hb dX7_crossNow_74 (by decide) ?_
      refine ist E hP hD hS 5 rfl (k := ((6 * x1) + x2)) (by omega) (by decide) dX7_crossNow_88 (fun H locs hP hD hS => ?_)
      have hP : va_P D vwCl [(a_o, .inr (7, (.int o_year :: .int (nI o_bridges) :: .ref a_o_forgets :: .int (nI o_men) :: .ref a_o_weight :: .ref a_o_comes :: .int (nI o_oxen) :: .ref a_o_oxWeight :: .ref a_o_oxPrice :: .ref a_o_knows :: .int o_alive :: .int o_day :: .ref a_o_over :: .ref a_o_named :: .ref a_o_lieDay :: .ref a_o_aloneYear :: .int o_seed :: .ref a_o_text :: .int (nI o_texted) :: .int o_faultPlace :: .int (nI o_at0) :: .long o_said :: .int (nI o_wordEnd) :: .int o_number :: .int (nI o_numberAt) :: .int o_readYear :: .int o_readClauses :: .int (nI o_readBridges) :: .ref a_o_readForgets :: .int (nI o_readMen) :: .ref a_o_readWeight :: .ref a_o_readComes :: .int o_readMany :: .ref a_o_readKnows :: .int (nI o_readOxen) :: .ref a_o_readOx :: .ref a_o_readPrice :: .ref a_o_order :: .ref a_o_orderNames :: .int (nI o_sights) :: .ref a_o_seenWho :: .ref a_o_seenNamed :: .ref a_o_seenLetGo :: .ref a_o_placeIn :: .ref a_o_behind :: .int (nI o_rowMany) :: .ref a_o_rowWho :: .ref a_o_rowNames :: .ref a_o_images :: .ref a_o_isKept :: []))), (a_o_weight, .inl (tI, 6, .inl o_weight)), (a_o_over, .inl (tI, 5, .inl (upd o_over x1 ((o_over x1) ||| ((1 : Int32) <<< ((nI x2) &&& 31)))))), (a_o_lieDay, .inl (tI, 30, .inl o_lieDay)), (a_o_forgets, .inl (tI, 5, .inl o_forgets)), (a_o_aloneYear, .inl (tI, 30, .inl (upd o_aloneYear ((6 * x1) + x2) (o_day / o_year)))), (a_o_named, .inl (tI, 30, .inl (upd o_named ((6 * x1) + x2) x3)))] H := hP
      have hD : va_D A [(a_o, .inr (7, (.int o_year :: .int (nI o_bridges) :: .ref a_o_forgets :: .int (nI o_men) :: .ref a_o_weight :: .ref a_o_comes :: .int (nI o_oxen) :: .ref a_o_oxWeight :: .ref a_o_oxPrice :: .ref a_o_knows :: .int o_alive :: .int o_day :: .ref a_o_over :: .ref a_o_named :: .ref a_o_lieDay :: .ref a_o_aloneYear :: .int o_seed :: .ref a_o_text :: .int (nI o_texted) :: .int o_faultPlace :: .int (nI o_at0) :: .long o_said :: .int (nI o_wordEnd) :: .int o_number :: .int (nI o_numberAt) :: .int o_readYear :: .int o_readClauses :: .int (nI o_readBridges) :: .ref a_o_readForgets :: .int (nI o_readMen) :: .ref a_o_readWeight :: .ref a_o_readComes :: .int o_readMany :: .ref a_o_readKnows :: .int (nI o_readOxen) :: .ref a_o_readOx :: .ref a_o_readPrice :: .ref a_o_order :: .ref a_o_orderNames :: .int (nI o_sights) :: .ref a_o_seenWho :: .ref a_o_seenNamed :: .ref a_o_seenLetGo :: .ref a_o_placeIn :: .ref a_o_behind :: .int (nI o_rowMany) :: .ref a_o_rowWho :: .ref a_o_rowNames :: .ref a_o_images :: .ref a_o_isKept :: []))), (a_o_weight, .inl (tI, 6, .inl o_weight)), (a_o_over, .inl (tI, 5, .inl (upd o_over x1 ((o_over x1) ||| ((1 : Int32) <<< ((nI x2) &&& 31)))))), (a_o_lieDay, .inl (tI, 30, .inl o_lieDay)), (a_o_forgets, .inl (tI, 5, .inl o_forgets)), (a_o_aloneYear, .inl (tI, 30, .inl (upd o_aloneYear ((6 * x1) + x2) (o_day / o_year)))), (a_o_named, .inl (tI, 30, .inl (upd o_named ((6 * x1) + x2) x3)))] := hD
      refine lv_iconst (v := (1 : Int32)) hx hb dX7_crossNow_89 (by decide) ?_
      subst hR
      exact (hF _ _ _ _ hP hS).1 _ rfl ⟨.int, rfl, rfl⟩ dX7_crossNow_90
  · rw [if_pos c_1] at hR
    refine lv_aload_n hx hb dX7_crossNow_10 rfl (lv_at hl 0 rfl) ?_
    refine lv_dup hx hb dX7_crossNow_11 rfl ?_
    refine fget E hP 0 rfl fd_X7_226 (v := .int o_alive) rfl dX7_crossNow_12 ?_
    refine lv_iconst (v := (1 : Int32)) hx hb dX7_crossNow_15 (by decide) ?_
    refine lv_iload_n hx hb dX7_crossNow_16 rfl (lv_at hl 2 rfl) ?_
    refine lv_ishl hx hb dX7_crossNow_17 ?_
    refine lv_iconst (v := (-1 : Int32)) hx hb dX7_crossNow_18 (by decide) ?_
    refine lv_ixor hx hb dX7_crossNow_19 ?_
    refine lv_iand hx hb dX7_crossNow_20 ?_
    refine fput E hP hD hS 0 rfl fd_X7_226 fp_X7 (ty := .int) (v := .int (o_alive &&& (((1 : Int32) <<< ((nI x2) &&& 31)) ^^^ (-1 : Int32)))) rfl rfl rfl rfl (Nat.le_of_ble_eq_true rfl) dX7_crossNow_21 (fun H locs hP hD hS => ?_)
    have hP : va_P D vwCl [(a_o, .inr (7, (.int o_year :: .int (nI o_bridges) :: .ref a_o_forgets :: .int (nI o_men) :: .ref a_o_weight :: .ref a_o_comes :: .int (nI o_oxen) :: .ref a_o_oxWeight :: .ref a_o_oxPrice :: .ref a_o_knows :: .int (o_alive &&& (((1 : Int32) <<< ((nI x2) &&& 31)) ^^^ (-1 : Int32))) :: .int o_day :: .ref a_o_over :: .ref a_o_named :: .ref a_o_lieDay :: .ref a_o_aloneYear :: .int o_seed :: .ref a_o_text :: .int (nI o_texted) :: .int o_faultPlace :: .int (nI o_at0) :: .long o_said :: .int (nI o_wordEnd) :: .int o_number :: .int (nI o_numberAt) :: .int o_readYear :: .int o_readClauses :: .int (nI o_readBridges) :: .ref a_o_readForgets :: .int (nI o_readMen) :: .ref a_o_readWeight :: .ref a_o_readComes :: .int o_readMany :: .ref a_o_readKnows :: .int (nI o_readOxen) :: .ref a_o_readOx :: .ref a_o_readPrice :: .ref a_o_order :: .ref a_o_orderNames :: .int (nI o_sights) :: .ref a_o_seenWho :: .ref a_o_seenNamed :: .ref a_o_seenLetGo :: .ref a_o_placeIn :: .ref a_o_behind :: .int (nI o_rowMany) :: .ref a_o_rowWho :: .ref a_o_rowNames :: .ref a_o_images :: .ref a_o_isKept :: []))), (a_o_weight, .inl (tI, 6, .inl o_weight)), (a_o_over, .inl (tI, 5, .inl o_over)), (a_o_lieDay, .inl (tI, 30, .inl o_lieDay)), (a_o_forgets, .inl (tI, 5, .inl o_forgets)), (a_o_aloneYear, .inl (tI, 30, .inl o_aloneYear)), (a_o_named, .inl (tI, 30, .inl o_named))] H := hP
    have hD : va_D A [(a_o, .inr (7, (.int o_year :: .int (nI o_bridges) :: .ref a_o_forgets :: .int (nI o_men) :: .ref a_o_weight :: .ref a_o_comes :: .int (nI o_oxen) :: .ref a_o_oxWeight :: .ref a_o_oxPrice :: .ref a_o_knows :: .int (o_alive &&& (((1 : Int32) <<< ((nI x2) &&& 31)) ^^^ (-1 : Int32))) :: .int o_day :: .ref a_o_over :: .ref a_o_named :: .ref a_o_lieDay :: .ref a_o_aloneYear :: .int o_seed :: .ref a_o_text :: .int (nI o_texted) :: .int o_faultPlace :: .int (nI o_at0) :: .long o_said :: .int (nI o_wordEnd) :: .int o_number :: .int (nI o_numberAt) :: .int o_readYear :: .int o_readClauses :: .int (nI o_readBridges) :: .ref a_o_readForgets :: .int (nI o_readMen) :: .ref a_o_readWeight :: .ref a_o_readComes :: .int o_readMany :: .ref a_o_readKnows :: .int (nI o_readOxen) :: .ref a_o_readOx :: .ref a_o_readPrice :: .ref a_o_order :: .ref a_o_orderNames :: .int (nI o_sights) :: .ref a_o_seenWho :: .ref a_o_seenNamed :: .ref a_o_seenLetGo :: .ref a_o_placeIn :: .ref a_o_behind :: .int (nI o_rowMany) :: .ref a_o_rowWho :: .ref a_o_rowNames :: .ref a_o_images :: .ref a_o_isKept :: []))), (a_o_weight, .inl (tI, 6, .inl o_weight)), (a_o_over, .inl (tI, 5, .inl o_over)), (a_o_lieDay, .inl (tI, 30, .inl o_lieDay)), (a_o_forgets, .inl (tI, 5, .inl o_forgets)), (a_o_aloneYear, .inl (tI, 30, .inl o_aloneYear)), (a_o_named, .inl (tI, 30, .inl o_named))] := hD
    refine lv_iconst (v := (0 : Int32)) hx hb dX7_crossNow_24 (by decide) ?_
    subst hR
    exact (hF _ _ _ _ hP hS).1 _ rfl ⟨.int, rfl, rfl⟩ dX7_crossNow_25

def K_X7_cross_46  (r46_r : Int32) (r46_o_over : Nat → Int32) (r46_o_named : Nat → Int32) (r46_o_aloneYear : Nat → Int32) (r46_o_alive : Int32) : Int32 × (Nat → Int32) × (Nat → Int32) × (Nat → Int32) × Int32 := (r46_r, r46_o_over, r46_o_named, r46_o_aloneYear, r46_o_alive)
def S_X7_cross (x1 : Int32) (x2 : Int32) (x3 : Int32) (o_year : Int32) (o_bridges : Nat) (o_men : Nat) (o_alive : Int32) (o_day : Int32) (o_over : Nat → Int32) (o_knows : Nat → Int32) (o_weight : Nat → Int32) (o_lieDay : Nat → Int32) (o_forgets : Nat → Int32) (o_aloneYear : Nat → Int32) (o_named : Nat → Int32) : Int32 × (Nat → Int32) × (Nat → Int32) × (Nat → Int32) × Int32 := (if (S_X7_isBridge x1 o_bridges) = 0 then ((-1000000001 : Int32), o_over, o_named, o_aloneYear, o_alive) else (if (S_X7_isMan x2 o_men) = 0 then ((-1000000001 : Int32), o_over, o_named, o_aloneYear, o_alive) else (if (S_X7_isManOrNone x3 o_men) = 0 then ((-1000000001 : Int32), o_over, o_named, o_aloneYear, o_alive) else (if (nI x2.toNatClampNeg) = x3 then ((-1000000001 : Int32), o_over, o_named, o_aloneYear, o_alive) else (if (S_X7_canCross x1.toNatClampNeg x2.toNatClampNeg x3 o_alive o_over o_knows) = 0 then ((-1000000003 : Int32), o_over, o_named, o_aloneYear, o_alive) else ((fun u => K_X7_cross_46  u.1 u.2.1 u.2.2.1 u.2.2.2.1 u.2.2.2.2) (S_X7_crossNow x1.toNatClampNeg x2.toNatClampNeg x3 o_year o_men o_alive o_day o_weight o_over o_lieDay o_forgets o_aloneYear o_named)))))))
set_option maxHeartbeats 4000000 in
set_option maxRecDepth 100000 in
theorem c_X7_cross (l : Launch) (D : va_G) (tB tI tZ : ClassId) (a_o a_o_forgets a_o_weight a_o_comes a_o_oxWeight a_o_oxPrice a_o_knows a_o_over a_o_named a_o_lieDay a_o_aloneYear a_o_text a_o_readForgets a_o_readWeight a_o_readComes a_o_readKnows a_o_readOx a_o_readPrice a_o_order a_o_orderNames a_o_seenWho a_o_seenNamed a_o_seenLetGo a_o_placeIn a_o_behind a_o_rowWho a_o_rowNames a_o_images a_o_isKept : Nat) (o_year : Int32) (o_bridges : Nat) (o_men : Nat) (o_oxen : Nat) (o_alive : Int32) (o_day : Int32) (o_seed : Int32) (o_texted : Nat) (o_faultPlace : Int32) (o_at0 : Nat) (o_said : Int64) (o_wordEnd : Nat) (o_number : Int32) (o_numberAt : Nat) (o_readYear : Int32) (o_readClauses : Int32) (o_readBridges : Nat) (o_readMen : Nat) (o_readMany : Int32) (o_readOxen : Nat) (o_sights : Nat) (o_rowMany : Nat) (o_over : Nat → Int32) (o_knows : Nat → Int32) (o_weight : Nat → Int32) (o_lieDay : Nat → Int32) (o_forgets : Nat → Int32) (o_aloneYear : Nat → Int32) (o_named : Nat → Int32) (x1 : Int32) (x2 : Int32) (x3 : Int32) (hbr : o_bridges ≤ 5) (hmen : o_men ≤ 6) (hy : ¬ o_year = 0) : CT l D (tyL tB tI tZ) yX7_cross (.code yX7_cross cX7_cross 4 (some .int)) 4 92 [.ref a_o, .int x1, .int x2, .int x3] [(a_o, .inr (7, (.int o_year :: .int (nI o_bridges) :: .ref a_o_forgets :: .int (nI o_men) :: .ref a_o_weight :: .ref a_o_comes :: .int (nI o_oxen) :: .ref a_o_oxWeight :: .ref a_o_oxPrice :: .ref a_o_knows :: .int o_alive :: .int o_day :: .ref a_o_over :: .ref a_o_named :: .ref a_o_lieDay :: .ref a_o_aloneYear :: .int o_seed :: .ref a_o_text :: .int (nI o_texted) :: .int o_faultPlace :: .int (nI o_at0) :: .long o_said :: .int (nI o_wordEnd) :: .int o_number :: .int (nI o_numberAt) :: .int o_readYear :: .int o_readClauses :: .int (nI o_readBridges) :: .ref a_o_readForgets :: .int (nI o_readMen) :: .ref a_o_readWeight :: .ref a_o_readComes :: .int o_readMany :: .ref a_o_readKnows :: .int (nI o_readOxen) :: .ref a_o_readOx :: .ref a_o_readPrice :: .ref a_o_order :: .ref a_o_orderNames :: .int (nI o_sights) :: .ref a_o_seenWho :: .ref a_o_seenNamed :: .ref a_o_seenLetGo :: .ref a_o_placeIn :: .ref a_o_behind :: .int (nI o_rowMany) :: .ref a_o_rowWho :: .ref a_o_rowNames :: .ref a_o_images :: .ref a_o_isKept :: []))), (a_o_over, .inl (tI, 5, .inl o_over)), (a_o_knows, .inl (tI, 6, .inl o_knows)), (a_o_weight, .inl (tI, 6, .inl o_weight)), (a_o_lieDay, .inl (tI, 30, .inl o_lieDay)), (a_o_forgets, .inl (tI, 5, .inl o_forgets)), (a_o_aloneYear, .inl (tI, 30, .inl o_aloneYear)), (a_o_named, .inl (tI, 30, .inl o_named))] (fun u : Int32 × (Nat → Int32) × (Nat → Int32) × (Nat → Int32) × Int32 => some (.int (u.1))) (fun u : Int32 × (Nat → Int32) × (Nat → Int32) × (Nat → Int32) × Int32 => [(a_o, .inr (7, (.int o_year :: .int (nI o_bridges) :: .ref a_o_forgets :: .int (nI o_men) :: .ref a_o_weight :: .ref a_o_comes :: .int (nI o_oxen) :: .ref a_o_oxWeight :: .ref a_o_oxPrice :: .ref a_o_knows :: .int (u.2.2.2.2) :: .int o_day :: .ref a_o_over :: .ref a_o_named :: .ref a_o_lieDay :: .ref a_o_aloneYear :: .int o_seed :: .ref a_o_text :: .int (nI o_texted) :: .int o_faultPlace :: .int (nI o_at0) :: .long o_said :: .int (nI o_wordEnd) :: .int o_number :: .int (nI o_numberAt) :: .int o_readYear :: .int o_readClauses :: .int (nI o_readBridges) :: .ref a_o_readForgets :: .int (nI o_readMen) :: .ref a_o_readWeight :: .ref a_o_readComes :: .int o_readMany :: .ref a_o_readKnows :: .int (nI o_readOxen) :: .ref a_o_readOx :: .ref a_o_readPrice :: .ref a_o_order :: .ref a_o_orderNames :: .int (nI o_sights) :: .ref a_o_seenWho :: .ref a_o_seenNamed :: .ref a_o_seenLetGo :: .ref a_o_placeIn :: .ref a_o_behind :: .int (nI o_rowMany) :: .ref a_o_rowWho :: .ref a_o_rowNames :: .ref a_o_images :: .ref a_o_isKept :: []))), (a_o_over, .inl (tI, 5, .inl (u.2.1))), (a_o_knows, .inl (tI, 6, .inl o_knows)), (a_o_weight, .inl (tI, 6, .inl o_weight)), (a_o_lieDay, .inl (tI, 30, .inl o_lieDay)), (a_o_forgets, .inl (tI, 5, .inl o_forgets)), (a_o_aloneYear, .inl (tI, 30, .inl (u.2.2.2.1))), (a_o_named, .inl (tI, 30, .inl (u.2.2.1)))]) (S_X7_cross x1 x2 x3 o_year o_bridges o_men o_alive o_day o_over o_knows o_weight o_lieDay o_forgets o_aloneYear o_named) := by
  refine CT.intro (k := 0) (Nat.le_of_ble_eq_true rfl) (by decide) ?_
  intro p e s m below meth c Q A ls E hA hP hD hS hl hF
  obtain ⟨⟨hx, hb, hml, hown, hts⟩, hK⟩ := id E
  generalize hR : S_X7_cross x1 x2 x3 o_year o_bridges o_men o_alive o_day o_over o_knows o_weight o_lieDay o_forgets o_aloneYear o_named = RES at hF
  unfold S_X7_cross at hR
  have hl : lv_has ls 4 [(0, .ref a_o), (1, .int x1), (2, .int x2), (3, .int x3)] := hl
  refine lv_aload_n hx hb dX7_cross_0 rfl (lv_at hl 0 rfl) ?_
  refine lv_iload_n hx hb dX7_cross_1 rfl (lv_at hl 1 rfl) ?_
  refine kcV E hl.1 (c_X7_isBridge l D tB tI tZ a_o a_o_forgets a_o_weight a_o_comes a_o_oxWeight a_o_oxPrice a_o_knows a_o_over a_o_named a_o_lieDay a_o_aloneYear a_o_text a_o_readForgets a_o_readWeight a_o_readComes a_o_readKnows a_o_readOx a_o_readPrice a_o_order a_o_orderNames a_o_seenWho a_o_seenNamed a_o_seenLetGo a_o_placeIn a_o_behind a_o_rowWho a_o_rowNames a_o_images a_o_isKept o_year o_bridges o_men o_oxen o_alive o_day o_seed o_texted o_faultPlace o_at0 o_said o_wordEnd o_number o_numberAt o_readYear o_readClauses o_readBridges o_readMen o_readMany o_readOxen o_sights o_rowMany x1 ) cv_X7_isBridge wm_X7_241 hP hD hS hA [0] rfl rfl rfl (ws2 := [(a_o, .inr (7, (.int o_year :: .int (nI o_bridges) :: .ref a_o_forgets :: .int (nI o_men) :: .ref a_o_weight :: .ref a_o_comes :: .int (nI o_oxen) :: .ref a_o_oxWeight :: .ref a_o_oxPrice :: .ref a_o_knows :: .int o_alive :: .int o_day :: .ref a_o_over :: .ref a_o_named :: .ref a_o_lieDay :: .ref a_o_aloneYear :: .int o_seed :: .ref a_o_text :: .int (nI o_texted) :: .int o_faultPlace :: .int (nI o_at0) :: .long o_said :: .int (nI o_wordEnd) :: .int o_number :: .int (nI o_numberAt) :: .int o_readYear :: .int o_readClauses :: .int (nI o_readBridges) :: .ref a_o_readForgets :: .int (nI o_readMen) :: .ref a_o_readWeight :: .ref a_o_readComes :: .int o_readMany :: .ref a_o_readKnows :: .int (nI o_readOxen) :: .ref a_o_readOx :: .ref a_o_readPrice :: .ref a_o_order :: .ref a_o_orderNames :: .int (nI o_sights) :: .ref a_o_seenWho :: .ref a_o_seenNamed :: .ref a_o_seenLetGo :: .ref a_o_placeIn :: .ref a_o_behind :: .int (nI o_rowMany) :: .ref a_o_rowWho :: .ref a_o_rowNames :: .ref a_o_images :: .ref a_o_isKept :: []))), (a_o_over, .inl (tI, 5, .inl o_over)), (a_o_knows, .inl (tI, 6, .inl o_knows)), (a_o_weight, .inl (tI, 6, .inl o_weight)), (a_o_lieDay, .inl (tI, 30, .inl o_lieDay)), (a_o_forgets, .inl (tI, 5, .inl o_forgets)), (a_o_aloneYear, .inl (tI, 30, .inl o_aloneYear)), (a_o_named, .inl (tI, 30, .inl o_named))]) rfl rfl (b := a_o) (As := [.int x1]) (rest := []) 0 7 rfl rfl rfl rfl (Nat.le_of_ble_eq_true rfl) ⟨Nat.le_of_ble_eq_true rfl, Nat.le_of_ble_eq_true rfl⟩ ⟨Nat.zero_le _, Nat.zero_le _⟩ dX7_cross_2 (fun H locs hP hD hS => ?_)
  refine lv_if_eq (tgt := 29) hx hb dX7_cross_5 (by decide) (fun c_1 => ?_) (fun c_1 => ?_)
  · rw [if_pos c_1] at hR
    refine lv_ldc hx hb hown (hts _ wk_X7_244) dX7_cross_29 ?_
    subst hR
    exact (hF _ _ _ _ hP hS).1 _ rfl ⟨.int, rfl, rfl⟩ dX7_cross_31
  · rw [if_neg c_1] at hR
    obtain ⟨fa_c_1, fb_c_1⟩ := isBridge_of c_1 (by omega)
    refine lv_aload_n hx hb dX7_cross_8 rfl (lv_at hl 0 rfl) ?_
    refine lv_iload_n hx hb dX7_cross_9 rfl (lv_at hl 2 rfl) ?_
    refine kcV E hl.1 (c_X7_isMan l D tB tI tZ a_o a_o_forgets a_o_weight a_o_comes a_o_oxWeight a_o_oxPrice a_o_knows a_o_over a_o_named a_o_lieDay a_o_aloneYear a_o_text a_o_readForgets a_o_readWeight a_o_readComes a_o_readKnows a_o_readOx a_o_readPrice a_o_order a_o_orderNames a_o_seenWho a_o_seenNamed a_o_seenLetGo a_o_placeIn a_o_behind a_o_rowWho a_o_rowNames a_o_images a_o_isKept o_year o_bridges o_men o_oxen o_alive o_day o_seed o_texted o_faultPlace o_at0 o_said o_wordEnd o_number o_numberAt o_readYear o_readClauses o_readBridges o_readMen o_readMany o_readOxen o_sights o_rowMany x2 ) cv_X7_isMan wm_X7_112 hP hD hS hA [0] rfl rfl rfl (ws2 := [(a_o, .inr (7, (.int o_year :: .int (nI o_bridges) :: .ref a_o_forgets :: .int (nI o_men) :: .ref a_o_weight :: .ref a_o_comes :: .int (nI o_oxen) :: .ref a_o_oxWeight :: .ref a_o_oxPrice :: .ref a_o_knows :: .int o_alive :: .int o_day :: .ref a_o_over :: .ref a_o_named :: .ref a_o_lieDay :: .ref a_o_aloneYear :: .int o_seed :: .ref a_o_text :: .int (nI o_texted) :: .int o_faultPlace :: .int (nI o_at0) :: .long o_said :: .int (nI o_wordEnd) :: .int o_number :: .int (nI o_numberAt) :: .int o_readYear :: .int o_readClauses :: .int (nI o_readBridges) :: .ref a_o_readForgets :: .int (nI o_readMen) :: .ref a_o_readWeight :: .ref a_o_readComes :: .int o_readMany :: .ref a_o_readKnows :: .int (nI o_readOxen) :: .ref a_o_readOx :: .ref a_o_readPrice :: .ref a_o_order :: .ref a_o_orderNames :: .int (nI o_sights) :: .ref a_o_seenWho :: .ref a_o_seenNamed :: .ref a_o_seenLetGo :: .ref a_o_placeIn :: .ref a_o_behind :: .int (nI o_rowMany) :: .ref a_o_rowWho :: .ref a_o_rowNames :: .ref a_o_images :: .ref a_o_isKept :: []))), (a_o_over, .inl (tI, 5, .inl o_over)), (a_o_knows, .inl (tI, 6, .inl o_knows)), (a_o_weight, .inl (tI, 6, .inl o_weight)), (a_o_lieDay, .inl (tI, 30, .inl o_lieDay)), (a_o_forgets, .inl (tI, 5, .inl o_forgets)), (a_o_aloneYear, .inl (tI, 30, .inl o_aloneYear)), (a_o_named, .inl (tI, 30, .inl o_named))]) rfl rfl (b := a_o) (As := [.int x2]) (rest := []) 0 7 rfl rfl rfl rfl (Nat.le_of_ble_eq_true rfl) ⟨Nat.le_of_ble_eq_true rfl, Nat.le_of_ble_eq_true rfl⟩ ⟨Nat.zero_le _, Nat.zero_le _⟩ dX7_cross_10 (fun H locs hP hD hS => ?_)
    refine lv_if_eq (tgt := 29) hx hb dX7_cross_13 (by decide) (fun c_2 => ?_) (fun c_2 => ?_)
    · rw [if_pos c_2] at hR
      refine lv_ldc hx hb hown (hts _ wk_X7_244) dX7_cross_29 ?_
      subst hR
      exact (hF _ _ _ _ hP hS).1 _ rfl ⟨.int, rfl, rfl⟩ dX7_cross_31
    · rw [if_neg c_2] at hR
      obtain ⟨fa_c_2, fb_c_2⟩ := isMan_of c_2 (by omega)
      refine lv_aload_n hx hb dX7_cross_16 rfl (lv_at hl 0 rfl) ?_
      refine lv_iload_n hx hb dX7_cross_17 rfl (lv_at hl 3 rfl) ?_
      refine kcV E hl.1 (c_X7_isManOrNone l D tB tI tZ a_o a_o_forgets a_o_weight a_o_comes a_o_oxWeight a_o_oxPrice a_o_knows a_o_over a_o_named a_o_lieDay a_o_aloneYear a_o_text a_o_readForgets a_o_readWeight a_o_readComes a_o_readKnows a_o_readOx a_o_readPrice a_o_order a_o_orderNames a_o_seenWho a_o_seenNamed a_o_seenLetGo a_o_placeIn a_o_behind a_o_rowWho a_o_rowNames a_o_images a_o_isKept o_year o_bridges o_men o_oxen o_alive o_day o_seed o_texted o_faultPlace o_at0 o_said o_wordEnd o_number o_numberAt o_readYear o_readClauses o_readBridges o_readMen o_readMany o_readOxen o_sights o_rowMany x3 (show o_men ≤ 6 by first | assumption | omega | exact NN.none | exact NN.nat (by omega) (by omega) | exact NN.up (by assumption) (by omega))) cv_X7_isManOrNone wm_X7_260 hP hD hS hA [0] rfl rfl rfl (ws2 := [(a_o, .inr (7, (.int o_year :: .int (nI o_bridges) :: .ref a_o_forgets :: .int (nI o_men) :: .ref a_o_weight :: .ref a_o_comes :: .int (nI o_oxen) :: .ref a_o_oxWeight :: .ref a_o_oxPrice :: .ref a_o_knows :: .int o_alive :: .int o_day :: .ref a_o_over :: .ref a_o_named :: .ref a_o_lieDay :: .ref a_o_aloneYear :: .int o_seed :: .ref a_o_text :: .int (nI o_texted) :: .int o_faultPlace :: .int (nI o_at0) :: .long o_said :: .int (nI o_wordEnd) :: .int o_number :: .int (nI o_numberAt) :: .int o_readYear :: .int o_readClauses :: .int (nI o_readBridges) :: .ref a_o_readForgets :: .int (nI o_readMen) :: .ref a_o_readWeight :: .ref a_o_readComes :: .int o_readMany :: .ref a_o_readKnows :: .int (nI o_readOxen) :: .ref a_o_readOx :: .ref a_o_readPrice :: .ref a_o_order :: .ref a_o_orderNames :: .int (nI o_sights) :: .ref a_o_seenWho :: .ref a_o_seenNamed :: .ref a_o_seenLetGo :: .ref a_o_placeIn :: .ref a_o_behind :: .int (nI o_rowMany) :: .ref a_o_rowWho :: .ref a_o_rowNames :: .ref a_o_images :: .ref a_o_isKept :: []))), (a_o_over, .inl (tI, 5, .inl o_over)), (a_o_knows, .inl (tI, 6, .inl o_knows)), (a_o_weight, .inl (tI, 6, .inl o_weight)), (a_o_lieDay, .inl (tI, 30, .inl o_lieDay)), (a_o_forgets, .inl (tI, 5, .inl o_forgets)), (a_o_aloneYear, .inl (tI, 30, .inl o_aloneYear)), (a_o_named, .inl (tI, 30, .inl o_named))]) rfl rfl (b := a_o) (As := [.int x3]) (rest := []) 0 7 rfl rfl rfl rfl (Nat.le_of_ble_eq_true rfl) ⟨Nat.le_of_ble_eq_true rfl, Nat.le_of_ble_eq_true rfl⟩ ⟨Nat.zero_le _, Nat.zero_le _⟩ dX7_cross_18 (fun H locs hP hD hS => ?_)
      refine lv_if_eq (tgt := 29) hx hb dX7_cross_21 (by decide) (fun c_3 => ?_) (fun c_3 => ?_)
      · rw [if_pos c_3] at hR
        refine lv_ldc hx hb hown (hts _ wk_X7_244) dX7_cross_29 ?_
        subst hR
        exact (hF _ _ _ _ hP hS).1 _ rfl ⟨.int, rfl, rfl⟩ dX7_cross_31
      · rw [if_neg c_3] at hR
        have fn_c_3 := isManOrNone_of c_3 (by omega)
        refine lv_iload_n hx hb dX7_cross_24 rfl (lv_at hl 2 rfl) ?_
        refine lv_is fa_c_2 ?_
        refine lv_iload_n hx hb dX7_cross_25 rfl (lv_at hl 3 rfl) ?_
        refine lv_icmp_ne (tgt := 32) hx hb dX7_cross_26 (by decide) (fun c_4 => ?_) (fun c_4 => ?_)
        · rw [if_neg c_4] at hR
          refine lv_aload_n hx hb dX7_cross_32 rfl (lv_at hl 0 rfl) ?_
          refine lv_iload_n hx hb dX7_cross_33 rfl (lv_at hl 1 rfl) ?_
          refine lv_is fa_c_1 ?_
          refine lv_iload_n hx hb dX7_cross_34 rfl (lv_at hl 2 rfl) ?_
          refine lv_is fa_c_2 ?_
          refine lv_iload_n hx hb dX7_cross_35 rfl (lv_at hl 3 rfl) ?_
          refine kcV E hl.1 (c_X7_canCross l D tB tI tZ a_o a_o_forgets a_o_weight a_o_comes a_o_oxWeight a_o_oxPrice a_o_knows a_o_over a_o_named a_o_lieDay a_o_aloneYear a_o_text a_o_readForgets a_o_readWeight a_o_readComes a_o_readKnows a_o_readOx a_o_readPrice a_o_order a_o_orderNames a_o_seenWho a_o_seenNamed a_o_seenLetGo a_o_placeIn a_o_behind a_o_rowWho a_o_rowNames a_o_images a_o_isKept o_year o_bridges o_men o_oxen o_alive o_day o_seed o_texted o_faultPlace o_at0 o_said o_wordEnd o_number o_numberAt o_readYear o_readClauses o_readBridges o_readMen o_readMany o_readOxen o_sights o_rowMany o_over o_knows x1.toNatClampNeg x2.toNatClampNeg x3 (show x1.toNatClampNeg < 5 by first | assumption | omega | exact NN.none | exact NN.nat (by omega) (by omega) | exact NN.up (by assumption) (by omega)) (show x2.toNatClampNeg < 6 by first | assumption | omega | exact NN.none | exact NN.nat (by omega) (by omega) | exact NN.up (by assumption) (by omega))) cv_X7_canCross wm_X7_263 hP hD hS hA [0, 1, 2] rfl rfl rfl (ws2 := [(a_o, .inr (7, (.int o_year :: .int (nI o_bridges) :: .ref a_o_forgets :: .int (nI o_men) :: .ref a_o_weight :: .ref a_o_comes :: .int (nI o_oxen) :: .ref a_o_oxWeight :: .ref a_o_oxPrice :: .ref a_o_knows :: .int o_alive :: .int o_day :: .ref a_o_over :: .ref a_o_named :: .ref a_o_lieDay :: .ref a_o_aloneYear :: .int o_seed :: .ref a_o_text :: .int (nI o_texted) :: .int o_faultPlace :: .int (nI o_at0) :: .long o_said :: .int (nI o_wordEnd) :: .int o_number :: .int (nI o_numberAt) :: .int o_readYear :: .int o_readClauses :: .int (nI o_readBridges) :: .ref a_o_readForgets :: .int (nI o_readMen) :: .ref a_o_readWeight :: .ref a_o_readComes :: .int o_readMany :: .ref a_o_readKnows :: .int (nI o_readOxen) :: .ref a_o_readOx :: .ref a_o_readPrice :: .ref a_o_order :: .ref a_o_orderNames :: .int (nI o_sights) :: .ref a_o_seenWho :: .ref a_o_seenNamed :: .ref a_o_seenLetGo :: .ref a_o_placeIn :: .ref a_o_behind :: .int (nI o_rowMany) :: .ref a_o_rowWho :: .ref a_o_rowNames :: .ref a_o_images :: .ref a_o_isKept :: []))), (a_o_over, .inl (tI, 5, .inl o_over)), (a_o_knows, .inl (tI, 6, .inl o_knows)), (a_o_weight, .inl (tI, 6, .inl o_weight)), (a_o_lieDay, .inl (tI, 30, .inl o_lieDay)), (a_o_forgets, .inl (tI, 5, .inl o_forgets)), (a_o_aloneYear, .inl (tI, 30, .inl o_aloneYear)), (a_o_named, .inl (tI, 30, .inl o_named))]) rfl rfl (b := a_o) (As := [.int (nI x1.toNatClampNeg), .int (nI x2.toNatClampNeg), .int x3]) (rest := []) 0 7 rfl rfl rfl rfl (Nat.le_of_ble_eq_true rfl) ⟨Nat.le_of_ble_eq_true rfl, Nat.le_of_ble_eq_true rfl⟩ ⟨Nat.zero_le _, Nat.zero_le _⟩ dX7_cross_36 (fun H locs hP hD hS => ?_)
          refine lv_if_eq (tgt := 52) hx hb dX7_cross_39 (by decide) (fun c_5 => ?_) (fun c_5 => ?_)
          · rw [if_pos c_5] at hR
            refine lv_ldc hx hb hown (hts _ wk_X7_249) dX7_cross_52 ?_
            subst hR
            exact (hF _ _ _ _ hP hS).1 _ rfl ⟨.int, rfl, rfl⟩ dX7_cross_54
          · rw [if_neg c_5] at hR
            refine lv_aload_n hx hb dX7_cross_42 rfl (lv_at hl 0 rfl) ?_
            refine lv_iload_n hx hb dX7_cross_43 rfl (lv_at hl 1 rfl) ?_
            refine lv_is fa_c_1 ?_
            refine lv_iload_n hx hb dX7_cross_44 rfl (lv_at hl 2 rfl) ?_
            refine lv_is fa_c_2 ?_
            refine lv_iload_n hx hb dX7_cross_45 rfl (lv_at hl 3 rfl) ?_
            have hC_46 := (c_X7_crossNow l D tB tI tZ a_o a_o_forgets a_o_weight a_o_comes a_o_oxWeight a_o_oxPrice a_o_knows a_o_over a_o_named a_o_lieDay a_o_aloneYear a_o_text a_o_readForgets a_o_readWeight a_o_readComes a_o_readKnows a_o_readOx a_o_readPrice a_o_order a_o_orderNames a_o_seenWho a_o_seenNamed a_o_seenLetGo a_o_placeIn a_o_behind a_o_rowWho a_o_rowNames a_o_images a_o_isKept o_year o_bridges o_men o_oxen o_alive o_day o_seed o_texted o_faultPlace o_at0 o_said o_wordEnd o_number o_numberAt o_readYear o_readClauses o_readBridges o_readMen o_readMany o_readOxen o_sights o_rowMany o_weight o_over o_lieDay o_forgets o_aloneYear o_named x1.toNatClampNeg x2.toNatClampNeg x3 (show x1.toNatClampNeg < 5 by first | assumption | omega | exact NN.none | exact NN.nat (by omega) (by omega) | exact NN.up (by assumption) (by omega)) (show x2.toNatClampNeg < 6 by first | assumption | omega | exact NN.none | exact NN.nat (by omega) (by omega) | exact NN.up (by assumption) (by omega)) (show o_men ≤ 6 by first | assumption | omega | exact NN.none | exact NN.nat (by omega) (by omega) | exact NN.up (by assumption) (by omega)) (show ¬ o_year = 0 by first | assumption | omega | exact NN.none | exact NN.nat (by omega) (by omega) | exact NN.up (by assumption) (by omega)) (show NN 6 x3 by first | assumption | omega | exact NN.none | exact NN.nat (by omega) (by omega) | exact NN.up (by assumption) (by omega)))
            generalize hu_46 : (S_X7_crossNow x1.toNatClampNeg x2.toNatClampNeg x3 o_year o_men o_alive o_day o_weight o_over o_lieDay o_forgets o_aloneYear o_named) = u_46 at hC_46 hR
            obtain ⟨r46_r, r46_o_over, r46_o_named, r46_o_aloneYear, r46_o_alive⟩ := u_46
            refine kcV E hl.1 hC_46 cv_X7_crossNow wm_X7_266 hP hD hS hA [0, 3, 1, 4, 5, 6, 7] rfl rfl rfl (ws2 := [(a_o, .inr (7, (.int o_year :: .int (nI o_bridges) :: .ref a_o_forgets :: .int (nI o_men) :: .ref a_o_weight :: .ref a_o_comes :: .int (nI o_oxen) :: .ref a_o_oxWeight :: .ref a_o_oxPrice :: .ref a_o_knows :: .int r46_o_alive :: .int o_day :: .ref a_o_over :: .ref a_o_named :: .ref a_o_lieDay :: .ref a_o_aloneYear :: .int o_seed :: .ref a_o_text :: .int (nI o_texted) :: .int o_faultPlace :: .int (nI o_at0) :: .long o_said :: .int (nI o_wordEnd) :: .int o_number :: .int (nI o_numberAt) :: .int o_readYear :: .int o_readClauses :: .int (nI o_readBridges) :: .ref a_o_readForgets :: .int (nI o_readMen) :: .ref a_o_readWeight :: .ref a_o_readComes :: .int o_readMany :: .ref a_o_readKnows :: .int (nI o_readOxen) :: .ref a_o_readOx :: .ref a_o_readPrice :: .ref a_o_order :: .ref a_o_orderNames :: .int (nI o_sights) :: .ref a_o_seenWho :: .ref a_o_seenNamed :: .ref a_o_seenLetGo :: .ref a_o_placeIn :: .ref a_o_behind :: .int (nI o_rowMany) :: .ref a_o_rowWho :: .ref a_o_rowNames :: .ref a_o_images :: .ref a_o_isKept :: []))), (a_o_over, .inl (tI, 5, .inl r46_o_over)), (a_o_knows, .inl (tI, 6, .inl o_knows)), (a_o_weight, .inl (tI, 6, .inl o_weight)), (a_o_lieDay, .inl (tI, 30, .inl o_lieDay)), (a_o_forgets, .inl (tI, 5, .inl o_forgets)), (a_o_aloneYear, .inl (tI, 30, .inl r46_o_aloneYear)), (a_o_named, .inl (tI, 30, .inl r46_o_named))]) rfl rfl (b := a_o) (As := [.int (nI x1.toNatClampNeg), .int (nI x2.toNatClampNeg), .int x3]) (rest := []) 0 7 rfl rfl rfl rfl (Nat.le_of_ble_eq_true rfl) ⟨Nat.le_of_ble_eq_true rfl, Nat.le_of_ble_eq_true rfl⟩ ⟨Nat.zero_le _, Nat.zero_le _⟩ dX7_cross_46 (fun H locs hP hD hS => ?_)
            have hP : va_P D vwCl [(a_o, .inr (7, (.int o_year :: .int (nI o_bridges) :: .ref a_o_forgets :: .int (nI o_men) :: .ref a_o_weight :: .ref a_o_comes :: .int (nI o_oxen) :: .ref a_o_oxWeight :: .ref a_o_oxPrice :: .ref a_o_knows :: .int r46_o_alive :: .int o_day :: .ref a_o_over :: .ref a_o_named :: .ref a_o_lieDay :: .ref a_o_aloneYear :: .int o_seed :: .ref a_o_text :: .int (nI o_texted) :: .int o_faultPlace :: .int (nI o_at0) :: .long o_said :: .int (nI o_wordEnd) :: .int o_number :: .int (nI o_numberAt) :: .int o_readYear :: .int o_readClauses :: .int (nI o_readBridges) :: .ref a_o_readForgets :: .int (nI o_readMen) :: .ref a_o_readWeight :: .ref a_o_readComes :: .int o_readMany :: .ref a_o_readKnows :: .int (nI o_readOxen) :: .ref a_o_readOx :: .ref a_o_readPrice :: .ref a_o_order :: .ref a_o_orderNames :: .int (nI o_sights) :: .ref a_o_seenWho :: .ref a_o_seenNamed :: .ref a_o_seenLetGo :: .ref a_o_placeIn :: .ref a_o_behind :: .int (nI o_rowMany) :: .ref a_o_rowWho :: .ref a_o_rowNames :: .ref a_o_images :: .ref a_o_isKept :: []))), (a_o_over, .inl (tI, 5, .inl r46_o_over)), (a_o_knows, .inl (tI, 6, .inl o_knows)), (a_o_weight, .inl (tI, 6, .inl o_weight)), (a_o_lieDay, .inl (tI, 30, .inl o_lieDay)), (a_o_forgets, .inl (tI, 5, .inl o_forgets)), (a_o_aloneYear, .inl (tI, 30, .inl r46_o_aloneYear)), (a_o_named, .inl (tI, 30, .inl r46_o_named))] H := hP
            have hD : va_D A [(a_o, .inr (7, (.int o_year :: .int (nI o_bridges) :: .ref a_o_forgets :: .int (nI o_men) :: .ref a_o_weight :: .ref a_o_comes :: .int (nI o_oxen) :: .ref a_o_oxWeight :: .ref a_o_oxPrice :: .ref a_o_knows :: .int r46_o_alive :: .int o_day :: .ref a_o_over :: .ref a_o_named :: .ref a_o_lieDay :: .ref a_o_aloneYear :: .int o_seed :: .ref a_o_text :: .int (nI o_texted) :: .int o_faultPlace :: .int (nI o_at0) :: .long o_said :: .int (nI o_wordEnd) :: .int o_number :: .int (nI o_numberAt) :: .int o_readYear :: .int o_readClauses :: .int (nI o_readBridges) :: .ref a_o_readForgets :: .int (nI o_readMen) :: .ref a_o_readWeight :: .ref a_o_readComes :: .int o_readMany :: .ref a_o_readKnows :: .int (nI o_readOxen) :: .ref a_o_readOx :: .ref a_o_readPrice :: .ref a_o_order :: .ref a_o_orderNames :: .int (nI o_sights) :: .ref a_o_seenWho :: .ref a_o_seenNamed :: .ref a_o_seenLetGo :: .ref a_o_placeIn :: .ref a_o_behind :: .int (nI o_rowMany) :: .ref a_o_rowWho :: .ref a_o_rowNames :: .ref a_o_images :: .ref a_o_isKept :: []))), (a_o_over, .inl (tI, 5, .inl r46_o_over)), (a_o_knows, .inl (tI, 6, .inl o_knows)), (a_o_weight, .inl (tI, 6, .inl o_weight)), (a_o_lieDay, .inl (tI, 30, .inl o_lieDay)), (a_o_forgets, .inl (tI, 5, .inl o_forgets)), (a_o_aloneYear, .inl (tI, 30, .inl r46_o_aloneYear)), (a_o_named, .inl (tI, 30, .inl r46_o_named))] := hD
            have hR : K_X7_cross_46  r46_r r46_o_over r46_o_named r46_o_aloneYear r46_o_alive = RES := hR
            unfold K_X7_cross_46 at hR
            refine lv_goto (tgt := 54) hx hb dX7_cross_49 (by decide) ?_
            subst hR
            exact (hF _ _ _ _ hP hS).1 _ rfl ⟨.int, rfl, rfl⟩ dX7_cross_54
        · rw [if_pos c_4] at hR
          refine lv_ldc hx hb hown (hts _ wk_X7_244) dX7_cross_29 ?_
          subst hR
          exact (hF _ _ _ _ hP hS).1 _ rfl ⟨.int, rfl, rfl⟩ dX7_cross_31

def K_X7_evening_113 (o_day : Int32) (v1_4 : Int32) (o_lieDay_h4 : Nat → Int32) (o_over_h113 : Nat → Int32) : Int32 × (Nat → Int32) × Int32 × (Nat → Int32) := (v1_4, o_lieDay_h4, (o_day + (1 : Int32)), o_over_h113)
def B_X7_evening_113  (k_113 : Nat) (o_over_h113 : Nat → Int32) : (Nat → Int32) := (upd o_over_h113 k_113 (0 : Int32))
def K_X7_evening_4 (o_bridges : Nat) (o_over : Nat → Int32) (o_day : Int32) (v1_4 : Int32) (o_lieDay_h4 : Nat → Int32) : Int32 × (Nat → Int32) × Int32 × (Nat → Int32) := ((fun a => K_X7_evening_113 o_day v1_4 o_lieDay_h4 a) (iter (fun k a => B_X7_evening_113 k a) o_bridges 0 o_over))
def K_X7_evening_14  (v1_14 : Int32) (o_lieDay_h14 : Nat → Int32) : Int32 × (Nat → Int32) := (v1_14, o_lieDay_h14)
def B_X7_evening_14 (k_4 : Nat) (o_named : Nat → Int32) (o_over : Nat → Int32) (o_day : Int32) (k_14 : Nat) (v1_14 : Int32) (o_lieDay_h14 : Nat → Int32) : Int32 × (Nat → Int32) := (if (S_X7_has (o_over k_4) (nI k_14)) = 0 then (v1_14, o_lieDay_h14) else (if (o_named ((6 * k_4) + k_14)) = (-1 : Int32) then (v1_14, o_lieDay_h14) else (if (S_X7_has (o_over k_4) (o_named ((6 * k_4) + k_14))) = 0 then ((v1_14 ||| ((1 : Int32) <<< ((nI k_14) &&& 31))), (upd o_lieDay_h14 ((6 * k_4) + k_14) o_day)) else (v1_14, o_lieDay_h14))))
def B_X7_evening_4 (o_men : Nat) (o_named : Nat → Int32) (o_over : Nat → Int32) (o_day : Int32) (k_4 : Nat) (v1_4 : Int32) (o_lieDay_h4 : Nat → Int32) : Int32 × (Nat → Int32) := ((fun a => K_X7_evening_14 a.1 a.2) (iter (fun k a => B_X7_evening_14 k_4 o_named o_over o_day k a.1 a.2) o_men 0 (v1_4, o_lieDay_h4)))
def S_X7_evening (o_bridges : Nat) (o_men : Nat) (o_named : Nat → Int32) (o_over : Nat → Int32) (o_day : Int32) (o_lieDay : Nat → Int32) : Int32 × (Nat → Int32) × Int32 × (Nat → Int32) := ((fun a => K_X7_evening_4 o_bridges o_over o_day a.1 a.2) (iter (fun k a => B_X7_evening_4 o_men o_named o_over o_day k a.1 a.2) o_bridges 0 ((0 : Int32), o_lieDay)))
set_option maxHeartbeats 4000000 in
set_option maxRecDepth 100000 in
theorem c_X7_evening (l : Launch) (D : va_G) (tB tI tZ : ClassId) (a_o a_o_forgets a_o_weight a_o_comes a_o_oxWeight a_o_oxPrice a_o_knows a_o_over a_o_named a_o_lieDay a_o_aloneYear a_o_text a_o_readForgets a_o_readWeight a_o_readComes a_o_readKnows a_o_readOx a_o_readPrice a_o_order a_o_orderNames a_o_seenWho a_o_seenNamed a_o_seenLetGo a_o_placeIn a_o_behind a_o_rowWho a_o_rowNames a_o_images a_o_isKept : Nat) (o_year : Int32) (o_bridges : Nat) (o_men : Nat) (o_oxen : Nat) (o_alive : Int32) (o_day : Int32) (o_seed : Int32) (o_texted : Nat) (o_faultPlace : Int32) (o_at0 : Nat) (o_said : Int64) (o_wordEnd : Nat) (o_number : Int32) (o_numberAt : Nat) (o_readYear : Int32) (o_readClauses : Int32) (o_readBridges : Nat) (o_readMen : Nat) (o_readMany : Int32) (o_readOxen : Nat) (o_sights : Nat) (o_rowMany : Nat) (o_named : Nat → Int32) (o_over : Nat → Int32) (o_lieDay : Nat → Int32)  (hbr : o_bridges ≤ 5) (hmen : o_men ≤ 6) : CT l D (tyL tB tI tZ) yX7_evening (.code yX7_evening cX7_evening 5 (some .int)) 1 21 [.ref a_o] [(a_o, .inr (7, (.int o_year :: .int (nI o_bridges) :: .ref a_o_forgets :: .int (nI o_men) :: .ref a_o_weight :: .ref a_o_comes :: .int (nI o_oxen) :: .ref a_o_oxWeight :: .ref a_o_oxPrice :: .ref a_o_knows :: .int o_alive :: .int o_day :: .ref a_o_over :: .ref a_o_named :: .ref a_o_lieDay :: .ref a_o_aloneYear :: .int o_seed :: .ref a_o_text :: .int (nI o_texted) :: .int o_faultPlace :: .int (nI o_at0) :: .long o_said :: .int (nI o_wordEnd) :: .int o_number :: .int (nI o_numberAt) :: .int o_readYear :: .int o_readClauses :: .int (nI o_readBridges) :: .ref a_o_readForgets :: .int (nI o_readMen) :: .ref a_o_readWeight :: .ref a_o_readComes :: .int o_readMany :: .ref a_o_readKnows :: .int (nI o_readOxen) :: .ref a_o_readOx :: .ref a_o_readPrice :: .ref a_o_order :: .ref a_o_orderNames :: .int (nI o_sights) :: .ref a_o_seenWho :: .ref a_o_seenNamed :: .ref a_o_seenLetGo :: .ref a_o_placeIn :: .ref a_o_behind :: .int (nI o_rowMany) :: .ref a_o_rowWho :: .ref a_o_rowNames :: .ref a_o_images :: .ref a_o_isKept :: []))), (a_o_named, .inl (tI, 30, .inl o_named)), (a_o_over, .inl (tI, 5, .inl o_over)), (a_o_lieDay, .inl (tI, 30, .inl o_lieDay))] (fun u : Int32 × (Nat → Int32) × Int32 × (Nat → Int32) => some (.int (u.1))) (fun u : Int32 × (Nat → Int32) × Int32 × (Nat → Int32) => [(a_o, .inr (7, (.int o_year :: .int (nI o_bridges) :: .ref a_o_forgets :: .int (nI o_men) :: .ref a_o_weight :: .ref a_o_comes :: .int (nI o_oxen) :: .ref a_o_oxWeight :: .ref a_o_oxPrice :: .ref a_o_knows :: .int o_alive :: .int (u.2.2.1) :: .ref a_o_over :: .ref a_o_named :: .ref a_o_lieDay :: .ref a_o_aloneYear :: .int o_seed :: .ref a_o_text :: .int (nI o_texted) :: .int o_faultPlace :: .int (nI o_at0) :: .long o_said :: .int (nI o_wordEnd) :: .int o_number :: .int (nI o_numberAt) :: .int o_readYear :: .int o_readClauses :: .int (nI o_readBridges) :: .ref a_o_readForgets :: .int (nI o_readMen) :: .ref a_o_readWeight :: .ref a_o_readComes :: .int o_readMany :: .ref a_o_readKnows :: .int (nI o_readOxen) :: .ref a_o_readOx :: .ref a_o_readPrice :: .ref a_o_order :: .ref a_o_orderNames :: .int (nI o_sights) :: .ref a_o_seenWho :: .ref a_o_seenNamed :: .ref a_o_seenLetGo :: .ref a_o_placeIn :: .ref a_o_behind :: .int (nI o_rowMany) :: .ref a_o_rowWho :: .ref a_o_rowNames :: .ref a_o_images :: .ref a_o_isKept :: []))), (a_o_named, .inl (tI, 30, .inl o_named)), (a_o_over, .inl (tI, 5, .inl (u.2.2.2))), (a_o_lieDay, .inl (tI, 30, .inl (u.2.1)))]) (S_X7_evening o_bridges o_men o_named o_over o_day o_lieDay) := by
  refine CT.intro (k := 0) (Nat.le_of_ble_eq_true rfl) (by decide) ?_
  intro p e s m below meth c Q A ls E hA hP hD hS hl hF
  obtain ⟨⟨hx, hb, hml, hown, hts⟩, hK⟩ := id E
  generalize hR : S_X7_evening o_bridges o_men o_named o_over o_day o_lieDay = RES at hF
  unfold S_X7_evening at hR
  have hl : lv_has ls 5 [(0, .ref a_o)] := hl
  refine lv_iconst (v := (0 : Int32)) hx hb dX7_evening_0 (by decide) ?_
  refine lv_istore_n (lv' := [(1, .int (0 : Int32)), (0, .ref a_o)]) hx hb dX7_evening_1 rfl hl (by decide) rfl (fun ls hl => ?_)
  refine lv_iconst (v := (0 : Int32)) hx hb dX7_evening_2 (by decide) ?_
  refine lv_istore_n (lv' := [(2, .int (0 : Int32)), (1, .int (0 : Int32)), (0, .ref a_o)]) hx hb dX7_evening_3 rfl hl (by decide) rfl (fun ls hl => ?_)
  have EX_4 : ∀ (v1_4 : Int32) (o_lieDay_h4 : Nat → Int32)  (H : Heap) (locs : List Loc) (ls : Array Slot), K_X7_evening_4 o_bridges o_over o_day v1_4 o_lieDay_h4 = RES → va_P D vwCl [(a_o, .inr (7, (.int o_year :: .int (nI o_bridges) :: .ref a_o_forgets :: .int (nI o_men) :: .ref a_o_weight :: .ref a_o_comes :: .int (nI o_oxen) :: .ref a_o_oxWeight :: .ref a_o_oxPrice :: .ref a_o_knows :: .int o_alive :: .int o_day :: .ref a_o_over :: .ref a_o_named :: .ref a_o_lieDay :: .ref a_o_aloneYear :: .int o_seed :: .ref a_o_text :: .int (nI o_texted) :: .int o_faultPlace :: .int (nI o_at0) :: .long o_said :: .int (nI o_wordEnd) :: .int o_number :: .int (nI o_numberAt) :: .int o_readYear :: .int o_readClauses :: .int (nI o_readBridges) :: .ref a_o_readForgets :: .int (nI o_readMen) :: .ref a_o_readWeight :: .ref a_o_readComes :: .int o_readMany :: .ref a_o_readKnows :: .int (nI o_readOxen) :: .ref a_o_readOx :: .ref a_o_readPrice :: .ref a_o_order :: .ref a_o_orderNames :: .int (nI o_sights) :: .ref a_o_seenWho :: .ref a_o_seenNamed :: .ref a_o_seenLetGo :: .ref a_o_placeIn :: .ref a_o_behind :: .int (nI o_rowMany) :: .ref a_o_rowWho :: .ref a_o_rowNames :: .ref a_o_images :: .ref a_o_isKept :: []))), (a_o_named, .inl (tI, 30, .inl o_named)), (a_o_over, .inl (tI, 5, .inl o_over)), (a_o_lieDay, .inl (tI, 30, .inl o_lieDay_h4))] H → va_D A [(a_o, .inr (7, (.int o_year :: .int (nI o_bridges) :: .ref a_o_forgets :: .int (nI o_men) :: .ref a_o_weight :: .ref a_o_comes :: .int (nI o_oxen) :: .ref a_o_oxWeight :: .ref a_o_oxPrice :: .ref a_o_knows :: .int o_alive :: .int o_day :: .ref a_o_over :: .ref a_o_named :: .ref a_o_lieDay :: .ref a_o_aloneYear :: .int o_seed :: .ref a_o_text :: .int (nI o_texted) :: .int o_faultPlace :: .int (nI o_at0) :: .long o_said :: .int (nI o_wordEnd) :: .int o_number :: .int (nI o_numberAt) :: .int o_readYear :: .int o_readClauses :: .int (nI o_readBridges) :: .ref a_o_readForgets :: .int (nI o_readMen) :: .ref a_o_readWeight :: .ref a_o_readComes :: .int o_readMany :: .ref a_o_readKnows :: .int (nI o_readOxen) :: .ref a_o_readOx :: .ref a_o_readPrice :: .ref a_o_order :: .ref a_o_orderNames :: .int (nI o_sights) :: .ref a_o_seenWho :: .ref a_o_seenNamed :: .ref a_o_seenLetGo :: .ref a_o_placeIn :: .ref a_o_behind :: .int (nI o_rowMany) :: .ref a_o_rowWho :: .ref a_o_rowNames :: .ref a_o_images :: .ref a_o_isKept :: []))), (a_o_named, .inl (tI, 30, .inl o_named)), (a_o_over, .inl (tI, 5, .inl o_over)), (a_o_lieDay, .inl (tI, 30, .inl o_lieDay_h4))] → va_S A s.heap H locs → lv_has ls 5 [(1, .int v1_4), (0, .ref a_o)] → W p l e { frames := 1, cells := 0, slots := 0, locals := 21 } s m ([.ref a_o] : List Value).toArray below meth c H locs 0 0 Q (F0 m 101 ls []) := by
    intro v1_4 o_lieDay_h4 H locs ls hR hP hD hS hl
    unfold K_X7_evening_4 at hR
    refine lv_aload_n hx hb dX7_evening_101 rfl (lv_at hl 1 rfl) ?_
    refine lv_dup hx hb dX7_evening_102 rfl ?_
    refine fget E hP 0 rfl fd_X7_229 (v := .int o_day) rfl dX7_evening_103 ?_
    refine lv_iconst (v := (1 : Int32)) hx hb dX7_evening_106 (by decide) ?_
    refine lv_iadd hx hb dX7_evening_107 ?_
    refine fput E hP hD hS 0 rfl fd_X7_229 fp_X7 (ty := .int) (v := .int (o_day + (1 : Int32))) rfl rfl rfl rfl (Nat.le_of_ble_eq_true rfl) dX7_evening_108 (fun H locs hP hD hS => ?_)
    have hP : va_P D vwCl [(a_o, .inr (7, (.int o_year :: .int (nI o_bridges) :: .ref a_o_forgets :: .int (nI o_men) :: .ref a_o_weight :: .ref a_o_comes :: .int (nI o_oxen) :: .ref a_o_oxWeight :: .ref a_o_oxPrice :: .ref a_o_knows :: .int o_alive :: .int (o_day + (1 : Int32)) :: .ref a_o_over :: .ref a_o_named :: .ref a_o_lieDay :: .ref a_o_aloneYear :: .int o_seed :: .ref a_o_text :: .int (nI o_texted) :: .int o_faultPlace :: .int (nI o_at0) :: .long o_said :: .int (nI o_wordEnd) :: .int o_number :: .int (nI o_numberAt) :: .int o_readYear :: .int o_readClauses :: .int (nI o_readBridges) :: .ref a_o_readForgets :: .int (nI o_readMen) :: .ref a_o_readWeight :: .ref a_o_readComes :: .int o_readMany :: .ref a_o_readKnows :: .int (nI o_readOxen) :: .ref a_o_readOx :: .ref a_o_readPrice :: .ref a_o_order :: .ref a_o_orderNames :: .int (nI o_sights) :: .ref a_o_seenWho :: .ref a_o_seenNamed :: .ref a_o_seenLetGo :: .ref a_o_placeIn :: .ref a_o_behind :: .int (nI o_rowMany) :: .ref a_o_rowWho :: .ref a_o_rowNames :: .ref a_o_images :: .ref a_o_isKept :: []))), (a_o_named, .inl (tI, 30, .inl o_named)), (a_o_over, .inl (tI, 5, .inl o_over)), (a_o_lieDay, .inl (tI, 30, .inl o_lieDay_h4))] H := hP
    have hD : va_D A [(a_o, .inr (7, (.int o_year :: .int (nI o_bridges) :: .ref a_o_forgets :: .int (nI o_men) :: .ref a_o_weight :: .ref a_o_comes :: .int (nI o_oxen) :: .ref a_o_oxWeight :: .ref a_o_oxPrice :: .ref a_o_knows :: .int o_alive :: .int (o_day + (1 : Int32)) :: .ref a_o_over :: .ref a_o_named :: .ref a_o_lieDay :: .ref a_o_aloneYear :: .int o_seed :: .ref a_o_text :: .int (nI o_texted) :: .int o_faultPlace :: .int (nI o_at0) :: .long o_said :: .int (nI o_wordEnd) :: .int o_number :: .int (nI o_numberAt) :: .int o_readYear :: .int o_readClauses :: .int (nI o_readBridges) :: .ref a_o_readForgets :: .int (nI o_readMen) :: .ref a_o_readWeight :: .ref a_o_readComes :: .int o_readMany :: .ref a_o_readKnows :: .int (nI o_readOxen) :: .ref a_o_readOx :: .ref a_o_readPrice :: .ref a_o_order :: .ref a_o_orderNames :: .int (nI o_sights) :: .ref a_o_seenWho :: .ref a_o_seenNamed :: .ref a_o_seenLetGo :: .ref a_o_placeIn :: .ref a_o_behind :: .int (nI o_rowMany) :: .ref a_o_rowWho :: .ref a_o_rowNames :: .ref a_o_images :: .ref a_o_isKept :: []))), (a_o_named, .inl (tI, 30, .inl o_named)), (a_o_over, .inl (tI, 5, .inl o_over)), (a_o_lieDay, .inl (tI, 30, .inl o_lieDay_h4))] := hD
    refine lv_iconst (v := (0 : Int32)) hx hb dX7_evening_111 (by decide) ?_
    refine lv_istore_n (lv' := [(2, .int (0 : Int32)), (1, .int v1_4), (0, .ref a_o)]) hx hb dX7_evening_112 rfl hl (by decide) rfl (fun ls hl => ?_)
    have EX_113 : ∀ (o_over_h113 : Nat → Int32)  (H : Heap) (locs : List Loc) (ls : Array Slot), K_X7_evening_113 o_day v1_4 o_lieDay_h4 o_over_h113 = RES → va_P D vwCl [(a_o, .inr (7, (.int o_year :: .int (nI o_bridges) :: .ref a_o_forgets :: .int (nI o_men) :: .ref a_o_weight :: .ref a_o_comes :: .int (nI o_oxen) :: .ref a_o_oxWeight :: .ref a_o_oxPrice :: .ref a_o_knows :: .int o_alive :: .int (o_day + (1 : Int32)) :: .ref a_o_over :: .ref a_o_named :: .ref a_o_lieDay :: .ref a_o_aloneYear :: .int o_seed :: .ref a_o_text :: .int (nI o_texted) :: .int o_faultPlace :: .int (nI o_at0) :: .long o_said :: .int (nI o_wordEnd) :: .int o_number :: .int (nI o_numberAt) :: .int o_readYear :: .int o_readClauses :: .int (nI o_readBridges) :: .ref a_o_readForgets :: .int (nI o_readMen) :: .ref a_o_readWeight :: .ref a_o_readComes :: .int o_readMany :: .ref a_o_readKnows :: .int (nI o_readOxen) :: .ref a_o_readOx :: .ref a_o_readPrice :: .ref a_o_order :: .ref a_o_orderNames :: .int (nI o_sights) :: .ref a_o_seenWho :: .ref a_o_seenNamed :: .ref a_o_seenLetGo :: .ref a_o_placeIn :: .ref a_o_behind :: .int (nI o_rowMany) :: .ref a_o_rowWho :: .ref a_o_rowNames :: .ref a_o_images :: .ref a_o_isKept :: []))), (a_o_named, .inl (tI, 30, .inl o_named)), (a_o_over, .inl (tI, 5, .inl o_over_h113)), (a_o_lieDay, .inl (tI, 30, .inl o_lieDay_h4))] H → va_D A [(a_o, .inr (7, (.int o_year :: .int (nI o_bridges) :: .ref a_o_forgets :: .int (nI o_men) :: .ref a_o_weight :: .ref a_o_comes :: .int (nI o_oxen) :: .ref a_o_oxWeight :: .ref a_o_oxPrice :: .ref a_o_knows :: .int o_alive :: .int (o_day + (1 : Int32)) :: .ref a_o_over :: .ref a_o_named :: .ref a_o_lieDay :: .ref a_o_aloneYear :: .int o_seed :: .ref a_o_text :: .int (nI o_texted) :: .int o_faultPlace :: .int (nI o_at0) :: .long o_said :: .int (nI o_wordEnd) :: .int o_number :: .int (nI o_numberAt) :: .int o_readYear :: .int o_readClauses :: .int (nI o_readBridges) :: .ref a_o_readForgets :: .int (nI o_readMen) :: .ref a_o_readWeight :: .ref a_o_readComes :: .int o_readMany :: .ref a_o_readKnows :: .int (nI o_readOxen) :: .ref a_o_readOx :: .ref a_o_readPrice :: .ref a_o_order :: .ref a_o_orderNames :: .int (nI o_sights) :: .ref a_o_seenWho :: .ref a_o_seenNamed :: .ref a_o_seenLetGo :: .ref a_o_placeIn :: .ref a_o_behind :: .int (nI o_rowMany) :: .ref a_o_rowWho :: .ref a_o_rowNames :: .ref a_o_images :: .ref a_o_isKept :: []))), (a_o_named, .inl (tI, 30, .inl o_named)), (a_o_over, .inl (tI, 5, .inl o_over_h113)), (a_o_lieDay, .inl (tI, 30, .inl o_lieDay_h4))] → va_S A s.heap H locs → lv_has ls 5 [(1, .int v1_4)] → W p l e { frames := 1, cells := 0, slots := 0, locals := 21 } s m ([.ref a_o] : List Value).toArray below meth c H locs 0 0 Q (F0 m 134 ls []) := by
      intro o_over_h113 H locs ls hR hP hD hS hl
      unfold K_X7_evening_113 at hR
      refine lv_iload_n hx hb dX7_evening_134 rfl (lv_at hl 0 rfl) ?_
      subst hR
      exact (hF _ _ _ _ hP hS).1 _ rfl ⟨.int, rfl, rfl⟩ dX7_evening_135
    have LP_113 : ∀ (n_113 k_113 : Nat) (o_over_h113 : Nat → Int32)  (H : Heap) (locs : List Loc) (ls : Array Slot), k_113 + n_113 = o_bridges → (fun a => K_X7_evening_113 o_day v1_4 o_lieDay_h4 a) (iter (fun k a => B_X7_evening_113 k a) n_113 k_113 o_over_h113) = RES → va_P D vwCl [(a_o, .inr (7, (.int o_year :: .int (nI o_bridges) :: .ref a_o_forgets :: .int (nI o_men) :: .ref a_o_weight :: .ref a_o_comes :: .int (nI o_oxen) :: .ref a_o_oxWeight :: .ref a_o_oxPrice :: .ref a_o_knows :: .int o_alive :: .int (o_day + (1 : Int32)) :: .ref a_o_over :: .ref a_o_named :: .ref a_o_lieDay :: .ref a_o_aloneYear :: .int o_seed :: .ref a_o_text :: .int (nI o_texted) :: .int o_faultPlace :: .int (nI o_at0) :: .long o_said :: .int (nI o_wordEnd) :: .int o_number :: .int (nI o_numberAt) :: .int o_readYear :: .int o_readClauses :: .int (nI o_readBridges) :: .ref a_o_readForgets :: .int (nI o_readMen) :: .ref a_o_readWeight :: .ref a_o_readComes :: .int o_readMany :: .ref a_o_readKnows :: .int (nI o_readOxen) :: .ref a_o_readOx :: .ref a_o_readPrice :: .ref a_o_order :: .ref a_o_orderNames :: .int (nI o_sights) :: .ref a_o_seenWho :: .ref a_o_seenNamed :: .ref a_o_seenLetGo :: .ref a_o_placeIn :: .ref a_o_behind :: .int (nI o_rowMany) :: .ref a_o_rowWho :: .ref a_o_rowNames :: .ref a_o_images :: .ref a_o_isKept :: []))), (a_o_named, .inl (tI, 30, .inl o_named)), (a_o_over, .inl (tI, 5, .inl o_over_h113)), (a_o_lieDay, .inl (tI, 30, .inl o_lieDay_h4))] H → va_D A [(a_o, .inr (7, (.int o_year :: .int (nI o_bridges) :: .ref a_o_forgets :: .int (nI o_men) :: .ref a_o_weight :: .ref a_o_comes :: .int (nI o_oxen) :: .ref a_o_oxWeight :: .ref a_o_oxPrice :: .ref a_o_knows :: .int o_alive :: .int (o_day + (1 : Int32)) :: .ref a_o_over :: .ref a_o_named :: .ref a_o_lieDay :: .ref a_o_aloneYear :: .int o_seed :: .ref a_o_text :: .int (nI o_texted) :: .int o_faultPlace :: .int (nI o_at0) :: .long o_said :: .int (nI o_wordEnd) :: .int o_number :: .int (nI o_numberAt) :: .int o_readYear :: .int o_readClauses :: .int (nI o_readBridges) :: .ref a_o_readForgets :: .int (nI o_readMen) :: .ref a_o_readWeight :: .ref a_o_readComes :: .int o_readMany :: .ref a_o_readKnows :: .int (nI o_readOxen) :: .ref a_o_readOx :: .ref a_o_readPrice :: .ref a_o_order :: .ref a_o_orderNames :: .int (nI o_sights) :: .ref a_o_seenWho :: .ref a_o_seenNamed :: .ref a_o_seenLetGo :: .ref a_o_placeIn :: .ref a_o_behind :: .int (nI o_rowMany) :: .ref a_o_rowWho :: .ref a_o_rowNames :: .ref a_o_images :: .ref a_o_isKept :: []))), (a_o_named, .inl (tI, 30, .inl o_named)), (a_o_over, .inl (tI, 5, .inl o_over_h113)), (a_o_lieDay, .inl (tI, 30, .inl o_lieDay_h4))] → va_S A s.heap H locs → lv_has ls 5 [(2, .int (nI k_113)), (1, .int v1_4), (0, .ref a_o)] → W p l e { frames := 1, cells := 0, slots := 0, locals := 21 } s m ([.ref a_o] : List Value).toArray below meth c H locs 0 0 Q (F0 m 113 ls []) := by
      intro n_113
      induction n_113 with
      | zero =>
        intro k_113 o_over_h113 H locs ls hn_113 hR hP hD hS hl
        refine lv_iload_n hx hb dX7_evening_113 rfl (lv_at hl 0 rfl) ?_
        refine lv_aload_n hx hb dX7_evening_114 rfl (lv_at hl 2 rfl) ?_
        refine fget E hP 0 rfl fd_X7_105 (v := .int (nI o_bridges)) rfl dX7_evening_115 ?_
        refine ni_ge (a := k_113) (b := o_bridges) (tgt := 134) (by omega) (by omega) hx hb dX7_evening_118 (by decide) (fun g_113 => ?_) (fun g_113 => ?_)
        · exact EX_113 o_over_h113  _ _ _ hR hP hD hS (lv_sub hl [1] rfl)
        · exfalso; omega
      | succ n_113 ih_113 =>
        intro k_113 o_over_h113 H locs ls hn_113 hR hP hD hS hl
        have hR : (fun a => K_X7_evening_113 o_day v1_4 o_lieDay_h4 a) (iter (fun k a => B_X7_evening_113 k a) n_113 (k_113 + 1) (B_X7_evening_113 k_113 o_over_h113)) = RES := hR
        generalize hB_113 : B_X7_evening_113 k_113 o_over_h113 = RB_113 at hR
        unfold B_X7_evening_113 at hB_113
        refine lv_iload_n hx hb dX7_evening_113 rfl (lv_at hl 0 rfl) ?_
        refine lv_aload_n hx hb dX7_evening_114 rfl (lv_at hl 2 rfl) ?_
        refine fget E hP 0 rfl fd_X7_105 (v := .int (nI o_bridges)) rfl dX7_evening_115 ?_
        refine ni_ge (a := k_113) (b := o_bridges) (tgt := 134) (by omega) (by omega) hx hb dX7_evening_118 (by decide) (fun g_113 => ?_) (fun g_113 => ?_)
        · exfalso; omega
        · refine lv_aload_n hx hb dX7_evening_121 rfl (lv_at hl 2 rfl) ?_
          refine fget E hP 0 rfl fd_X7_32 (v := .ref a_o_over) rfl dX7_evening_122 ?_
          refine lv_iload_n hx hb dX7_evening_125 rfl (lv_at hl 0 rfl) ?_
          refine lv_iconst (v := (0 : Int32)) hx hb dX7_evening_126 (by decide) ?_
          refine ist E hP hD hS 2 rfl (k := k_113) (by omega) (by decide) dX7_evening_127 (fun H locs hP hD hS => ?_)
          have hP : va_P D vwCl [(a_o, .inr (7, (.int o_year :: .int (nI o_bridges) :: .ref a_o_forgets :: .int (nI o_men) :: .ref a_o_weight :: .ref a_o_comes :: .int (nI o_oxen) :: .ref a_o_oxWeight :: .ref a_o_oxPrice :: .ref a_o_knows :: .int o_alive :: .int (o_day + (1 : Int32)) :: .ref a_o_over :: .ref a_o_named :: .ref a_o_lieDay :: .ref a_o_aloneYear :: .int o_seed :: .ref a_o_text :: .int (nI o_texted) :: .int o_faultPlace :: .int (nI o_at0) :: .long o_said :: .int (nI o_wordEnd) :: .int o_number :: .int (nI o_numberAt) :: .int o_readYear :: .int o_readClauses :: .int (nI o_readBridges) :: .ref a_o_readForgets :: .int (nI o_readMen) :: .ref a_o_readWeight :: .ref a_o_readComes :: .int o_readMany :: .ref a_o_readKnows :: .int (nI o_readOxen) :: .ref a_o_readOx :: .ref a_o_readPrice :: .ref a_o_order :: .ref a_o_orderNames :: .int (nI o_sights) :: .ref a_o_seenWho :: .ref a_o_seenNamed :: .ref a_o_seenLetGo :: .ref a_o_placeIn :: .ref a_o_behind :: .int (nI o_rowMany) :: .ref a_o_rowWho :: .ref a_o_rowNames :: .ref a_o_images :: .ref a_o_isKept :: []))), (a_o_named, .inl (tI, 30, .inl o_named)), (a_o_over, .inl (tI, 5, .inl (upd o_over_h113 k_113 (0 : Int32)))), (a_o_lieDay, .inl (tI, 30, .inl o_lieDay_h4))] H := hP
          have hD : va_D A [(a_o, .inr (7, (.int o_year :: .int (nI o_bridges) :: .ref a_o_forgets :: .int (nI o_men) :: .ref a_o_weight :: .ref a_o_comes :: .int (nI o_oxen) :: .ref a_o_oxWeight :: .ref a_o_oxPrice :: .ref a_o_knows :: .int o_alive :: .int (o_day + (1 : Int32)) :: .ref a_o_over :: .ref a_o_named :: .ref a_o_lieDay :: .ref a_o_aloneYear :: .int o_seed :: .ref a_o_text :: .int (nI o_texted) :: .int o_faultPlace :: .int (nI o_at0) :: .long o_said :: .int (nI o_wordEnd) :: .int o_number :: .int (nI o_numberAt) :: .int o_readYear :: .int o_readClauses :: .int (nI o_readBridges) :: .ref a_o_readForgets :: .int (nI o_readMen) :: .ref a_o_readWeight :: .ref a_o_readComes :: .int o_readMany :: .ref a_o_readKnows :: .int (nI o_readOxen) :: .ref a_o_readOx :: .ref a_o_readPrice :: .ref a_o_order :: .ref a_o_orderNames :: .int (nI o_sights) :: .ref a_o_seenWho :: .ref a_o_seenNamed :: .ref a_o_seenLetGo :: .ref a_o_placeIn :: .ref a_o_behind :: .int (nI o_rowMany) :: .ref a_o_rowWho :: .ref a_o_rowNames :: .ref a_o_images :: .ref a_o_isKept :: []))), (a_o_named, .inl (tI, 30, .inl o_named)), (a_o_over, .inl (tI, 5, .inl (upd o_over_h113 k_113 (0 : Int32)))), (a_o_lieDay, .inl (tI, 30, .inl o_lieDay_h4))] := hD
          refine lv_iinc (v := (nI (k_113 + 1))) (lv' := [(2, .int (nI (k_113 + 1))), (1, .int v1_4), (0, .ref a_o)]) hx hb dX7_evening_128 hl (k := 0) rfl (nI_i1 k_113) (by decide) rfl (fun ls hl => ?_)
          refine lv_goto (tgt := 113) hx hb dX7_evening_131 (by decide) ?_
          subst hB_113
          exact ih_113 (k_113 + 1) (upd o_over_h113 k_113 (0 : Int32))  _ _ _ (by omega) hR hP hD hS (lv_sub hl [0, 1, 2] rfl)
    exact LP_113 o_bridges 0 o_over  _ _ _ (by omega) hR hP hD hS (lv_sub hl [0, 1, 2] rfl)
  have LP_4 : ∀ (n_4 k_4 : Nat) (v1_4 : Int32) (o_lieDay_h4 : Nat → Int32)  (H : Heap) (locs : List Loc) (ls : Array Slot), k_4 + n_4 = o_bridges → (fun a => K_X7_evening_4 o_bridges o_over o_day a.1 a.2) (iter (fun k a => B_X7_evening_4 o_men o_named o_over o_day k a.1 a.2) n_4 k_4 (v1_4, o_lieDay_h4)) = RES → va_P D vwCl [(a_o, .inr (7, (.int o_year :: .int (nI o_bridges) :: .ref a_o_forgets :: .int (nI o_men) :: .ref a_o_weight :: .ref a_o_comes :: .int (nI o_oxen) :: .ref a_o_oxWeight :: .ref a_o_oxPrice :: .ref a_o_knows :: .int o_alive :: .int o_day :: .ref a_o_over :: .ref a_o_named :: .ref a_o_lieDay :: .ref a_o_aloneYear :: .int o_seed :: .ref a_o_text :: .int (nI o_texted) :: .int o_faultPlace :: .int (nI o_at0) :: .long o_said :: .int (nI o_wordEnd) :: .int o_number :: .int (nI o_numberAt) :: .int o_readYear :: .int o_readClauses :: .int (nI o_readBridges) :: .ref a_o_readForgets :: .int (nI o_readMen) :: .ref a_o_readWeight :: .ref a_o_readComes :: .int o_readMany :: .ref a_o_readKnows :: .int (nI o_readOxen) :: .ref a_o_readOx :: .ref a_o_readPrice :: .ref a_o_order :: .ref a_o_orderNames :: .int (nI o_sights) :: .ref a_o_seenWho :: .ref a_o_seenNamed :: .ref a_o_seenLetGo :: .ref a_o_placeIn :: .ref a_o_behind :: .int (nI o_rowMany) :: .ref a_o_rowWho :: .ref a_o_rowNames :: .ref a_o_images :: .ref a_o_isKept :: []))), (a_o_named, .inl (tI, 30, .inl o_named)), (a_o_over, .inl (tI, 5, .inl o_over)), (a_o_lieDay, .inl (tI, 30, .inl o_lieDay_h4))] H → va_D A [(a_o, .inr (7, (.int o_year :: .int (nI o_bridges) :: .ref a_o_forgets :: .int (nI o_men) :: .ref a_o_weight :: .ref a_o_comes :: .int (nI o_oxen) :: .ref a_o_oxWeight :: .ref a_o_oxPrice :: .ref a_o_knows :: .int o_alive :: .int o_day :: .ref a_o_over :: .ref a_o_named :: .ref a_o_lieDay :: .ref a_o_aloneYear :: .int o_seed :: .ref a_o_text :: .int (nI o_texted) :: .int o_faultPlace :: .int (nI o_at0) :: .long o_said :: .int (nI o_wordEnd) :: .int o_number :: .int (nI o_numberAt) :: .int o_readYear :: .int o_readClauses :: .int (nI o_readBridges) :: .ref a_o_readForgets :: .int (nI o_readMen) :: .ref a_o_readWeight :: .ref a_o_readComes :: .int o_readMany :: .ref a_o_readKnows :: .int (nI o_readOxen) :: .ref a_o_readOx :: .ref a_o_readPrice :: .ref a_o_order :: .ref a_o_orderNames :: .int (nI o_sights) :: .ref a_o_seenWho :: .ref a_o_seenNamed :: .ref a_o_seenLetGo :: .ref a_o_placeIn :: .ref a_o_behind :: .int (nI o_rowMany) :: .ref a_o_rowWho :: .ref a_o_rowNames :: .ref a_o_images :: .ref a_o_isKept :: []))), (a_o_named, .inl (tI, 30, .inl o_named)), (a_o_over, .inl (tI, 5, .inl o_over)), (a_o_lieDay, .inl (tI, 30, .inl o_lieDay_h4))] → va_S A s.heap H locs → lv_has ls 5 [(2, .int (nI k_4)), (1, .int v1_4), (0, .ref a_o)] → W p l e { frames := 1, cells := 0, slots := 0, locals := 21 } s m ([.ref a_o] : List Value).toArray below meth c H locs 0 0 Q (F0 m 4 ls []) := by
    intro n_4
    induction n_4 with
    | zero =>
      intro k_4 v1_4 o_lieDay_h4 H locs ls hn_4 hR hP hD hS hl
      refine lv_iload_n hx hb dX7_evening_4 rfl (lv_at hl 0 rfl) ?_
      refine lv_aload_n hx hb dX7_evening_5 rfl (lv_at hl 2 rfl) ?_
      refine fget E hP 0 rfl fd_X7_105 (v := .int (nI o_bridges)) rfl dX7_evening_6 ?_
      refine ni_ge (a := k_4) (b := o_bridges) (tgt := 101) (by omega) (by omega) hx hb dX7_evening_9 (by decide) (fun g_4 => ?_) (fun g_4 => ?_)
      · exact EX_4 v1_4 o_lieDay_h4  _ _ _ hR hP hD hS (lv_sub hl [1, 2] rfl)
      · exfalso; omega
    | succ n_4 ih_4 =>
      intro k_4 v1_4 o_lieDay_h4 H locs ls hn_4 hR hP hD hS hl
      have hR : (fun a => K_X7_evening_4 o_bridges o_over o_day a.1 a.2) (iter (fun k a => B_X7_evening_4 o_men o_named o_over o_day k a.1 a.2) n_4 (k_4 + 1) (B_X7_evening_4 o_men o_named o_over o_day k_4 v1_4 o_lieDay_h4)) = RES := hR
      generalize hB_4 : B_X7_evening_4 o_men o_named o_over o_day k_4 v1_4 o_lieDay_h4 = RB_4 at hR
      unfold B_X7_evening_4 at hB_4
      refine lv_iload_n hx hb dX7_evening_4 rfl (lv_at hl 0 rfl) ?_
      refine lv_aload_n hx hb dX7_evening_5 rfl (lv_at hl 2 rfl) ?_
      refine fget E hP 0 rfl fd_X7_105 (v := .int (nI o_bridges)) rfl dX7_evening_6 ?_
      refine ni_ge (a := k_4) (b := o_bridges) (tgt := 101) (by omega) (by omega) hx hb dX7_evening_9 (by decide) (fun g_4 => ?_) (fun g_4 => ?_)
      · exfalso; omega
      · refine lv_iconst (v := (0 : Int32)) hx hb dX7_evening_12 (by decide) ?_
        refine lv_istore_n (lv' := [(3, .int (0 : Int32)), (2, .int (nI k_4)), (1, .int v1_4), (0, .ref a_o)]) hx hb dX7_evening_13 rfl hl (by decide) rfl (fun ls hl => ?_)
        have EX_14 : ∀ (v1_14 : Int32) (o_lieDay_h14 : Nat → Int32)  (H : Heap) (locs : List Loc) (ls : Array Slot), K_X7_evening_14 v1_14 o_lieDay_h14 = RB_4 → va_P D vwCl [(a_o, .inr (7, (.int o_year :: .int (nI o_bridges) :: .ref a_o_forgets :: .int (nI o_men) :: .ref a_o_weight :: .ref a_o_comes :: .int (nI o_oxen) :: .ref a_o_oxWeight :: .ref a_o_oxPrice :: .ref a_o_knows :: .int o_alive :: .int o_day :: .ref a_o_over :: .ref a_o_named :: .ref a_o_lieDay :: .ref a_o_aloneYear :: .int o_seed :: .ref a_o_text :: .int (nI o_texted) :: .int o_faultPlace :: .int (nI o_at0) :: .long o_said :: .int (nI o_wordEnd) :: .int o_number :: .int (nI o_numberAt) :: .int o_readYear :: .int o_readClauses :: .int (nI o_readBridges) :: .ref a_o_readForgets :: .int (nI o_readMen) :: .ref a_o_readWeight :: .ref a_o_readComes :: .int o_readMany :: .ref a_o_readKnows :: .int (nI o_readOxen) :: .ref a_o_readOx :: .ref a_o_readPrice :: .ref a_o_order :: .ref a_o_orderNames :: .int (nI o_sights) :: .ref a_o_seenWho :: .ref a_o_seenNamed :: .ref a_o_seenLetGo :: .ref a_o_placeIn :: .ref a_o_behind :: .int (nI o_rowMany) :: .ref a_o_rowWho :: .ref a_o_rowNames :: .ref a_o_images :: .ref a_o_isKept :: []))), (a_o_named, .inl (tI, 30, .inl o_named)), (a_o_over, .inl (tI, 5, .inl o_over)), (a_o_lieDay, .inl (tI, 30, .inl o_lieDay_h14))] H → va_D A [(a_o, .inr (7, (.int o_year :: .int (nI o_bridges) :: .ref a_o_forgets :: .int (nI o_men) :: .ref a_o_weight :: .ref a_o_comes :: .int (nI o_oxen) :: .ref a_o_oxWeight :: .ref a_o_oxPrice :: .ref a_o_knows :: .int o_alive :: .int o_day :: .ref a_o_over :: .ref a_o_named :: .ref a_o_lieDay :: .ref a_o_aloneYear :: .int o_seed :: .ref a_o_text :: .int (nI o_texted) :: .int o_faultPlace :: .int (nI o_at0) :: .long o_said :: .int (nI o_wordEnd) :: .int o_number :: .int (nI o_numberAt) :: .int o_readYear :: .int o_readClauses :: .int (nI o_readBridges) :: .ref a_o_readForgets :: .int (nI o_readMen) :: .ref a_o_readWeight :: .ref a_o_readComes :: .int o_readMany :: .ref a_o_readKnows :: .int (nI o_readOxen) :: .ref a_o_readOx :: .ref a_o_readPrice :: .ref a_o_order :: .ref a_o_orderNames :: .int (nI o_sights) :: .ref a_o_seenWho :: .ref a_o_seenNamed :: .ref a_o_seenLetGo :: .ref a_o_placeIn :: .ref a_o_behind :: .int (nI o_rowMany) :: .ref a_o_rowWho :: .ref a_o_rowNames :: .ref a_o_images :: .ref a_o_isKept :: []))), (a_o_named, .inl (tI, 30, .inl o_named)), (a_o_over, .inl (tI, 5, .inl o_over)), (a_o_lieDay, .inl (tI, 30, .inl o_lieDay_h14))] → va_S A s.heap H locs → lv_has ls 5 [(2, .int (nI k_4)), (1, .int v1_14), (0, .ref a_o)] → W p l e { frames := 1, cells := 0, slots := 0, locals := 21 } s m ([.ref a_o] : List Value).toArray below meth c H locs 0 0 Q (F0 m 95 ls []) := by
          intro v1_14 o_lieDay_h14 H locs ls hB_4 hP hD hS hl
          unfold K_X7_evening_14 at hB_4
          refine lv_iinc (v := (nI (k_4 + 1))) (lv' := [(2, .int (nI (k_4 + 1))), (1, .int v1_14), (0, .ref a_o)]) hx hb dX7_evening_95 hl (k := 0) rfl (nI_i1 k_4) (by decide) rfl (fun ls hl => ?_)
          refine lv_goto (tgt := 4) hx hb dX7_evening_98 (by decide) ?_
          subst hB_4
          exact ih_4 (k_4 + 1) v1_14 o_lieDay_h14  _ _ _ (by omega) hR hP hD hS (lv_sub hl [0, 1, 2] rfl)
        have LP_14 : ∀ (n_14 k_14 : Nat) (v1_14 : Int32) (o_lieDay_h14 : Nat → Int32)  (H : Heap) (locs : List Loc) (ls : Array Slot), k_14 + n_14 = o_men → (fun a => K_X7_evening_14 a.1 a.2) (iter (fun k a => B_X7_evening_14 k_4 o_named o_over o_day k a.1 a.2) n_14 k_14 (v1_14, o_lieDay_h14)) = RB_4 → va_P D vwCl [(a_o, .inr (7, (.int o_year :: .int (nI o_bridges) :: .ref a_o_forgets :: .int (nI o_men) :: .ref a_o_weight :: .ref a_o_comes :: .int (nI o_oxen) :: .ref a_o_oxWeight :: .ref a_o_oxPrice :: .ref a_o_knows :: .int o_alive :: .int o_day :: .ref a_o_over :: .ref a_o_named :: .ref a_o_lieDay :: .ref a_o_aloneYear :: .int o_seed :: .ref a_o_text :: .int (nI o_texted) :: .int o_faultPlace :: .int (nI o_at0) :: .long o_said :: .int (nI o_wordEnd) :: .int o_number :: .int (nI o_numberAt) :: .int o_readYear :: .int o_readClauses :: .int (nI o_readBridges) :: .ref a_o_readForgets :: .int (nI o_readMen) :: .ref a_o_readWeight :: .ref a_o_readComes :: .int o_readMany :: .ref a_o_readKnows :: .int (nI o_readOxen) :: .ref a_o_readOx :: .ref a_o_readPrice :: .ref a_o_order :: .ref a_o_orderNames :: .int (nI o_sights) :: .ref a_o_seenWho :: .ref a_o_seenNamed :: .ref a_o_seenLetGo :: .ref a_o_placeIn :: .ref a_o_behind :: .int (nI o_rowMany) :: .ref a_o_rowWho :: .ref a_o_rowNames :: .ref a_o_images :: .ref a_o_isKept :: []))), (a_o_named, .inl (tI, 30, .inl o_named)), (a_o_over, .inl (tI, 5, .inl o_over)), (a_o_lieDay, .inl (tI, 30, .inl o_lieDay_h14))] H → va_D A [(a_o, .inr (7, (.int o_year :: .int (nI o_bridges) :: .ref a_o_forgets :: .int (nI o_men) :: .ref a_o_weight :: .ref a_o_comes :: .int (nI o_oxen) :: .ref a_o_oxWeight :: .ref a_o_oxPrice :: .ref a_o_knows :: .int o_alive :: .int o_day :: .ref a_o_over :: .ref a_o_named :: .ref a_o_lieDay :: .ref a_o_aloneYear :: .int o_seed :: .ref a_o_text :: .int (nI o_texted) :: .int o_faultPlace :: .int (nI o_at0) :: .long o_said :: .int (nI o_wordEnd) :: .int o_number :: .int (nI o_numberAt) :: .int o_readYear :: .int o_readClauses :: .int (nI o_readBridges) :: .ref a_o_readForgets :: .int (nI o_readMen) :: .ref a_o_readWeight :: .ref a_o_readComes :: .int o_readMany :: .ref a_o_readKnows :: .int (nI o_readOxen) :: .ref a_o_readOx :: .ref a_o_readPrice :: .ref a_o_order :: .ref a_o_orderNames :: .int (nI o_sights) :: .ref a_o_seenWho :: .ref a_o_seenNamed :: .ref a_o_seenLetGo :: .ref a_o_placeIn :: .ref a_o_behind :: .int (nI o_rowMany) :: .ref a_o_rowWho :: .ref a_o_rowNames :: .ref a_o_images :: .ref a_o_isKept :: []))), (a_o_named, .inl (tI, 30, .inl o_named)), (a_o_over, .inl (tI, 5, .inl o_over)), (a_o_lieDay, .inl (tI, 30, .inl o_lieDay_h14))] → va_S A s.heap H locs → lv_has ls 5 [(3, .int (nI k_14)), (2, .int (nI k_4)), (1, .int v1_14), (0, .ref a_o)] → W p l e { frames := 1, cells := 0, slots := 0, locals := 21 } s m ([.ref a_o] : List Value).toArray below meth c H locs 0 0 Q (F0 m 14 ls []) := by
          intro n_14
          induction n_14 with
          | zero =>
            intro k_14 v1_14 o_lieDay_h14 H locs ls hn_14 hB_4 hP hD hS hl
            refine lv_iload_n hx hb dX7_evening_14 rfl (lv_at hl 0 rfl) ?_
            refine lv_aload_n hx hb dX7_evening_15 rfl (lv_at hl 3 rfl) ?_
            refine fget E hP 0 rfl fd_X7_102 (v := .int (nI o_men)) rfl dX7_evening_16 ?_
            refine ni_ge (a := k_14) (b := o_men) (tgt := 95) (by omega) (by omega) hx hb dX7_evening_19 (by decide) (fun g_14 => ?_) (fun g_14 => ?_)
            · exact EX_14 v1_14 o_lieDay_h14  _ _ _ hB_4 hP hD hS (lv_sub hl [1, 2, 3] rfl)
            · exfalso; omega
          | succ n_14 ih_14 =>
            intro k_14 v1_14 o_lieDay_h14 H locs ls hn_14 hB_4 hP hD hS hl
            have hB_4 : (fun a => K_X7_evening_14 a.1 a.2) (iter (fun k a => B_X7_evening_14 k_4 o_named o_over o_day k a.1 a.2) n_14 (k_14 + 1) (B_X7_evening_14 k_4 o_named o_over o_day k_14 v1_14 o_lieDay_h14)) = RB_4 := hB_4
            generalize hB_14 : B_X7_evening_14 k_4 o_named o_over o_day k_14 v1_14 o_lieDay_h14 = RB_14 at hB_4
            unfold B_X7_evening_14 at hB_14
            refine lv_iload_n hx hb dX7_evening_14 rfl (lv_at hl 0 rfl) ?_
            refine lv_aload_n hx hb dX7_evening_15 rfl (lv_at hl 3 rfl) ?_
            refine fget E hP 0 rfl fd_X7_102 (v := .int (nI o_men)) rfl dX7_evening_16 ?_
            refine ni_ge (a := k_14) (b := o_men) (tgt := 95) (by omega) (by omega) hx hb dX7_evening_19 (by decide) (fun g_14 => ?_) (fun g_14 => ?_)
            · exfalso; omega
            · refine lv_aload_n hx hb dX7_evening_22 rfl (lv_at hl 3 rfl) ?_
              refine fget E hP 0 rfl fd_X7_35 (v := .ref a_o_named) rfl dX7_evening_23 ?_
              refine lv_bipush (v := (6 : Int32)) hx hb dX7_evening_26 (by decide) ?_
              refine lv_iload_n hx hb dX7_evening_28 rfl (lv_at hl 1 rfl) ?_
              refine lv_imul hx hb dX7_evening_29 ?_
              refine lv_is (pk_mul 6 k_4) ?_
              refine lv_iload_n hx hb dX7_evening_30 rfl (lv_at hl 0 rfl) ?_
              refine lv_iadd hx hb dX7_evening_31 ?_
              refine lv_is (nI_add (6 * k_4) k_14) ?_
              refine ild E hP 1 rfl (k := ((6 * k_4) + k_14)) (by omega) (by decide) dX7_evening_32 ?_
              refine lv_istore (lv' := [(4, .int (o_named ((6 * k_4) + k_14))), (3, .int (nI k_14)), (2, .int (nI k_4)), (1, .int v1_14), (0, .ref a_o)]) hx hb dX7_evening_33 hl (by decide) rfl (fun ls hl => ?_)
              refine lv_aload_n hx hb dX7_evening_35 rfl (lv_at hl 4 rfl) ?_
              refine fget E hP 0 rfl fd_X7_32 (v := .ref a_o_over) rfl dX7_evening_36 ?_
              refine lv_iload_n hx hb dX7_evening_39 rfl (lv_at hl 2 rfl) ?_
              refine ild E hP 2 rfl (k := k_4) (by omega) (by decide) dX7_evening_40 ?_
              refine lv_iload_n hx hb dX7_evening_41 rfl (lv_at hl 1 rfl) ?_
              refine kcS E hl.1 (c_X7_has l D tB tI tZ (o_over k_4) (nI k_14) ) cs_X7_has wm_X7_184 hP hD hS hA [] rfl rfl rfl (ws2 := [(a_o, .inr (7, (.int o_year :: .int (nI o_bridges) :: .ref a_o_forgets :: .int (nI o_men) :: .ref a_o_weight :: .ref a_o_comes :: .int (nI o_oxen) :: .ref a_o_oxWeight :: .ref a_o_oxPrice :: .ref a_o_knows :: .int o_alive :: .int o_day :: .ref a_o_over :: .ref a_o_named :: .ref a_o_lieDay :: .ref a_o_aloneYear :: .int o_seed :: .ref a_o_text :: .int (nI o_texted) :: .int o_faultPlace :: .int (nI o_at0) :: .long o_said :: .int (nI o_wordEnd) :: .int o_number :: .int (nI o_numberAt) :: .int o_readYear :: .int o_readClauses :: .int (nI o_readBridges) :: .ref a_o_readForgets :: .int (nI o_readMen) :: .ref a_o_readWeight :: .ref a_o_readComes :: .int o_readMany :: .ref a_o_readKnows :: .int (nI o_readOxen) :: .ref a_o_readOx :: .ref a_o_readPrice :: .ref a_o_order :: .ref a_o_orderNames :: .int (nI o_sights) :: .ref a_o_seenWho :: .ref a_o_seenNamed :: .ref a_o_seenLetGo :: .ref a_o_placeIn :: .ref a_o_behind :: .int (nI o_rowMany) :: .ref a_o_rowWho :: .ref a_o_rowNames :: .ref a_o_images :: .ref a_o_isKept :: []))), (a_o_named, .inl (tI, 30, .inl o_named)), (a_o_over, .inl (tI, 5, .inl o_over)), (a_o_lieDay, .inl (tI, 30, .inl o_lieDay_h14))]) rfl rfl (As := [.int (o_over k_4), .int (nI k_14)]) (rest := []) rfl rfl (Nat.le_of_ble_eq_true rfl) ⟨Nat.le_of_ble_eq_true rfl, Nat.le_of_ble_eq_true rfl⟩ ⟨Nat.zero_le _, Nat.zero_le _⟩ dX7_evening_42 (fun H locs hP hD hS => ?_)
              refine lv_if_eq (tgt := 89) hx hb dX7_evening_45 (by decide) (fun c_5 => ?_) (fun c_5 => ?_)
              · rw [if_pos c_5] at hB_14
                refine lv_iinc (v := (nI (k_14 + 1))) (lv' := [(3, .int (nI (k_14 + 1))), (4, .int (o_named ((6 * k_4) + k_14))), (2, .int (nI k_4)), (1, .int v1_14), (0, .ref a_o)]) hx hb dX7_evening_89 hl (k := 1) rfl (nI_i1 k_14) (by decide) rfl (fun ls hl => ?_)
                refine lv_goto (tgt := 14) hx hb dX7_evening_92 (by decide) ?_
                subst hB_14
                exact ih_14 (k_14 + 1) v1_14 o_lieDay_h14  _ _ _ (by omega) hB_4 hP hD hS (lv_sub hl [0, 2, 3, 4] rfl)
              · rw [if_neg c_5] at hB_14
                refine lv_iload hx hb dX7_evening_48 (lv_at hl 0 rfl) ?_
                refine lv_iconst (v := (-1 : Int32)) hx hb dX7_evening_50 (by decide) ?_
                refine lv_icmp_eq (tgt := 89) hx hb dX7_evening_51 (by decide) (fun c_6 => ?_) (fun c_6 => ?_)
                · rw [if_pos c_6] at hB_14
                  refine lv_iinc (v := (nI (k_14 + 1))) (lv' := [(3, .int (nI (k_14 + 1))), (4, .int (o_named ((6 * k_4) + k_14))), (2, .int (nI k_4)), (1, .int v1_14), (0, .ref a_o)]) hx hb dX7_evening_89 hl (k := 1) rfl (nI_i1 k_14) (by decide) rfl (fun ls hl => ?_)
                  refine lv_goto (tgt := 14) hx hb dX7_evening_92 (by decide) ?_
                  subst hB_14
                  exact ih_14 (k_14 + 1) v1_14 o_lieDay_h14  _ _ _ (by omega) hB_4 hP hD hS (lv_sub hl [0, 2, 3, 4] rfl)
                · rw [if_neg c_6] at hB_14
                  refine lv_aload_n hx hb dX7_evening_54 rfl (lv_at hl 4 rfl) ?_
                  refine fget E hP 0 rfl fd_X7_32 (v := .ref a_o_over) rfl dX7_evening_55 ?_
                  refine lv_iload_n hx hb dX7_evening_58 rfl (lv_at hl 2 rfl) ?_
                  refine ild E hP 2 rfl (k := k_4) (by omega) (by decide) dX7_evening_59 ?_
                  refine lv_iload hx hb dX7_evening_60 (lv_at hl 0 rfl) ?_
                  refine kcS E hl.1 (c_X7_has l D tB tI tZ (o_over k_4) (o_named ((6 * k_4) + k_14)) ) cs_X7_has wm_X7_184 hP hD hS hA [] rfl rfl rfl (ws2 := [(a_o, .inr (7, (.int o_year :: .int (nI o_bridges) :: .ref a_o_forgets :: .int (nI o_men) :: .ref a_o_weight :: .ref a_o_comes :: .int (nI o_oxen) :: .ref a_o_oxWeight :: .ref a_o_oxPrice :: .ref a_o_knows :: .int o_alive :: .int o_day :: .ref a_o_over :: .ref a_o_named :: .ref a_o_lieDay :: .ref a_o_aloneYear :: .int o_seed :: .ref a_o_text :: .int (nI o_texted) :: .int o_faultPlace :: .int (nI o_at0) :: .long o_said :: .int (nI o_wordEnd) :: .int o_number :: .int (nI o_numberAt) :: .int o_readYear :: .int o_readClauses :: .int (nI o_readBridges) :: .ref a_o_readForgets :: .int (nI o_readMen) :: .ref a_o_readWeight :: .ref a_o_readComes :: .int o_readMany :: .ref a_o_readKnows :: .int (nI o_readOxen) :: .ref a_o_readOx :: .ref a_o_readPrice :: .ref a_o_order :: .ref a_o_orderNames :: .int (nI o_sights) :: .ref a_o_seenWho :: .ref a_o_seenNamed :: .ref a_o_seenLetGo :: .ref a_o_placeIn :: .ref a_o_behind :: .int (nI o_rowMany) :: .ref a_o_rowWho :: .ref a_o_rowNames :: .ref a_o_images :: .ref a_o_isKept :: []))), (a_o_named, .inl (tI, 30, .inl o_named)), (a_o_over, .inl (tI, 5, .inl o_over)), (a_o_lieDay, .inl (tI, 30, .inl o_lieDay_h14))]) rfl rfl (As := [.int (o_over k_4), .int (o_named ((6 * k_4) + k_14))]) (rest := []) rfl rfl (Nat.le_of_ble_eq_true rfl) ⟨Nat.le_of_ble_eq_true rfl, Nat.le_of_ble_eq_true rfl⟩ ⟨Nat.zero_le _, Nat.zero_le _⟩ dX7_evening_62 (fun H locs hP hD hS => ?_)
                  refine lv_if_ne (tgt := 89) hx hb dX7_evening_65 (by decide) (fun c_7 => ?_) (fun c_7 => ?_)
                  · rw [if_neg c_7] at hB_14
                    refine lv_iinc (v := (nI (k_14 + 1))) (lv' := [(3, .int (nI (k_14 + 1))), (4, .int (o_named ((6 * k_4) + k_14))), (2, .int (nI k_4)), (1, .int v1_14), (0, .ref a_o)]) hx hb dX7_evening_89 hl (k := 1) rfl (nI_i1 k_14) (by decide) rfl (fun ls hl => ?_)
                    refine lv_goto (tgt := 14) hx hb dX7_evening_92 (by decide) ?_
                    subst hB_14
                    exact ih_14 (k_14 + 1) v1_14 o_lieDay_h14  _ _ _ (by omega) hB_4 hP hD hS (lv_sub hl [0, 2, 3, 4] rfl)
                  · rw [if_pos c_7] at hB_14
                    refine lv_iload_n hx hb dX7_evening_68 rfl (lv_at hl 3 rfl) ?_
                    refine lv_iconst (v := (1 : Int32)) hx hb dX7_evening_69 (by decide) ?_
                    refine lv_iload_n hx hb dX7_evening_70 rfl (lv_at hl 1 rfl) ?_
                    refine lv_ishl hx hb dX7_evening_71 ?_
                    refine lv_ior hx hb dX7_evening_72 ?_
                    refine lv_istore_n (lv' := [(1, .int (v1_14 ||| ((1 : Int32) <<< ((nI k_14) &&& 31)))), (4, .int (o_named ((6 * k_4) + k_14))), (3, .int (nI k_14)), (2, .int (nI k_4)), (0, .ref a_o)]) hx hb dX7_evening_73 rfl hl (by decide) rfl (fun ls hl => ?_)
                    refine lv_aload_n hx hb dX7_evening_74 rfl (lv_at hl 4 rfl) ?_
                    refine fget E hP 0 rfl fd_X7_38 (v := .ref a_o_lieDay) rfl dX7_evening_75 ?_
                    refine lv_bipush (v := (6 : Int32)) hx hb dX7_evening_78 (by decide) ?_
                    refine lv_iload_n hx hb dX7_evening_80 rfl (lv_at hl 3 rfl) ?_
                    refine lv_imul hx hb dX7_evening_81 ?_
                    refine lv_is (pk_mul 6 k_4) ?_
                    refine lv_iload_n hx hb dX7_evening_82 rfl (lv_at hl 2 rfl) ?_
                    refine lv_iadd hx hb dX7_evening_83 ?_
                    refine lv_is (nI_add (6 * k_4) k_14) ?_
                    refine lv_aload_n hx hb dX7_evening_84 rfl (lv_at hl 4 rfl) ?_
                    refine fget E hP 0 rfl fd_X7_229 (v := .int o_day) rfl dX7_evening_85 ?_
                    refine ist E hP hD hS 3 rfl (k := ((6 * k_4) + k_14)) (by omega) (by decide) dX7_evening_88 (fun H locs hP hD hS => ?_)
                    have hP : va_P D vwCl [(a_o, .inr (7, (.int o_year :: .int (nI o_bridges) :: .ref a_o_forgets :: .int (nI o_men) :: .ref a_o_weight :: .ref a_o_comes :: .int (nI o_oxen) :: .ref a_o_oxWeight :: .ref a_o_oxPrice :: .ref a_o_knows :: .int o_alive :: .int o_day :: .ref a_o_over :: .ref a_o_named :: .ref a_o_lieDay :: .ref a_o_aloneYear :: .int o_seed :: .ref a_o_text :: .int (nI o_texted) :: .int o_faultPlace :: .int (nI o_at0) :: .long o_said :: .int (nI o_wordEnd) :: .int o_number :: .int (nI o_numberAt) :: .int o_readYear :: .int o_readClauses :: .int (nI o_readBridges) :: .ref a_o_readForgets :: .int (nI o_readMen) :: .ref a_o_readWeight :: .ref a_o_readComes :: .int o_readMany :: .ref a_o_readKnows :: .int (nI o_readOxen) :: .ref a_o_readOx :: .ref a_o_readPrice :: .ref a_o_order :: .ref a_o_orderNames :: .int (nI o_sights) :: .ref a_o_seenWho :: .ref a_o_seenNamed :: .ref a_o_seenLetGo :: .ref a_o_placeIn :: .ref a_o_behind :: .int (nI o_rowMany) :: .ref a_o_rowWho :: .ref a_o_rowNames :: .ref a_o_images :: .ref a_o_isKept :: []))), (a_o_named, .inl (tI, 30, .inl o_named)), (a_o_over, .inl (tI, 5, .inl o_over)), (a_o_lieDay, .inl (tI, 30, .inl (upd o_lieDay_h14 ((6 * k_4) + k_14) o_day)))] H := hP
                    have hD : va_D A [(a_o, .inr (7, (.int o_year :: .int (nI o_bridges) :: .ref a_o_forgets :: .int (nI o_men) :: .ref a_o_weight :: .ref a_o_comes :: .int (nI o_oxen) :: .ref a_o_oxWeight :: .ref a_o_oxPrice :: .ref a_o_knows :: .int o_alive :: .int o_day :: .ref a_o_over :: .ref a_o_named :: .ref a_o_lieDay :: .ref a_o_aloneYear :: .int o_seed :: .ref a_o_text :: .int (nI o_texted) :: .int o_faultPlace :: .int (nI o_at0) :: .long o_said :: .int (nI o_wordEnd) :: .int o_number :: .int (nI o_numberAt) :: .int o_readYear :: .int o_readClauses :: .int (nI o_readBridges) :: .ref a_o_readForgets :: .int (nI o_readMen) :: .ref a_o_readWeight :: .ref a_o_readComes :: .int o_readMany :: .ref a_o_readKnows :: .int (nI o_readOxen) :: .ref a_o_readOx :: .ref a_o_readPrice :: .ref a_o_order :: .ref a_o_orderNames :: .int (nI o_sights) :: .ref a_o_seenWho :: .ref a_o_seenNamed :: .ref a_o_seenLetGo :: .ref a_o_placeIn :: .ref a_o_behind :: .int (nI o_rowMany) :: .ref a_o_rowWho :: .ref a_o_rowNames :: .ref a_o_images :: .ref a_o_isKept :: []))), (a_o_named, .inl (tI, 30, .inl o_named)), (a_o_over, .inl (tI, 5, .inl o_over)), (a_o_lieDay, .inl (tI, 30, .inl (upd o_lieDay_h14 ((6 * k_4) + k_14) o_day)))] := hD
                    refine lv_iinc (v := (nI (k_14 + 1))) (lv' := [(3, .int (nI (k_14 + 1))), (1, .int (v1_14 ||| ((1 : Int32) <<< ((nI k_14) &&& 31)))), (4, .int (o_named ((6 * k_4) + k_14))), (2, .int (nI k_4)), (0, .ref a_o)]) hx hb dX7_evening_89 hl (k := 2) rfl (nI_i1 k_14) (by decide) rfl (fun ls hl => ?_)
                    refine lv_goto (tgt := 14) hx hb dX7_evening_92 (by decide) ?_
                    subst hB_14
                    exact ih_14 (k_14 + 1) (v1_14 ||| ((1 : Int32) <<< ((nI k_14) &&& 31))) (upd o_lieDay_h14 ((6 * k_4) + k_14) o_day)  _ _ _ (by omega) hB_4 hP hD hS (lv_sub hl [0, 3, 1, 4] rfl)
        exact LP_14 o_men 0 v1_4 o_lieDay_h4  _ _ _ (by omega) hB_4 hP hD hS (lv_sub hl [0, 1, 2, 3] rfl)
  exact LP_4 o_bridges 0 (0 : Int32) o_lieDay  _ _ _ (by omega) hR hP hD hS (lv_sub hl [0, 1, 2] rfl)

def S_X7_know (x1 : Int32) (x2 : Int32) (x3 : Int32) (o_men : Nat) (o_knows : Nat → Int32) : Int32 × (Nat → Int32) := (if (S_X7_isMan x1 o_men) = 0 then ((-1000000001 : Int32), o_knows) else (if (S_X7_isMan x2 o_men) = 0 then ((-1000000001 : Int32), o_knows) else (if x1.toNatClampNeg = x2.toNatClampNeg then ((-1000000001 : Int32), o_knows) else (if x3 = 0 then ((((o_knows x1.toNatClampNeg) >>> ((nI x2.toNatClampNeg) &&& 31)) &&& (1 : Int32)), (upd o_knows x1.toNatClampNeg ((o_knows x1.toNatClampNeg) &&& (((1 : Int32) <<< ((nI x2.toNatClampNeg) &&& 31)) ^^^ (-1 : Int32))))) else ((((o_knows x1.toNatClampNeg) >>> ((nI x2.toNatClampNeg) &&& 31)) &&& (1 : Int32)), (upd o_knows x1.toNatClampNeg ((o_knows x1.toNatClampNeg) ||| ((1 : Int32) <<< ((nI x2.toNatClampNeg) &&& 31)))))))))
set_option maxHeartbeats 4000000 in
set_option maxRecDepth 100000 in
theorem c_X7_know (l : Launch) (D : va_G) (tB tI tZ : ClassId) (a_o a_o_forgets a_o_weight a_o_comes a_o_oxWeight a_o_oxPrice a_o_knows a_o_over a_o_named a_o_lieDay a_o_aloneYear a_o_text a_o_readForgets a_o_readWeight a_o_readComes a_o_readKnows a_o_readOx a_o_readPrice a_o_order a_o_orderNames a_o_seenWho a_o_seenNamed a_o_seenLetGo a_o_placeIn a_o_behind a_o_rowWho a_o_rowNames a_o_images a_o_isKept : Nat) (o_year : Int32) (o_bridges : Nat) (o_men : Nat) (o_oxen : Nat) (o_alive : Int32) (o_day : Int32) (o_seed : Int32) (o_texted : Nat) (o_faultPlace : Int32) (o_at0 : Nat) (o_said : Int64) (o_wordEnd : Nat) (o_number : Int32) (o_numberAt : Nat) (o_readYear : Int32) (o_readClauses : Int32) (o_readBridges : Nat) (o_readMen : Nat) (o_readMany : Int32) (o_readOxen : Nat) (o_sights : Nat) (o_rowMany : Nat) (o_knows : Nat → Int32) (x1 : Int32) (x2 : Int32) (x3 : Int32) (hmen : o_men ≤ 6) (hz_x3 : x3 = 0 ∨ x3 = 1) : CT l D (tyL tB tI tZ) yX7_know (.code yX7_know cX7_know 5 (some .int)) 2 46 [.ref a_o, .int x1, .int x2, .int x3] [(a_o, .inr (7, (.int o_year :: .int (nI o_bridges) :: .ref a_o_forgets :: .int (nI o_men) :: .ref a_o_weight :: .ref a_o_comes :: .int (nI o_oxen) :: .ref a_o_oxWeight :: .ref a_o_oxPrice :: .ref a_o_knows :: .int o_alive :: .int o_day :: .ref a_o_over :: .ref a_o_named :: .ref a_o_lieDay :: .ref a_o_aloneYear :: .int o_seed :: .ref a_o_text :: .int (nI o_texted) :: .int o_faultPlace :: .int (nI o_at0) :: .long o_said :: .int (nI o_wordEnd) :: .int o_number :: .int (nI o_numberAt) :: .int o_readYear :: .int o_readClauses :: .int (nI o_readBridges) :: .ref a_o_readForgets :: .int (nI o_readMen) :: .ref a_o_readWeight :: .ref a_o_readComes :: .int o_readMany :: .ref a_o_readKnows :: .int (nI o_readOxen) :: .ref a_o_readOx :: .ref a_o_readPrice :: .ref a_o_order :: .ref a_o_orderNames :: .int (nI o_sights) :: .ref a_o_seenWho :: .ref a_o_seenNamed :: .ref a_o_seenLetGo :: .ref a_o_placeIn :: .ref a_o_behind :: .int (nI o_rowMany) :: .ref a_o_rowWho :: .ref a_o_rowNames :: .ref a_o_images :: .ref a_o_isKept :: []))), (a_o_knows, .inl (tI, 6, .inl o_knows))] (fun u : Int32 × (Nat → Int32) => some (.int (u.1))) (fun u : Int32 × (Nat → Int32) => [(a_o, .inr (7, (.int o_year :: .int (nI o_bridges) :: .ref a_o_forgets :: .int (nI o_men) :: .ref a_o_weight :: .ref a_o_comes :: .int (nI o_oxen) :: .ref a_o_oxWeight :: .ref a_o_oxPrice :: .ref a_o_knows :: .int o_alive :: .int o_day :: .ref a_o_over :: .ref a_o_named :: .ref a_o_lieDay :: .ref a_o_aloneYear :: .int o_seed :: .ref a_o_text :: .int (nI o_texted) :: .int o_faultPlace :: .int (nI o_at0) :: .long o_said :: .int (nI o_wordEnd) :: .int o_number :: .int (nI o_numberAt) :: .int o_readYear :: .int o_readClauses :: .int (nI o_readBridges) :: .ref a_o_readForgets :: .int (nI o_readMen) :: .ref a_o_readWeight :: .ref a_o_readComes :: .int o_readMany :: .ref a_o_readKnows :: .int (nI o_readOxen) :: .ref a_o_readOx :: .ref a_o_readPrice :: .ref a_o_order :: .ref a_o_orderNames :: .int (nI o_sights) :: .ref a_o_seenWho :: .ref a_o_seenNamed :: .ref a_o_seenLetGo :: .ref a_o_placeIn :: .ref a_o_behind :: .int (nI o_rowMany) :: .ref a_o_rowWho :: .ref a_o_rowNames :: .ref a_o_images :: .ref a_o_isKept :: []))), (a_o_knows, .inl (tI, 6, .inl (u.2)))]) (S_X7_know x1 x2 x3 o_men o_knows) := by
  refine CT.intro (k := 0) (Nat.le_of_ble_eq_true rfl) (by decide) ?_
  intro p e s m below meth c Q A ls E hA hP hD hS hl hF
  obtain ⟨⟨hx, hb, hml, hown, hts⟩, hK⟩ := id E
  generalize hR : S_X7_know x1 x2 x3 o_men o_knows = RES at hF
  unfold S_X7_know at hR
  have hl : lv_has ls 5 [(0, .ref a_o), (1, .int x1), (2, .int x2), (3, .int x3)] := hl
  refine lv_aload_n hx hb dX7_know_0 rfl (lv_at hl 0 rfl) ?_
  refine lv_iload_n hx hb dX7_know_1 rfl (lv_at hl 1 rfl) ?_
  refine kcV E hl.1 (c_X7_isMan l D tB tI tZ a_o a_o_forgets a_o_weight a_o_comes a_o_oxWeight a_o_oxPrice a_o_knows a_o_over a_o_named a_o_lieDay a_o_aloneYear a_o_text a_o_readForgets a_o_readWeight a_o_readComes a_o_readKnows a_o_readOx a_o_readPrice a_o_order a_o_orderNames a_o_seenWho a_o_seenNamed a_o_seenLetGo a_o_placeIn a_o_behind a_o_rowWho a_o_rowNames a_o_images a_o_isKept o_year o_bridges o_men o_oxen o_alive o_day o_seed o_texted o_faultPlace o_at0 o_said o_wordEnd o_number o_numberAt o_readYear o_readClauses o_readBridges o_readMen o_readMany o_readOxen o_sights o_rowMany x1 ) cv_X7_isMan wm_X7_112 hP hD hS hA [0] rfl rfl rfl (ws2 := [(a_o, .inr (7, (.int o_year :: .int (nI o_bridges) :: .ref a_o_forgets :: .int (nI o_men) :: .ref a_o_weight :: .ref a_o_comes :: .int (nI o_oxen) :: .ref a_o_oxWeight :: .ref a_o_oxPrice :: .ref a_o_knows :: .int o_alive :: .int o_day :: .ref a_o_over :: .ref a_o_named :: .ref a_o_lieDay :: .ref a_o_aloneYear :: .int o_seed :: .ref a_o_text :: .int (nI o_texted) :: .int o_faultPlace :: .int (nI o_at0) :: .long o_said :: .int (nI o_wordEnd) :: .int o_number :: .int (nI o_numberAt) :: .int o_readYear :: .int o_readClauses :: .int (nI o_readBridges) :: .ref a_o_readForgets :: .int (nI o_readMen) :: .ref a_o_readWeight :: .ref a_o_readComes :: .int o_readMany :: .ref a_o_readKnows :: .int (nI o_readOxen) :: .ref a_o_readOx :: .ref a_o_readPrice :: .ref a_o_order :: .ref a_o_orderNames :: .int (nI o_sights) :: .ref a_o_seenWho :: .ref a_o_seenNamed :: .ref a_o_seenLetGo :: .ref a_o_placeIn :: .ref a_o_behind :: .int (nI o_rowMany) :: .ref a_o_rowWho :: .ref a_o_rowNames :: .ref a_o_images :: .ref a_o_isKept :: []))), (a_o_knows, .inl (tI, 6, .inl o_knows))]) rfl rfl (b := a_o) (As := [.int x1]) (rest := []) 0 7 rfl rfl rfl rfl (Nat.le_of_ble_eq_true rfl) ⟨Nat.le_of_ble_eq_true rfl, Nat.le_of_ble_eq_true rfl⟩ ⟨Nat.zero_le _, Nat.zero_le _⟩ dX7_know_2 (fun H locs hP hD hS => ?_)
  refine lv_if_eq (tgt := 21) hx hb dX7_know_5 (by decide) (fun c_1 => ?_) (fun c_1 => ?_)
  · rw [if_pos c_1] at hR
    refine lv_ldc hx hb hown (hts _ wk_X7_244) dX7_know_21 ?_
    subst hR
    exact (hF _ _ _ _ hP hS).1 _ rfl ⟨.int, rfl, rfl⟩ dX7_know_23
  · rw [if_neg c_1] at hR
    obtain ⟨fa_c_1, fb_c_1⟩ := isMan_of c_1 (by omega)
    refine lv_aload_n hx hb dX7_know_8 rfl (lv_at hl 0 rfl) ?_
    refine lv_iload_n hx hb dX7_know_9 rfl (lv_at hl 2 rfl) ?_
    refine kcV E hl.1 (c_X7_isMan l D tB tI tZ a_o a_o_forgets a_o_weight a_o_comes a_o_oxWeight a_o_oxPrice a_o_knows a_o_over a_o_named a_o_lieDay a_o_aloneYear a_o_text a_o_readForgets a_o_readWeight a_o_readComes a_o_readKnows a_o_readOx a_o_readPrice a_o_order a_o_orderNames a_o_seenWho a_o_seenNamed a_o_seenLetGo a_o_placeIn a_o_behind a_o_rowWho a_o_rowNames a_o_images a_o_isKept o_year o_bridges o_men o_oxen o_alive o_day o_seed o_texted o_faultPlace o_at0 o_said o_wordEnd o_number o_numberAt o_readYear o_readClauses o_readBridges o_readMen o_readMany o_readOxen o_sights o_rowMany x2 ) cv_X7_isMan wm_X7_112 hP hD hS hA [0] rfl rfl rfl (ws2 := [(a_o, .inr (7, (.int o_year :: .int (nI o_bridges) :: .ref a_o_forgets :: .int (nI o_men) :: .ref a_o_weight :: .ref a_o_comes :: .int (nI o_oxen) :: .ref a_o_oxWeight :: .ref a_o_oxPrice :: .ref a_o_knows :: .int o_alive :: .int o_day :: .ref a_o_over :: .ref a_o_named :: .ref a_o_lieDay :: .ref a_o_aloneYear :: .int o_seed :: .ref a_o_text :: .int (nI o_texted) :: .int o_faultPlace :: .int (nI o_at0) :: .long o_said :: .int (nI o_wordEnd) :: .int o_number :: .int (nI o_numberAt) :: .int o_readYear :: .int o_readClauses :: .int (nI o_readBridges) :: .ref a_o_readForgets :: .int (nI o_readMen) :: .ref a_o_readWeight :: .ref a_o_readComes :: .int o_readMany :: .ref a_o_readKnows :: .int (nI o_readOxen) :: .ref a_o_readOx :: .ref a_o_readPrice :: .ref a_o_order :: .ref a_o_orderNames :: .int (nI o_sights) :: .ref a_o_seenWho :: .ref a_o_seenNamed :: .ref a_o_seenLetGo :: .ref a_o_placeIn :: .ref a_o_behind :: .int (nI o_rowMany) :: .ref a_o_rowWho :: .ref a_o_rowNames :: .ref a_o_images :: .ref a_o_isKept :: []))), (a_o_knows, .inl (tI, 6, .inl o_knows))]) rfl rfl (b := a_o) (As := [.int x2]) (rest := []) 0 7 rfl rfl rfl rfl (Nat.le_of_ble_eq_true rfl) ⟨Nat.le_of_ble_eq_true rfl, Nat.le_of_ble_eq_true rfl⟩ ⟨Nat.zero_le _, Nat.zero_le _⟩ dX7_know_10 (fun H locs hP hD hS => ?_)
    refine lv_if_eq (tgt := 21) hx hb dX7_know_13 (by decide) (fun c_2 => ?_) (fun c_2 => ?_)
    · rw [if_pos c_2] at hR
      refine lv_ldc hx hb hown (hts _ wk_X7_244) dX7_know_21 ?_
      subst hR
      exact (hF _ _ _ _ hP hS).1 _ rfl ⟨.int, rfl, rfl⟩ dX7_know_23
    · rw [if_neg c_2] at hR
      obtain ⟨fa_c_2, fb_c_2⟩ := isMan_of c_2 (by omega)
      refine lv_iload_n hx hb dX7_know_16 rfl (lv_at hl 1 rfl) ?_
      refine lv_is fa_c_1 ?_
      refine lv_iload_n hx hb dX7_know_17 rfl (lv_at hl 2 rfl) ?_
      refine lv_is fa_c_2 ?_
      refine ni_ne (a := x1.toNatClampNeg) (b := x2.toNatClampNeg) (tgt := 24) (by omega) (by omega) hx hb dX7_know_18 (by decide) (fun c_3 => ?_) (fun c_3 => ?_)
      · rw [if_neg c_3] at hR
        refine lv_aload_n hx hb dX7_know_24 rfl (lv_at hl 0 rfl) ?_
        refine fget E hP 0 rfl fd_X7_29 (v := .ref a_o_knows) rfl dX7_know_25 ?_
        refine lv_iload_n hx hb dX7_know_28 rfl (lv_at hl 1 rfl) ?_
        refine lv_is fa_c_1 ?_
        refine ild E hP 1 rfl (k := x1.toNatClampNeg) (by omega) (by decide) dX7_know_29 ?_
        refine lv_iload_n hx hb dX7_know_30 rfl (lv_at hl 2 rfl) ?_
        refine lv_is fa_c_2 ?_
        refine lv_ishr hx hb dX7_know_31 ?_
        refine lv_iconst (v := (1 : Int32)) hx hb dX7_know_32 (by decide) ?_
        refine lv_iand hx hb dX7_know_33 ?_
        refine lv_istore (lv' := [(4, .int (((o_knows x1.toNatClampNeg) >>> ((nI x2.toNatClampNeg) &&& 31)) &&& (1 : Int32))), (0, .ref a_o), (1, .int x1), (2, .int x2), (3, .int x3)]) hx hb dX7_know_34 hl (by decide) rfl (fun ls hl => ?_)
        refine lv_aload_n hx hb dX7_know_36 rfl (lv_at hl 1 rfl) ?_
        refine fget E hP 0 rfl fd_X7_29 (v := .ref a_o_knows) rfl dX7_know_37 ?_
        refine lv_iload_n hx hb dX7_know_40 rfl (lv_at hl 2 rfl) ?_
        refine lv_is fa_c_1 ?_
        refine lv_iload_n hx hb dX7_know_41 rfl (lv_at hl 4 rfl) ?_
        refine lv_if_eq (tgt := 58) hx hb dX7_know_42 (by decide) (fun c_4 => ?_) (fun c_4 => ?_)
        · rw [if_pos c_4] at hR
          refine lv_aload_n hx hb dX7_know_58 rfl (lv_at hl 1 rfl) ?_
          refine fget E hP 0 rfl fd_X7_29 (v := .ref a_o_knows) rfl dX7_know_59 ?_
          refine lv_iload_n hx hb dX7_know_62 rfl (lv_at hl 2 rfl) ?_
          refine lv_is fa_c_1 ?_
          refine ild E hP 1 rfl (k := x1.toNatClampNeg) (by omega) (by decide) dX7_know_63 ?_
          refine lv_iconst (v := (1 : Int32)) hx hb dX7_know_64 (by decide) ?_
          refine lv_iload_n hx hb dX7_know_65 rfl (lv_at hl 3 rfl) ?_
          refine lv_is fa_c_2 ?_
          refine lv_ishl hx hb dX7_know_66 ?_
          refine lv_iconst (v := (-1 : Int32)) hx hb dX7_know_67 (by decide) ?_
          refine lv_ixor hx hb dX7_know_68 ?_
          refine lv_iand hx hb dX7_know_69 ?_
          refine ist E hP hD hS 1 rfl (k := x1.toNatClampNeg) (by omega) (by decide) dX7_know_70 (fun H locs hP hD hS => ?_)
          have hP : va_P D vwCl [(a_o, .inr (7, (.int o_year :: .int (nI o_bridges) :: .ref a_o_forgets :: .int (nI o_men) :: .ref a_o_weight :: .ref a_o_comes :: .int (nI o_oxen) :: .ref a_o_oxWeight :: .ref a_o_oxPrice :: .ref a_o_knows :: .int o_alive :: .int o_day :: .ref a_o_over :: .ref a_o_named :: .ref a_o_lieDay :: .ref a_o_aloneYear :: .int o_seed :: .ref a_o_text :: .int (nI o_texted) :: .int o_faultPlace :: .int (nI o_at0) :: .long o_said :: .int (nI o_wordEnd) :: .int o_number :: .int (nI o_numberAt) :: .int o_readYear :: .int o_readClauses :: .int (nI o_readBridges) :: .ref a_o_readForgets :: .int (nI o_readMen) :: .ref a_o_readWeight :: .ref a_o_readComes :: .int o_readMany :: .ref a_o_readKnows :: .int (nI o_readOxen) :: .ref a_o_readOx :: .ref a_o_readPrice :: .ref a_o_order :: .ref a_o_orderNames :: .int (nI o_sights) :: .ref a_o_seenWho :: .ref a_o_seenNamed :: .ref a_o_seenLetGo :: .ref a_o_placeIn :: .ref a_o_behind :: .int (nI o_rowMany) :: .ref a_o_rowWho :: .ref a_o_rowNames :: .ref a_o_images :: .ref a_o_isKept :: []))), (a_o_knows, .inl (tI, 6, .inl (upd o_knows x1.toNatClampNeg ((o_knows x1.toNatClampNeg) &&& (((1 : Int32) <<< ((nI x2.toNatClampNeg) &&& 31)) ^^^ (-1 : Int32))))))] H := hP
          have hD : va_D A [(a_o, .inr (7, (.int o_year :: .int (nI o_bridges) :: .ref a_o_forgets :: .int (nI o_men) :: .ref a_o_weight :: .ref a_o_comes :: .int (nI o_oxen) :: .ref a_o_oxWeight :: .ref a_o_oxPrice :: .ref a_o_knows :: .int o_alive :: .int o_day :: .ref a_o_over :: .ref a_o_named :: .ref a_o_lieDay :: .ref a_o_aloneYear :: .int o_seed :: .ref a_o_text :: .int (nI o_texted) :: .int o_faultPlace :: .int (nI o_at0) :: .long o_said :: .int (nI o_wordEnd) :: .int o_number :: .int (nI o_numberAt) :: .int o_readYear :: .int o_readClauses :: .int (nI o_readBridges) :: .ref a_o_readForgets :: .int (nI o_readMen) :: .ref a_o_readWeight :: .ref a_o_readComes :: .int o_readMany :: .ref a_o_readKnows :: .int (nI o_readOxen) :: .ref a_o_readOx :: .ref a_o_readPrice :: .ref a_o_order :: .ref a_o_orderNames :: .int (nI o_sights) :: .ref a_o_seenWho :: .ref a_o_seenNamed :: .ref a_o_seenLetGo :: .ref a_o_placeIn :: .ref a_o_behind :: .int (nI o_rowMany) :: .ref a_o_rowWho :: .ref a_o_rowNames :: .ref a_o_images :: .ref a_o_isKept :: []))), (a_o_knows, .inl (tI, 6, .inl (upd o_knows x1.toNatClampNeg ((o_knows x1.toNatClampNeg) &&& (((1 : Int32) <<< ((nI x2.toNatClampNeg) &&& 31)) ^^^ (-1 : Int32))))))] := hD
          refine lv_iload hx hb dX7_know_71 (lv_at hl 0 rfl) ?_
          subst hR
          exact (hF _ _ _ _ hP hS).1 _ rfl ⟨.int, rfl, rfl⟩ dX7_know_73
        · rw [if_neg c_4] at hR
          refine lv_aload_n hx hb dX7_know_45 rfl (lv_at hl 1 rfl) ?_
          refine fget E hP 0 rfl fd_X7_29 (v := .ref a_o_knows) rfl dX7_know_46 ?_
          refine lv_iload_n hx hb dX7_know_49 rfl (lv_at hl 2 rfl) ?_
          refine lv_is fa_c_1 ?_
          refine ild E hP 1 rfl (k := x1.toNatClampNeg) (by omega) (by decide) dX7_know_50 ?_
          refine lv_iconst (v := (1 : Int32)) hx hb dX7_know_51 (by decide) ?_
          refine lv_iload_n hx hb dX7_know_52 rfl (lv_at hl 3 rfl) ?_
          refine lv_is fa_c_2 ?_
          refine lv_ishl hx hb dX7_know_53 ?_
          refine lv_ior hx hb dX7_know_54 ?_
          refine lv_goto (tgt := 70) hx hb dX7_know_55 (by decide) ?_
          refine ist E hP hD hS 1 rfl (k := x1.toNatClampNeg) (by omega) (by decide) dX7_know_70 (fun H locs hP hD hS => ?_)
          have hP : va_P D vwCl [(a_o, .inr (7, (.int o_year :: .int (nI o_bridges) :: .ref a_o_forgets :: .int (nI o_men) :: .ref a_o_weight :: .ref a_o_comes :: .int (nI o_oxen) :: .ref a_o_oxWeight :: .ref a_o_oxPrice :: .ref a_o_knows :: .int o_alive :: .int o_day :: .ref a_o_over :: .ref a_o_named :: .ref a_o_lieDay :: .ref a_o_aloneYear :: .int o_seed :: .ref a_o_text :: .int (nI o_texted) :: .int o_faultPlace :: .int (nI o_at0) :: .long o_said :: .int (nI o_wordEnd) :: .int o_number :: .int (nI o_numberAt) :: .int o_readYear :: .int o_readClauses :: .int (nI o_readBridges) :: .ref a_o_readForgets :: .int (nI o_readMen) :: .ref a_o_readWeight :: .ref a_o_readComes :: .int o_readMany :: .ref a_o_readKnows :: .int (nI o_readOxen) :: .ref a_o_readOx :: .ref a_o_readPrice :: .ref a_o_order :: .ref a_o_orderNames :: .int (nI o_sights) :: .ref a_o_seenWho :: .ref a_o_seenNamed :: .ref a_o_seenLetGo :: .ref a_o_placeIn :: .ref a_o_behind :: .int (nI o_rowMany) :: .ref a_o_rowWho :: .ref a_o_rowNames :: .ref a_o_images :: .ref a_o_isKept :: []))), (a_o_knows, .inl (tI, 6, .inl (upd o_knows x1.toNatClampNeg ((o_knows x1.toNatClampNeg) ||| ((1 : Int32) <<< ((nI x2.toNatClampNeg) &&& 31))))))] H := hP
          have hD : va_D A [(a_o, .inr (7, (.int o_year :: .int (nI o_bridges) :: .ref a_o_forgets :: .int (nI o_men) :: .ref a_o_weight :: .ref a_o_comes :: .int (nI o_oxen) :: .ref a_o_oxWeight :: .ref a_o_oxPrice :: .ref a_o_knows :: .int o_alive :: .int o_day :: .ref a_o_over :: .ref a_o_named :: .ref a_o_lieDay :: .ref a_o_aloneYear :: .int o_seed :: .ref a_o_text :: .int (nI o_texted) :: .int o_faultPlace :: .int (nI o_at0) :: .long o_said :: .int (nI o_wordEnd) :: .int o_number :: .int (nI o_numberAt) :: .int o_readYear :: .int o_readClauses :: .int (nI o_readBridges) :: .ref a_o_readForgets :: .int (nI o_readMen) :: .ref a_o_readWeight :: .ref a_o_readComes :: .int o_readMany :: .ref a_o_readKnows :: .int (nI o_readOxen) :: .ref a_o_readOx :: .ref a_o_readPrice :: .ref a_o_order :: .ref a_o_orderNames :: .int (nI o_sights) :: .ref a_o_seenWho :: .ref a_o_seenNamed :: .ref a_o_seenLetGo :: .ref a_o_placeIn :: .ref a_o_behind :: .int (nI o_rowMany) :: .ref a_o_rowWho :: .ref a_o_rowNames :: .ref a_o_images :: .ref a_o_isKept :: []))), (a_o_knows, .inl (tI, 6, .inl (upd o_knows x1.toNatClampNeg ((o_knows x1.toNatClampNeg) ||| ((1 : Int32) <<< ((nI x2.toNatClampNeg) &&& 31))))))] := hD
          refine lv_iload hx hb dX7_know_71 (lv_at hl 0 rfl) ?_
          subst hR
          exact (hF _ _ _ _ hP hS).1 _ rfl ⟨.int, rfl, rfl⟩ dX7_know_73
      · rw [if_pos c_3] at hR
        refine lv_ldc hx hb hown (hts _ wk_X7_244) dX7_know_21 ?_
        subst hR
        exact (hF _ _ _ _ hP hS).1 _ rfl ⟨.int, rfl, rfl⟩ dX7_know_23
