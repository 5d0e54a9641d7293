/-! words of the tables that every state keeps; what a method of the class and of the reference is, as a contract -/
def tb : List Cond := lw_tbl.filter goodWord
theorem tb_in {i : Nat} {w : Cond} (h : lw_tbl[i]? = some w) (g : goodWord w = true) : w ∈ tb := List.mem_filter.mpr ⟨List.mem_of_getElem? h, g⟩
theorem tb_all {ws : List Cond} (is : List Nat) (h : ws = is.filterMap (fun i => lw_tbl[i]?)) (g : ws.all goodWord = true) : ∀ w ∈ ws, w ∈ tb := by
  intro w hw
  refine List.mem_filter.mpr ⟨?_, List.all_eq_true.mp g w hw⟩
  rw [h] at hw
  obtain ⟨i, -, hi⟩ := List.mem_filterMap.mp hw
  exact List.mem_of_getElem? hi
theorem tb_good {b : Cond} (hb : b ∈ tb) : GoodIn tb (b :: tb) := fun w h => by
  rcases List.mem_cons.mp h with rfl | h
  · exact ⟨hb, good_of_word (List.mem_filter.mp hb).2⟩
  · exact ⟨h, good_of_word (List.mem_filter.mp h).2⟩
def nestL : List (String × Nat × MethodName × String) := [(RX6, 21, yX3_init, "HeavierToCome"), (RX6, 52, yX4_init, "HeavierToCome"), (RX6, 59, yX2_init, "HeavierToCome"), (RX3, 143, yX6_has, "HeavierToCome"), (RX3, 147, yX6_bit, "HeavierToCome"), (RX1, 60, yX6_bit, "HeavierToCome"), (RX0, 59, yX6_slot, "HeavierToCome"), (RX0, 73, yX6_bit, "HeavierToCome"), (RX0, 95, yX6_has, "HeavierToCome"), (RX5, 53, yX6_has, "HeavierToCome"), (RX5, 60, yX6_bit, "HeavierToCome"), (RX1, 64, yX6_has, "HeavierToCome"), (RX4, 22, yX6_bit, "HeavierToCome"), (RX2, 22, yX6_bit, "HeavierToCome"), (RX2, 47, yX6_has, "HeavierToCome")]
/-- what the classes are like, in every state -/
def KK (D : va_G) (tys : List (ClassId × FieldType)) (U : State) : Prop := va_K D vwCl tys U ∧ ∀ q ∈ nestL, va_Nw (.methodLinkNest q.1 q.2.1 q.2.2.1 q.2.2.2) U
theorem KK.warm {D : va_G} {tys : List (ClassId × FieldType)} {s U : State} (hW : s.WarmedH U.vm) (h : KK D tys s) : KK D tys U := ⟨va_K.moved hW.alike h.1, fun q hq => va_Nw.warmM hW (h.2 q hq)⟩
theorem KK.same {D : va_G} {tys : List (ClassId × FieldType)} {s U : State} (hv : s.vm = U.vm) (h : KK D tys s) : KK D tys U := ⟨va_K.moved (by rw [hv]; exact Vm.Alike.refl _) h.1, fun q hq => va_Nw.same rfl hv (h.2 q hq)⟩
/-- the arrays' classes: bytes, ints, booleans -/
abbrev tyL (B I Z : ClassId) : List (ClassId × FieldType) := [(B, .byte), (I, .int), (Z, .boolean)]
def CP (av : List Value) (D : va_G) (tys : List (ClassId × FieldType)) (ws : va_W) (sz : Nat) : Array Value → State → Prop := va_Pc av (fun U => U.heap.size = sz ∧ va_P D vwCl ws U.heap ∧ KK D tys U ∧ va_D (fun _ => True) ws)
def CQ (D : va_G) (ws ws' : va_W) (sz : Nat) (r : Option Value) : Array Value → State → Outcome → State → Prop := fun _ st oc t => (oc = .returned r ∧ va_P D vwCl ws' t.heap) ∧ va_F (va_A ws sz) st t
/-- a method that makes nothing: from the arguments av and the cells ws it comes to the answer rf u and the cells wf u -/
def CT {τ : Type} (l : Launch) (D : va_G) (tys : List (ClassId × FieldType)) (y : MethodName) (cw : Cond) (fr lo : Nat) (av : List Value) (ws : va_W) (rf : τ → Option Value) (wf : τ → va_W) (u : τ) : Prop :=
  ∀ sz : Nat, Met l y (cw :: tb) { frames := fr, cells := 0, slots := 0, locals := lo } (CP av D tys ws sz) (CQ D ws (wf u) sz (rf u)) 0 0 (va_A ws sz)
theorem CP.blind {av : List Value} {D : va_G} {tys : List (ClassId × FieldType)} {ws : va_W} {sz : Nat} : FrameBlind (CP av D tys ws sz) := fun a U g mk q => by
  obtain ⟨q0, q1, q2, q3, q4⟩ := q
  exact ⟨q0, q1, q2, KK.same rfl q3, q4⟩
/-- what a walk stands on -/
def EE (p : Program) (m : MethodId) (c : Code) (cc : ByteArray) (nL : Nat) (s : State) (args : Array Value) (own : String) (D : va_G) (tys : List (ClassId × FieldType)) : Prop := CallFix p m c cc nL s args tb own ∧ KK D tys s
def jset : va_W → List Nat → va_W → va_W
  | ws, i :: is, q :: w => jset (ws.set i q) is w
  | ws, _, _ => ws
theorem jset_get : ∀ (is : List Nat) (w ws : va_W), is.length = w.length → ∀ (k : Nat) (q : Nat × va_E), (jset ws is w)[k]? = some q → (∃ j : Nat, w[j]? = some q) ∨ (ws[k]? = some q ∧ k ∉ is)
  | [], w, ws, _, k, q, h => by
    cases w <;> exact Or.inr ⟨h, List.not_mem_nil⟩
  | i :: is, [], ws, hl, k, q, h => by cases hl
  | i :: is, q0 :: w, ws, hl, k, q, h => by
    rcases jset_get is w (ws.set i q0) (by simpa using hl) k q h with ⟨j, hj⟩ | ⟨h1, h2⟩
    · exact Or.inl ⟨j + 1, hj⟩
    · by_cases hk : k = i
      · subst hk
        rw [List.getElem?_set] at h1
        rw [if_pos rfl] at h1
        by_cases hlt : k < ws.length
        · rw [if_pos hlt] at h1
          exact Or.inl ⟨0, h1⟩
        · rw [if_neg hlt] at h1
          cases h1
      · rw [List.getElem?_set, if_neg (fun e => hk e.symm)] at h1
        exact Or.inr ⟨h1, fun hm => by
          rcases List.mem_cons.mp hm with e | hm
          · exact hk e
          · exact h2 hm⟩
theorem va_D.adr {A : Nat → Prop} {ws ws' : va_W} (h : va_D A ws) (e : ws'.map Prod.fst = ws.map Prod.fst) : va_D A ws' := by
  have key : ∀ (k : Nat) (q : Nat × va_E), ws'[k]? = some q → ∃ q0, ws[k]? = some q0 ∧ q0.1 = q.1 := by
    intro k q hk
    have h1 : (ws'.map Prod.fst)[k]? = some q.1 := by rw [List.getElem?_map, hk]; rfl
    rw [e, List.getElem?_map] at h1
    cases hq : ws[k]? with
    | none => rw [hq] at h1; cases h1
    | some q0 => rw [hq] at h1; exact ⟨q0, rfl, Option.some.inj h1⟩
  refine ⟨fun i j a b ha hb hab => ?_, fun k q hk => ?_⟩
  · obtain ⟨a0, h1, h2⟩ := key i a ha
    obtain ⟨b0, h3, h4⟩ := key j b hb
    exact h.1 i j a0 b0 h1 h3 (by rw [h2, h4]; exact hab)
  · obtain ⟨q0, h1, h2⟩ := key k q hk
    rw [← h2]
    exact h.2 k q0 h1
def CalV (y : MethodName) (bytes : ByteArray) (maxL : Nat) (ret : Option FieldType) (n : Nat) : Prop :=
  Cond.code y bytes maxL ret ∈ tb ∧ Cond.initialized y.cls ∈ tb ∧ Cond.instanceMethod y ∈ tb ∧ Cond.selects y.cls y y ∈ tb ∧ (y.cls ≠ "java/lang/invoke/MethodHandle" ∧ y.cls ≠ "java/lang/invoke/VarHandle" ∧ (parseMethodDescriptor y.desc).map (fun d => d.parameters.length) = some n)
def CalI (y : MethodName) (bytes : ByteArray) (maxL : Nat) (n : Nat) : Prop :=
  Cond.code y bytes maxL none ∈ tb ∧ Cond.initialized y.cls ∈ tb ∧ Cond.instanceMethod y ∈ tb ∧ y.name = "<init>" ∧ (y.cls ≠ "java/lang/invoke/MethodHandle" ∧ y.cls ≠ "java/lang/invoke/VarHandle" ∧ (parseMethodDescriptor y.desc).map (fun d => d.parameters.length) = some n)
def CalS (y : MethodName) (bytes : ByteArray) (maxL : Nat) (ret : Option FieldType) (n : Nat) : Prop :=
  Cond.code y bytes maxL ret ∈ tb ∧ Cond.initialized y.cls ∈ tb ∧ Cond.static y ∈ tb ∧ (y.cls ≠ "java/lang/invoke/MethodHandle" ∧ y.cls ≠ "java/lang/invoke/VarHandle" ∧ (parseMethodDescriptor y.desc).map (fun d => d.parameters.length) = some n)
def FldOK (own : String) (index ci k : Nat) : Prop := ∃ (C : String) (T : u_T) (N : Nat), vwCl[ci]? = some (C, T, N) ∧ k < N ∧ (∀ w ∈ u_ws C T N, w ∈ tb) ∧ Cond.fieldLink own index (T k).1 (T k).2.1 (T k).2.2.1 ∈ tb ∧ True = True
def PutOK (ci : Nat) : Prop := ∃ (C : String) (T : u_T) (N : Nat) (ty0 : Nat → FieldType), vwCl[ci]? = some (C, T, N) ∧ (∀ w ∈ u_ws C T N, w ∈ tb) ∧ (∀ k, k < N → parseFieldDescriptor (T k).2.2.1 = some (ty0 k)) ∧ (∀ a, a < N → ∀ b, b < N → a ≠ b → (T a).2.1 ≠ (T b).2.1)
def fdTy (ci k : Nat) : Option FieldType := (vwCl[ci]?).bind (fun q => parseFieldDescriptor (q.2.1 k).2.2.1)
def fdFin (ci k : Nat) : Option Bool := (vwCl[ci]?).map (fun q => (q.2.1 k).2.2.2)
def fdOwn (ci k : Nat) : Option String := (vwCl[ci]?).map (fun q => (q.2.1 k).1)
section SUP
variable {p : Program} {l : Launch} {e : Env} {R : Room} {s : State} {m : MethodId} {args : Array Value} {below : List Frame} {meth : Method} {c : Code} {H H0 : Heap} {locs : List Loc} {cells slots : Nat} {Q : State → Prop} {cc : ByteArray} {pc nL : Nat} {ls : Array Slot} {rest st0 : List Value} {D : va_G} {tys : List (ClassId × FieldType)} {ws : va_W} {A : Nat → Prop} {own : String} {a : Nat}
theorem lv_is {x y : Int32} (h : x = y) (k : W p l e R s m args below meth c H locs cells slots Q (F0 m pc ls (.int y :: rest))) : W p l e R s m args below meth c H locs cells slots Q (F0 m pc ls (.int x :: rest)) := h ▸ k
theorem lv_isL {x y : Int64} (h : x = y) (k : W p l e R s m args below meth c H locs cells slots Q (F0 m pc ls (.long y :: rest))) : W p l e R s m args below meth c H locs cells slots Q (F0 m pc ls (.long x :: rest)) := h ▸ k
theorem fget (E : EE p m c cc nL s args own D tys) (hP : va_P D vwCl ws H) (q0 : Nat) {index ci k : Nat} {fs : List Value} (he : ws[q0]? = some (a, .inr (ci, fs))) (hF : FldOK own index ci k) {v : Value} (hv : fs[k]? = some v) (hdg : decode cc pc = .ok (.getfield index, 3))
    (kk : W p l e R s m args below meth c H locs cells slots Q (F0 m (pc + 3) ls (v :: rest))) : W p l e R s m args below meth c H locs cells slots Q (F0 m pc ls (.ref a :: rest)) := by
  obtain ⟨⟨hx, hb, hml, hown, hts⟩, hK⟩ := E
  obtain ⟨C, T, N, h1, h2, h3, h4, -⟩ := hF
  exact va_get hx hb hts h3 hown hK.1 hP q0 he h1 k h2 (hts _ h4) (fun _ h => h) hv hdg kk
theorem fput (E : EE p m c cc nL s args own D tys) (hP : va_P D vwCl ws H) (hD : va_D A ws) (hS : va_S A H0 H locs) (q0 : Nat) {index ci k : Nat} {fs : List Value} (he : ws[q0]? = some (a, .inr (ci, fs))) (hF : FldOK own index ci k) (hT : PutOK ci) {ty : FieldType} {v : Value} (hfin : fdFin ci k = some false) (hd : fdTy ci k = some ty) (hn : narrow ty v = v) (hfit : fits ty v = true) (hl : k < fs.length) (hdg : decode cc pc = .ok (.putfield index, 3))
    (kk : ∀ (H1 : Heap) (locs1 : List Loc), va_P D vwCl (ws.set q0 (a, .inr (ci, fs.set k v))) H1 → va_D A (ws.set q0 (a, .inr (ci, fs.set k v))) → va_S A H0 H1 locs1 → W p l e R s m args below meth c H1 locs1 cells slots Q (F0 m (pc + 3) ls rest)) : W p l e R s m args below meth c H locs cells slots Q (F0 m pc ls (v :: .ref a :: rest)) := by
  obtain ⟨⟨hx, hb, hml, hown, hts⟩, hK⟩ := E
  obtain ⟨C, T, N, h1, h2, h3, h4, -⟩ := hF
  obtain ⟨C', T', N', ty0, g1, -, g3, g4⟩ := hT
  have e : (C', T', N') = (C, T, N) := Option.some.inj (g1.symm.trans h1)
  cases e
  have f1 : (T k).2.2.2 = false := by rw [fdFin, h1] at hfin; exact Option.some.inj hfin
  have f2 : parseFieldDescriptor (T k).2.2.1 = some ty := by rw [fdTy, h1] at hd; exact hd
  exact va_put hx hb hts h3 ty0 g3 g4 hown hK.1 hP hD hS q0 he h1 k h2 (hts _ h4) (fun _ h => h) f1 f2 hn hfit hl hdg kk
theorem fputF (E : EE p m c cc nL s args own D tys) (hP : va_P D vwCl ws H) (hD : va_D A ws) (hS : va_S A H0 H locs) (q0 : Nat) {index ci k : Nat} {fs : List Value} (he : ws[q0]? = some (a, .inr (ci, fs))) (hF : FldOK own index ci k) (hT : PutOK ci) {ty : FieldType} {v : Value} (hfin : fdFin ci k = some true) (hin : meth.name = "<init>") (ho : fdOwn ci k = some own) (hd : fdTy ci k = some ty) (hn : narrow ty v = v) (hfit : fits ty v = true) (hl : k < fs.length) (hdg : decode cc pc = .ok (.putfield index, 3))
    (kk : ∀ (H1 : Heap) (locs1 : List Loc), va_P D vwCl (ws.set q0 (a, .inr (ci, fs.set k v))) H1 → va_D A (ws.set q0 (a, .inr (ci, fs.set k v))) → va_S A H0 H1 locs1 → W p l e R s m args below meth c H1 locs1 cells slots Q (F0 m (pc + 3) ls rest)) : W p l e R s m args below meth c H locs cells slots Q (F0 m pc ls (v :: .ref a :: rest)) := by
  obtain ⟨⟨hx, hb, hml, hown, hts⟩, hK⟩ := E
  obtain ⟨C, T, N, h1, h2, h3, h4, -⟩ := hF
  obtain ⟨C', T', N', ty0, g1, -, g3, g4⟩ := hT
  have e : (C', T', N') = (C, T, N) := Option.some.inj (g1.symm.trans h1)
  cases e
  have f1 : (T k).2.2.2 = true := by rw [fdFin, h1] at hfin; exact Option.some.inj hfin
  have f2 : parseFieldDescriptor (T k).2.2.1 = some ty := by rw [fdTy, h1] at hd; exact hd
  have f3 : (T k).1 = own := by rw [fdOwn, h1] at ho; exact Option.some.inj ho
  exact va_putF hx hb hts h3 ty0 g3 g4 hown hK.1 hP hD hS q0 he h1 k h2 (hts _ h4) (fun _ h => h) f1 hin f3 f2 hn hfit hl hdg kk
/-- behind a call: the caller's cells with the callee's put in their places -/
theorem ct_go {wc wn ws2 : va_W} {r : Option Value} {av : Array Value} (hr : va_Run p l e R s m args below meth c H locs cells slots 0 0 (F0 m pc ls st0) rest (CQ D wc wn H.size r av) (va_A wc H.size)) (hP : va_P D vwCl ws H) (hD : va_D A ws) (hS : va_S A H0 H locs) (hA : ∀ q, H0.size ≤ q → A q) (isC : List Nat) (hC : isC.map (fun i => ws[i]?) = wc.map some) (hlen : isC.length = wn.length) (hset : jset ws isC wn = ws2) (hadr : ws2.map Prod.fst = ws.map Prod.fst)
    (kk : ∀ (H1 : Heap) (locs1 : List Loc), va_P D vwCl ws2 H1 → va_D A ws2 → va_S A H0 H1 locs1 → W p l e R s m args below meth c H1 locs1 cells slots Q (F0 m (pc + 3) ls (r.toList ++ rest))) : W p l e R s m args below meth c H locs cells slots Q (F0 m pc ls st0) := by
  have hf : ∀ q, va_A wc H.size q → A q := va_free hD hS hA isC hC
  intro T hT X
  obtain ⟨v, st₀, t, T', L, h0, X', hL, e1, e2, ⟨⟨hv, hp⟩, hz, hk⟩, st⟩ := hr T hT X
  cases hv
  rw [h0] at hz hk
  have hS' : va_S A H0 T'.heap (locs ++ L) := ⟨Nat.le_trans hS.1 (by rw [e1]; exact hz), fun q h1 h2 => by rw [e1, hk q (Nat.lt_of_lt_of_le h1 hS.1) (fun z => h2 (hf q z))]; exact hS.2.1 q h1 h2, fun q hq => by
    rcases List.mem_append.mp hq with h | h
    · exact hS.2.2 q h
    · exact hf _ (hL q h)⟩
  have hP' : va_P D vwCl ws2 T'.heap := by
    intro k q hq
    rw [← hset] at hq
    rw [e1]
    rcases jset_get isC wn ws hlen k q hq with ⟨j, hj⟩ | ⟨h1, h2⟩
    · exact hp j q hj
    · refine (hP k q h1).kept (hk q.1 (hP k q h1).lt (fun z => ?_))
      rcases z with ⟨k2, e2, z⟩ | z
      · have h3 : (isC.map (fun i => ws[i]?))[k2]? = some (some (q.1, e2)) := by rw [hC, List.getElem?_map, z]; rfl
        rw [List.getElem?_map] at h3
        cases hi : isC[k2]? with
        | none => rw [hi] at h3; cases h3
        | some i =>
          rw [hi] at h3
          have h4 := hD.1 i k (q.1, e2) q (Option.some.inj h3) h1 rfl
          subst h4
          exact h2 (List.mem_of_getElem? hi)
      · have := (hP k q h1).lt
        omega
  obtain ⟨t2, a1, b1⟩ := kk T'.heap (locs ++ L) hP' (hD.adr hadr) hS' T' rfl X'
  exact ⟨t2, st t2 a1, b1⟩
section CALLS
variable {τ : Type} {y : MethodName} {bytes : ByteArray} {maxL index n fr lo q0 ci b : Nat} {ret : Option FieldType} {As : List Value} {wc ws2 : va_W} {rf : τ → Option Value} {wf : τ → va_W} {u : τ}
theorem ct_pre (E : EE p m c cc nL s args own D tys) {av : List Value} (hP : va_P D vwCl ws H) (hD : va_D A ws) (isC : List Nat) (hC : isC.map (fun i => ws[i]?) = wc.map some) (hn : va_nd isC = true) : va_P D vwCl wc H ∧ ∀ U : State, U.heap = H → s.WarmedH U.vm → CP av D tys wc H.size av.toArray U := by
  have hPc : va_P D vwCl wc H := by
    intro k q hk
    have h1 : (isC.map (fun i => ws[i]?))[k]? = some (some q) := by rw [hC, List.getElem?_map, hk]; rfl
    rw [List.getElem?_map] at h1
    cases hi : isC[k]? with
    | none => rw [hi] at h1; cases h1
    | some i => rw [hi] at h1; exact hP i q (Option.some.inj h1)
  have hDc : va_D A wc := hD.sub isC hn hC
  exact ⟨hPc, fun U hU hW => ⟨rfl, by rw [hU], by rw [hU]; exact hPc, KK.warm hW E.2, hDc.weaken (fun _ _ _ _ => trivial)⟩⟩
theorem kcV (E : EE p m c cc nL s args own D tys) (hls : ls.size = nL) (hC : CT l D tys y (.code y bytes maxL ret) fr lo (.ref b :: As) wc rf wf u) (hy : CalV y bytes maxL ret n) (hlk : Cond.methodLink own index y ∈ tb)
    (hP : va_P D vwCl ws H) (hD : va_D A ws) (hS : va_S A H0 H locs) (hA : ∀ q, H0.size ≤ q → A q) (isC : List Nat) (hCw : isC.map (fun i => ws[i]?) = wc.map some) (hnd : va_nd isC = true) (hlen : isC.length = (wf u).length) (hset : jset ws isC (wf u) = ws2) (hadr : ws2.map Prod.fst = ws.map Prod.fst)
    (q0 ci : Nat) {fs : List Value} (hq : wc[q0]? = some (b, .inr (ci, fs))) (hci : (vwCl[ci]?).map (·.1) = some y.cls) (hn : As.length = n) (hst : st0 = As.reverse ++ .ref b :: rest) (hroom : (rest.map fun v => v.category).sum ≤ 8) (hR : fr + 1 ≤ R.frames ∧ 8 + (maxL + 11) + lo ≤ R.locals) (hcs : cells ≤ R.cells ∧ slots ≤ R.slots) (hdg : decode cc pc = .ok (.invokevirtual index, 3))
    (kk : ∀ (H1 : Heap) (locs1 : List Loc), va_P D vwCl ws2 H1 → va_D A ws2 → va_S A H0 H1 locs1 → W p l e R s m args below meth c H1 locs1 cells slots Q (F0 m (pc + 3) ls ((rf u).toList ++ rest))) : W p l e R s m args below meth c H locs cells slots Q (F0 m pc ls st0) := by
  obtain ⟨h1, h2, h3, h4, h5⟩ := hy
  obtain ⟨hPc, hpre⟩ := ct_pre (wc := wc) (av := .ref b :: As) E hP hD isC hCw hnd
  have hts := E.1.2.2.2.2
  refine ct_go (wc := wc) (va_runV (As := As) (rest := rest) (b := b) (C := y.cls) (n := n) E.1 (hC H.size) ⟨callB_of n hts (tb_good h1) rfl rfl rfl (hts _ h2) (hts _ hlk) h5 hR, hts _ h3, hts _ h4⟩ ⟨CP.blind, ?_, hpre⟩ rfl hn hls hst (lv_room hroom) hdg hcs) hP hD hS hA isC hCw hlen hset hadr kk
  cases hc : vwCl[ci]? with
  | none => rw [hc] at hci; cases hci
  | some q =>
    rw [hc] at hci
    have := va_recv E.2.1 hPc hc hq
    rw [← Option.some.inj hci]
    exact this
theorem kcS (E : EE p m c cc nL s args own D tys) (hls : ls.size = nL) (hC : CT l D tys y (.code y bytes maxL ret) fr lo As wc rf wf u) (hy : CalS y bytes maxL ret n) (hlk : Cond.methodLink own index y ∈ tb)
    (hP : va_P D vwCl ws H) (hD : va_D A ws) (hS : va_S A H0 H locs) (hA : ∀ q, H0.size ≤ q → A q) (isC : List Nat) (hCw : isC.map (fun i => ws[i]?) = wc.map some) (hnd : va_nd isC = true) (hlen : isC.length = (wf u).length) (hset : jset ws isC (wf u) = ws2) (hadr : ws2.map Prod.fst = ws.map Prod.fst)
    (hn : As.length = n) (hst : st0 = As.reverse ++ rest) (hroom : (rest.map fun v => v.category).sum ≤ 8) (hR : fr + 1 ≤ R.frames ∧ 8 + (maxL + 11) + lo ≤ R.locals) (hcs : cells ≤ R.cells ∧ slots ≤ R.slots) (hdg : decode cc pc = .ok (.invokestatic index, 3))
    (kk : ∀ (H1 : Heap) (locs1 : List Loc), va_P D vwCl ws2 H1 → va_D A ws2 → va_S A H0 H1 locs1 → W p l e R s m args below meth c H1 locs1 cells slots Q (F0 m (pc + 3) ls ((rf u).toList ++ rest))) : W p l e R s m args below meth c H locs cells slots Q (F0 m pc ls st0) := by
  obtain ⟨h1, h2, h3, h5⟩ := hy
  obtain ⟨hPc, hpre⟩ := ct_pre (wc := wc) (av := As) E hP hD isC hCw hnd
  have hts := E.1.2.2.2.2
  exact ct_go (wc := wc) (va_runS (As := As) (rest := rest) (n := n) E.1 (hC H.size) ⟨callB_of n hts (tb_good h1) rfl rfl rfl (hts _ h2) (hts _ hlk) h5 hR, hts _ h3⟩ ⟨CP.blind, hpre⟩ rfl hn hls hst (lv_room hroom) hdg hcs) hP hD hS hA isC hCw hlen hset hadr kk
/-- a private static method of a nest mate -/
theorem kcSN (E : EE p m c cc nL s args own D tys) (hls : ls.size = nL) (hC : CT l D tys y (.code y bytes maxL ret) fr lo As wc rf wf u) (hy : CalS y bytes maxL ret n) (ni : Nat) {host : String} (hlk : nestL[ni]? = some (own, index, y, host))
    (hP : va_P D vwCl ws H) (hD : va_D A ws) (hS : va_S A H0 H locs) (hA : ∀ q, H0.size ≤ q → A q) (isC : List Nat) (hCw : isC.map (fun i => ws[i]?) = wc.map some) (hnd : va_nd isC = true) (hlen : isC.length = (wf u).length) (hset : jset ws isC (wf u) = ws2) (hadr : ws2.map Prod.fst = ws.map Prod.fst)
    (hn : As.length = n) (hst : st0 = As.reverse ++ rest) (hroom : (rest.map fun v => v.category).sum ≤ 8) (hR : fr + 1 ≤ R.frames ∧ 8 + (maxL + 11) + lo ≤ R.locals) (hcs : cells ≤ R.cells ∧ slots ≤ R.slots) (hdg : decode cc pc = .ok (.invokestatic index, 3))
    (kk : ∀ (H1 : Heap) (locs1 : List Loc), va_P D vwCl ws2 H1 → va_D A ws2 → va_S A H0 H1 locs1 → W p l e R s m args below meth c H1 locs1 cells slots Q (F0 m (pc + 3) ls ((rf u).toList ++ rest))) : W p l e R s m args below meth c H locs cells slots Q (F0 m pc ls st0) := by
  obtain ⟨h1, h2, h3, h5⟩ := hy
  obtain ⟨hPc, hpre⟩ := ct_pre (wc := wc) (av := As) E hP hD isC hCw hnd
  have hts := E.1.2.2.2.2
  have hnw := E.2.2 _ (List.mem_of_getElem? hlk)
  exact ct_go (wc := wc) (va_runSN (As := As) (rest := rest) (n := n) E.1 (hC H.size) ⟨va_cnB n hts (tb_good h1) rfl rfl rfl hnw (hts _ h2) h5 hR, hts _ h3, trivial⟩ ⟨CP.blind, hpre⟩ rfl hn hls hst (lv_room hroom) hdg hcs) hP hD hS hA isC hCw hlen hset hadr kk
/-- a method's own end -/
def Fin (p : Program) (l : Launch) (e : Env) (R : Room) (s : State) (m : MethodId) (args : Array Value) (below : List Frame) (meth : Method) (c : Code) (cc : ByteArray) (D : va_G) (A : Nat → Prop) (ret : Option FieldType) (r : Option Value) (ws' : va_W) (Q : State → Prop) : Prop :=
  ∀ (H : Heap) (locs : List Loc) (pc : Nat) (ls : Array Slot), va_P D vwCl ws' H → va_S A s.heap H locs →
    (∀ v : Int32, r = some (.int v) → (∃ ty, ret = some ty ∧ narrow ty (.int v) = .int v) → decode cc pc = .ok (.ireturn, 1) → W p l e R s m args below meth c H locs 0 0 Q (F0 m pc ls [.int v])) ∧
    (∀ v : Int64, r = some (.long v) → ret = some .long → decode cc pc = .ok (.lreturn, 1) → W p l e R s m args below meth c H locs 0 0 Q (F0 m pc ls [.long v])) ∧
    (∀ v : Nat, r = some (.ref v) → (∃ C, ret = some (.object C)) → decode cc pc = .ok (.areturn, 1) → W p l e R s m args below meth c H locs 0 0 Q (F0 m pc ls [.ref v])) ∧
    (r = none → ret = none → decode cc pc = .ok (.return_, 1) → W p l e R s m args below meth c H locs 0 0 Q (F0 m pc ls []))
theorem CT.intro {av : List Value} {k : Nat} (hk : (lg_sl av).length ≤ maxL) (hp : plainName y.cls = true)
    (body : ∀ (p : Program) (e : Env) (s : State) (m : MethodId) (below : List Frame) (meth : Method) (c : Code) (Q : State → Prop) (A : Nat → Prop) (ls : Array Slot), EE p m c bytes maxL s av.toArray y.cls D tys → (∀ q, s.heap.size ≤ q → A q) → va_P D vwCl ws s.heap → va_D A ws → va_S A s.heap s.heap [] → lv_has ls maxL (lv_args 0 av) →
      Fin p l e { frames := fr, cells := 0, slots := 0, locals := lo } s m av.toArray below meth c bytes D A ret (rf u) (wf u) Q →
      W p l e { frames := fr, cells := 0, slots := 0, locals := lo } s m av.toArray below meth c s.heap [] 0 0 Q (F0 m 0 ls [])) : CT l D tys y (.code y bytes maxL ret) fr lo av ws rf wf u := by
  intro sz
  refine Met.ofW (cc := bytes) (maxL := maxL) (ret := ret) hp rfl ?_
  intro p e s m args below meth c s₁ B hml hv
  obtain ⟨rfl, rfl, hP, hK, hD0⟩ := hv
  have hx := B.exec
  have hb := B.bytes
  have hr := B.returns
  have hts := atoms_spec (ws := Cond.code y bytes maxL ret :: tb) B.pre
  have hown : s.vm.findClass y.cls = some m.cls := findClass_of_methodNamed B.named
  have hlocks := B.notSynchronized
  rw [lg_entry_eq]
  refine body p e s m below meth c _ (va_A ws s.heap.size) _ ⟨⟨hx, hb, hml, hown, fun w hw => hts w (List.mem_cons_of_mem _ hw)⟩, hK⟩ (fun q h => Or.inr h) hP hD0.self va_S.rf (lv_entry av hk) ?_
  intro H locs pc ls hP' hS'
  refine ⟨fun v hv ⟨ty, ht, hn⟩ hd => ?_, fun v hv ht hd => ?_, fun v hv ⟨C, ht⟩ hd => ?_, fun hv ht hd => ?_⟩
  · exact W.zret (ty := ty) hx hb (hr.trans ht) hn (fun t ht hW => ⟨⟨by rw [hv], by rw [ht]; exact hP'⟩, hS'.F ht⟩) hS'.2.2 hd hlocks
  · exact W.lret hx hb (hr.trans ht) (fun t ht hW => ⟨⟨by rw [hv], by rw [ht]; exact hP'⟩, hS'.F ht⟩) hS'.2.2 hd hlocks
  · exact W.aret hx hb (hr.trans ht) (Or.inl ⟨C, rfl⟩) (Or.inr ⟨v, rfl⟩) (fun t ht hW => ⟨⟨by rw [hv], by rw [ht]; exact hP'⟩, hS'.F ht⟩) hS'.2.2 hd hlocks
  · exact W.vret hx hb (hr.trans ht) (fun t ht hW => ⟨⟨by rw [hv], by rw [ht]; exact hP'⟩, hS'.F ht⟩) hS'.2.2 hd hlocks
end CALLS
end SUP
