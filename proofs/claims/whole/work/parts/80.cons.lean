/-! constructors: what they make -/
theorem wi_obj : Cond.instanceMethod Lib.objectInit ∈ tb := tb_in (i := 85) (by decide +kernel) rfl
theorem wc_obj : Cond.code Lib.objectInit ⟨#[0xb1]⟩ 1 none ∈ tb := tb_in (i := 86) (by decide +kernel) rfl
/-- a method that makes cells: from the arguments av and the cells ws it comes to the cells wf u, the new ones at addresses u -/
def CN (l : Launch) (D : va_G) (tys : List (ClassId × FieldType)) (y : MethodName) (cw : Cond) (fr cl sl lo : Nat) (av : List Value) (ws : va_W) (wf : (Nat → Nat) → va_W) : Prop :=
  ∀ sz : Nat, Met l y (cw :: tb) { frames := fr, cells := cl, slots := sl, locals := lo } (CP av D tys ws sz) (va_Qv (fun _ : Nat → Nat => True) (fun u t => va_P D vwCl (wf u) t.heap ∧ va_D (va_A ws sz) (wf u)) (va_A ws sz)) cl sl (va_A ws sz)
section CONS
variable {p : Program} {l : Launch} {e : Env} {R : Room} {s : State} {m : MethodId} {args : Array Value} {below : List Frame} {meth : Method} {c : Code} {H H0 : Heap} {locs : List Loc} {cells slots : Nat} {Q : State → Prop} {cc : ByteArray} {pc nL : Nat} {ls : Array Slot} {rest st0 : List Value} {D : va_G} {tys : List (ClassId × FieldType)} {ws : va_W} {A : Nat → Prop} {own : String} {a : Nat}
theorem fobj (E : EE p m c cc nL s args own D tys) (hls : ls.size = nL) {idx : Nat} (hlk : Cond.methodLink own idx Lib.objectInit ∈ tb) (hR : 1 ≤ R.frames) (hR2 : 12 ≤ R.locals) (hdg : decode cc pc = .ok (.invokespecial idx, 3))
    (kk : W p l e R s m args below meth c H locs cells slots Q (F0 m (pc + 3) ls [])) : W p l e R s m args below meth c H locs cells slots Q (F0 m pc ls [.ref a]) := by
  obtain ⟨⟨hx, hb, hml, hown, hts⟩, hK⟩ := E
  exact W.objInit hx hb hown (hts _ hlk) (hts _ wi_obj) (hts _ wc_obj) rfl (hls.trans hml.symm) rfl hdg hR hR2 kk
theorem fnewa (E : EE p m c cc nL s args own D tys) (k : Nat) {cT : ClassId} {ty : FieldType} (hk : tys[k]? = some (cT, ty)) {atype : ArrayType} (hty : newarray.typeOf atype = ty) (hac : Cond.arrayClass ty ∈ tb) (hra : ∀ (U : State) (cA : ClassId), va_RA U cA ty → U.vm.findClass ("[" ++ ty.toString) = some cA) (hP : va_P D vwCl ws H) (hD : va_D A ws) (hS : va_S A H0 H locs) (hA : ∀ q, H0.size ≤ q → A q)
    {n : Int32} {N' : Nat} {a0 : vp_A} (ha : ∀ cA : ClassId, vp_cell cA a0 = arrV cA N' (fun _ => defaultValue ty)) (hn : ¬ n < 0) (hN : n.toNatClampNeg = N') (hbytes : N' * componentBytes ty ≤ 536870912) (hcells : cells + 1 ≤ R.cells) (hslots : slots + N' ≤ R.slots) (hdg : decode cc pc = .ok (.newarray atype, 2))
    (kk : ∀ (q : Nat) (H1 : Heap), va_P D vwCl (ws ++ [(q, .inl (cT, a0))]) H1 → va_D A (ws ++ [(q, .inl (cT, a0))]) → va_S A H0 H1 locs → W p l e R s m args below meth c H1 locs (cells + 1) (slots + N') Q (F0 m (pc + 2) ls (.ref q :: rest))) : W p l e R s m args below meth c H locs cells slots Q (F0 m pc ls (.int n :: rest)) := by
  obtain ⟨⟨hx, hb, hml, hown, hts⟩, hK⟩ := E
  refine va_newa hx hb (by rw [hty]; exact hts _ hac) hty hK.1 hP hD hS hA ha hn hN hbytes hcells hslots hdg (fun q cA H1 hK' hP' hD' hS' => ?_)
  have e1 := hra s cT (hK.1.2 k _ hk).2
  have e2 := hra s cA (hK'.2 tys.length (cA, ty) (by rw [List.getElem?_append_right (Nat.le_refl _), Nat.sub_self]; rfl)).2
  have e3 : cA = cT := Option.some.inj (e2.symm.trans e1)
  subst e3
  exact kk q H1 hP' hD' hS'
theorem fnew (E : EE p m c cc nL s args own D tys) {C : String} {T : u_T} {N ci index : Nat} {ty : Nat → FieldType} (hcl : vwCl[ci]? = some (C, T, N)) (hws : ∀ w ∈ u_ws C T N, w ∈ tb) (hty : ∀ k, k < N → parseFieldDescriptor (T k).2.2.1 = some (ty k)) (h1 : Cond.classLink own index C ∈ tb) (h2 : Cond.instantiable C N ∈ tb) (h3 : Cond.initialized C ∈ tb) {fs : List Value} (hfs : ∀ j, j < N → defaultValue (ty j) = vp_V fs j)
    (hP : va_P D vwCl ws H) (hD : va_D A ws) (hS : va_S A H0 H locs) (hA : ∀ q, H0.size ≤ q → A q) (hcells : cells + 1 ≤ R.cells) (hslots : slots + N ≤ R.slots) (hdg : decode cc pc = .ok (.new index, 3))
    (kk : ∀ (q : Nat) (H1 : Heap), va_P D vwCl (ws ++ [(q, .inr (ci, fs))]) H1 → va_D A (ws ++ [(q, .inr (ci, fs))]) → va_S A H0 H1 locs → W p l e R s m args below meth c H1 locs (cells + 1) (slots + N) Q (F0 m (pc + 3) ls (.ref q :: rest))) : W p l e R s m args below meth c H locs cells slots Q (F0 m pc ls rest) := by
  obtain ⟨⟨hx, hb, hml, hown, hts⟩, hK⟩ := E
  exact va_new hx hb hts hws ty hty hown (hts _ h1) (hts _ h2) (hts _ h3) hK.1 hP hD hS hA hcl hfs hcells hslots hdg kk
section CALLS
variable {y : MethodName} {bytes : ByteArray} {maxL index n fr lo cl sl b : Nat} {As : List Value} {wc wr : va_W} {wf : (Nat → Nat) → va_W}
theorem cn_go {free : Addr → Prop} {a : Array Value} (hr : va_Run p l e R s m args below meth c H locs cells slots cl sl (F0 m pc ls st0) rest (va_Qv (fun _ : Nat → Nat => True) (fun u t => va_P D vwCl (wf u) t.heap ∧ va_D (va_A wc H.size) (wf u)) (va_A wc H.size) a) (va_A wc H.size)) (hP : va_P D vwCl ws H) (hD : va_D A ws) (hS : va_S A H0 H locs) (hA : ∀ q, H0.size ≤ q → A q) (isC isR : List Nat) (hCw : isC.map (fun i => ws[i]?) = wc.map some) (hRw : isR.map (fun i => ws[i]?) = wr.map some) (hnR : va_nd isR = true) (hdis : ∀ i ∈ isR, i ∉ isC)
    (kk : ∀ (u : Nat → Nat) (H1 : Heap) (locs1 : List Loc), va_P D vwCl (wr ++ wf u) H1 → va_D A (wr ++ wf u) → va_S A H0 H1 locs1 → W p l e R s m args below meth c H1 locs1 (cells + cl) (slots + sl) Q (F0 m (pc + 3) ls rest)) : W p l e R s m args below meth c H locs cells slots Q (F0 m pc ls st0) := by
  have hF := va_free hD hS hA isC hCw
  refine va_callv hr hS (fun q _ h => hF q h) hF (fun u t H1 locs ht hvm hw hB hz1 hk1 hS => ?_)
  obtain ⟨hP1, hD1⟩ := hB
  rw [ht] at hP1
  obtain ⟨hPj, hDj⟩ := va_join hP hD isC isR hCw hRw hnR hdis hk1 hF hP1 hD1
  exact kk u H1 locs hPj hDj hS
theorem kcI (E : EE p m c cc nL s args own D tys) (hls : ls.size = nL) (hC : CN l D tys y (.code y bytes maxL none) fr cl sl lo (.ref b :: As) wc wf) (hy : CalI y bytes maxL n) (hlk : Cond.methodLink own index y ∈ tb)
    (hP : va_P D vwCl ws H) (hD : va_D A ws) (hS : va_S A H0 H locs) (hA : ∀ q, H0.size ≤ q → A q) (isC isR : List Nat) (hCw : isC.map (fun i => ws[i]?) = wc.map some) (hRw : isR.map (fun i => ws[i]?) = wr.map some) (hnC : va_nd isC = true) (hnR : va_nd isR = true) (hdis : ∀ i ∈ isR, i ∉ isC) (hn : As.length = n) (hst : st0 = As.reverse ++ .ref b :: rest) (hroom : (rest.map fun v => v.category).sum ≤ 8) (hR : fr + 1 ≤ R.frames ∧ 8 + (maxL + 11) + lo ≤ R.locals) (hcs : cells + cl ≤ R.cells ∧ slots + sl ≤ R.slots) (hdg : decode cc pc = .ok (.invokespecial index, 3))
    (kk : ∀ (u : Nat → Nat) (H1 : Heap) (locs1 : List Loc), va_P D vwCl (wr ++ wf u) H1 → va_D A (wr ++ wf u) → va_S A H0 H1 locs1 → W p l e R s m args below meth c H1 locs1 (cells + cl) (slots + sl) Q (F0 m (pc + 3) ls rest)) : W p l e R s m args below meth c H locs cells slots Q (F0 m pc ls st0) := by
  obtain ⟨h1, h2, h3, h4, h5⟩ := hy
  obtain ⟨hPc, hpre⟩ := ct_pre (wc := wc) (av := .ref b :: As) E hP hD isC hCw hnC
  have hts := E.1.2.2.2.2
  exact cn_go (free := va_A wc H.size) (va_runI (As := As) (rest := rest) (n := n) E.1 (hC H.size) ⟨callB_of n hts (tb_good h1) rfl rfl rfl (hts _ h2) (hts _ hlk) h5 hR, h4, hts _ h3⟩ ⟨CP.blind, hpre⟩ rfl hn hls hst (lv_room hroom) hdg hcs) hP hD hS hA isC isR hCw hRw hnR hdis kk
theorem kcIN (E : EE p m c cc nL s args own D tys) (hls : ls.size = nL) (hC : CN l D tys y (.code y bytes maxL none) fr cl sl lo (.ref b :: As) wc wf) (hy : CalI y bytes maxL n) (ni : Nat) {host : String} (hlk : nestL[ni]? = some (own, index, y, host))
    (hP : va_P D vwCl ws H) (hD : va_D A ws) (hS : va_S A H0 H locs) (hA : ∀ q, H0.size ≤ q → A q) (isC isR : List Nat) (hCw : isC.map (fun i => ws[i]?) = wc.map some) (hRw : isR.map (fun i => ws[i]?) = wr.map some) (hnC : va_nd isC = true) (hnR : va_nd isR = true) (hdis : ∀ i ∈ isR, i ∉ isC) (hn : As.length = n) (hst : st0 = As.reverse ++ .ref b :: rest) (hroom : (rest.map fun v => v.category).sum ≤ 8) (hR : fr + 1 ≤ R.frames ∧ 8 + (maxL + 11) + lo ≤ R.locals) (hcs : cells + cl ≤ R.cells ∧ slots + sl ≤ R.slots) (hdg : decode cc pc = .ok (.invokespecial index, 3))
    (kk : ∀ (u : Nat → Nat) (H1 : Heap) (locs1 : List Loc), va_P D vwCl (wr ++ wf u) H1 → va_D A (wr ++ wf u) → va_S A H0 H1 locs1 → W p l e R s m args below meth c H1 locs1 (cells + cl) (slots + sl) Q (F0 m (pc + 3) ls rest)) : W p l e R s m args below meth c H locs cells slots Q (F0 m pc ls st0) := by
  obtain ⟨h1, h2, h3, h4, h5⟩ := hy
  obtain ⟨hPc, hpre⟩ := ct_pre (wc := wc) (av := .ref b :: As) E hP hD isC hCw hnC
  have hts := E.1.2.2.2.2
  have hnw := E.2.2 _ (List.mem_of_getElem? hlk)
  exact cn_go (free := va_A wc H.size) (va_runIN (As := As) (rest := rest) (n := n) E.1 (hC H.size) ⟨va_cnB n hts (tb_good h1) rfl rfl rfl hnw (hts _ h2) h5 hR, h4, hts _ h3⟩ ⟨CP.blind, hpre⟩ rfl hn hls hst (lv_room hroom) hdg hcs) hP hD hS hA isC isR hCw hRw hnR hdis kk
theorem CN.intro {av : List Value} (hk : (lg_sl av).length ≤ maxL) (hp : plainName y.cls = true) (hy : y.name = "<init>")
    (body : ∀ (p : Program) (e : Env) (s : State) (m : MethodId) (below : List Frame) (meth : Method) (c : Code) (Q : State → Prop) (A : Nat → Prop) (ls : Array Slot), EE p m c bytes maxL s av.toArray y.cls D tys → meth.name = "<init>" → (∀ q, s.heap.size ≤ q → A q) → va_P D vwCl ws s.heap → va_D A ws → va_S A s.heap s.heap [] → lv_has ls maxL (lv_args 0 av) →
      (∀ (u : Nat → Nat) (H : Heap) (locs : List Loc) (pc : Nat) (ls : Array Slot), va_P D vwCl (wf u) H → va_D A (wf u) → va_S A s.heap H locs → decode bytes pc = .ok (.return_, 1) → W p l e { frames := fr, cells := cl, slots := sl, locals := lo } s m av.toArray below meth c H locs cl sl Q (F0 m pc ls [])) →
      W p l e { frames := fr, cells := cl, slots := sl, locals := lo } s m av.toArray below meth c s.heap [] 0 0 Q (F0 m 0 ls [])) : CN l D tys y (.code y bytes maxL none) fr cl sl lo av ws wf := by
  intro sz
  refine Met.ofW (cc := bytes) (maxL := maxL) (ret := none) hp rfl ?_
  intro p e s m args below meth c s₁ B hml hv
  obtain ⟨rfl, rfl, hP, hK, hD0⟩ := hv
  have hx := B.exec
  have hb := B.bytes
  have hr := B.returns
  have hts := atoms_spec (ws := Cond.code y bytes maxL none :: tb) B.pre
  have hown : s.vm.findClass y.cls = some m.cls := findClass_of_methodNamed B.named
  have hlocks := B.notSynchronized
  have hin : meth.name = "<init>" := (name_of_methodNamed B.named B.method).1.trans hy
  rw [lg_entry_eq]
  refine body p e s m below meth c _ (va_A ws s.heap.size) _ ⟨⟨hx, hb, hml, hown, fun w hw => hts w (List.mem_cons_of_mem _ hw)⟩, hK⟩ hin (fun q h => Or.inr h) hP hD0.self va_S.rf (lv_entry av hk) ?_
  intro u H locs pc ls hP' hD' hS' hd
  exact W.vret hx hb hr (fun t ht hW => ⟨⟨u, rfl, trivial, by rw [ht]; exact hP', hD'⟩, hS'.F ht⟩) hS'.2.2 hd hlocks
end CALLS
end CONS
