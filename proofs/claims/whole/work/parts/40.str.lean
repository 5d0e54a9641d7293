/-- the reader's words: how long, which bytes, which rows, which texts -/
def SL : List Nat := [4, 6, 3, 5, 2]
def SB : List (List Int32) := [[121, 101, 97, 114], [98, 114, 105, 100, 103, 101], [109, 97, 110], [107, 110, 111, 119, 115], [111, 120]]
def SI : List Nat := [83, 89, 91, 93, 95]
def SX : List String := ["year", "bridge", "man", "knows", "ox"]
def SK (adK adV : Nat → Nat) (A : Nat → Prop) (U : State) (H : Heap) : Prop :=
  vk_S 5 SL SB adK adV A U H ∧ (∀ i, i < 5 → vk_R "HeavierToCome$Reader" (SI.getD i 0) (SX.getD i "") (adK i) U) ∧ va_Z "java/lang/String" "COMPACT_STRINGS" "Z" (.int 1) A U H ∧ va_Zq "jdk/internal/util/Preconditions" "SIOOBE_FORMATTER" "Ljava/util/function/BiFunction;" A U H
theorem SK.pass {adK adV : Nat → Nat} {A B : Nat → Prop} {s U : State} {H0 H : Heap} (h : SK adK adV A s H0) (hW : s.WarmedH U.vm) (hq : ∀ q : Nat, q < H0.size → ¬ A q → H[q]? = H0[q]?) (hAB : ∀ q, B q → A q) : SK adK adV B U H :=
  ⟨((vk_S.moved hW.alike h.1).kept hq).narrow hAB, fun i hi => vk_R.warm hW (h.2.1 i hi), ((va_Z.moved hW.alike h.2.2.1).kept hq).narrow hAB, ((va_Zq.moved hW.alike h.2.2.2).kept hq).narrow hAB⟩
theorem SK.same {adK adV : Nat → Nat} {A : Nat → Prop} {s U : State} {H : Heap} (hv : s.vm = U.vm) (h : SK adK adV A s H) : SK adK adV A U H :=
  ⟨vk_S.moved (by rw [hv]; exact Vm.Alike.refl _) h.1, fun i hi => vk_R.same hv.symm (h.2.1 i hi), va_Z.moved (by rw [hv]; exact Vm.Alike.refl _) h.2.2.1, va_Zq.moved (by rw [hv]; exact Vm.Alike.refl _) h.2.2.2⟩
def CPZ (adK adV : Nat → Nat) (av : List Value) (D : va_G) (tys : List (ClassId × FieldType)) (ws : va_W) (sz : Nat) : Array Value → State → Prop := va_Pc av (fun U => (U.heap.size = sz ∧ va_P D vwCl ws U.heap ∧ KK D tys U ∧ va_D (fun _ => True) ws) ∧ SK adK adV (va_A ws sz) U U.heap)
/-- a method that reads the reader's words -/
def CTZ {τ : Type} (l : Launch) (adK adV : Nat → Nat) (D : va_G) (tys : List (ClassId × FieldType)) (y : MethodName) (cw : Cond) (fr lo : Nat) (av : List Value) (ws : va_W) (rf : τ → Option Value) (wf : τ → va_W) (u : τ) : Prop :=
  ∀ sz : Nat, Met l y (cw :: tb) { frames := fr, cells := 0, slots := 0, locals := lo } (CPZ adK adV av D tys ws sz) (CQ D ws (wf u) sz (rf u)) 0 0 (va_A ws sz)
theorem CPZ.blind {adK adV : Nat → Nat} {av : List Value} {D : va_G} {tys : List (ClassId × FieldType)} {ws : va_W} {sz : Nat} : FrameBlind (CPZ adK adV av D tys ws sz) := fun a U g mk q => by
  obtain ⟨q0, ⟨q1, q2, q3, q4⟩, q5⟩ := q
  exact ⟨q0, ⟨q1, q2, KK.same rfl q3, q4⟩, SK.same rfl q5⟩
section CALLZ
variable {p : Program} {l : Launch} {e : Env} {R : Room} {s : State} {m : MethodId} {args : Array Value} {below : List Frame} {meth : Method} {c : Code} {H H0 : Heap} {locs : List Loc} {cells slots : Nat} {Q : State → Prop} {cc : ByteArray} {pc nL : Nat} {ls : Array Slot} {rest st0 : List Value} {D : va_G} {tys : List (ClassId × FieldType)} {ws : va_W} {A : Nat → Prop} {own : String} {a : Nat}
variable {τ : Type} {y : MethodName} {bytes : ByteArray} {maxL index n fr lo q0 ci b : Nat} {ret : Option FieldType} {As : List Value} {wc ws2 : va_W} {rf : τ → Option Value} {wf : τ → va_W} {u : τ} {adK adV : Nat → Nat}
theorem ct_preZ (E : EE p m c cc nL s args own D tys) (hZ : SK adK adV A s s.heap) {av : List Value} (hP : va_P D vwCl ws H) (hD : va_D A ws) (hS : va_S A s.heap H locs) (hA : ∀ q, s.heap.size ≤ q → A q) (isC : List Nat) (hC : isC.map (fun i => ws[i]?) = wc.map some) (hn : va_nd isC = true) : va_P D vwCl wc H ∧ ∀ U : State, U.heap = H → s.WarmedH U.vm → CPZ adK adV av D tys wc H.size av.toArray U := by
  obtain ⟨h1, h2⟩ := ct_pre (av := av) E hP hD isC hC hn
  refine ⟨h1, fun U hU hW => ⟨rfl, (h2 U hU hW).2, ?_⟩⟩
  rw [hU]
  exact hZ.pass hW hS.2.1 (va_free hD hS hA isC hC)
theorem kcVZ (E : EE p m c cc nL s args own D tys) (hZ : SK adK adV A s s.heap) (hls : ls.size = nL) (hC : CTZ l adK adV D tys y (.code y bytes maxL ret) fr lo (.ref b :: As) wc rf wf u) (hy : CalV y bytes maxL ret n) (hlk : Cond.methodLink own index y ∈ tb)
    (hP : va_P D vwCl ws H) (hD : va_D A ws) (hS : va_S A s.heap H locs) (hA : ∀ q, s.heap.size ≤ q → A q) (isC : List Nat) (hCw : isC.map (fun i => ws[i]?) = wc.map some) (hnd : va_nd isC = true) (hlen : isC.length = (wf u).length) (hset : jset ws isC (wf u) = ws2) (hadr : ws2.map Prod.fst = ws.map Prod.fst)
    (q0 ci : Nat) {fs : List Value} (hq : wc[q0]? = some (b, .inr (ci, fs))) (hci : (vwCl[ci]?).map (·.1) = some y.cls) (hn : As.length = n) (hst : st0 = As.reverse ++ .ref b :: rest) (hroom : (rest.map fun v => v.category).sum ≤ 8) (hR : fr + 1 ≤ R.frames ∧ 8 + (maxL + 11) + lo ≤ R.locals) (hcs : cells ≤ R.cells ∧ slots ≤ R.slots) (hdg : decode cc pc = .ok (.invokevirtual index, 3))
    (kk : ∀ (H1 : Heap) (locs1 : List Loc), va_P D vwCl ws2 H1 → va_D A ws2 → va_S A s.heap H1 locs1 → W p l e R s m args below meth c H1 locs1 cells slots Q (F0 m (pc + 3) ls ((rf u).toList ++ rest))) : W p l e R s m args below meth c H locs cells slots Q (F0 m pc ls st0) := by
  obtain ⟨h1, h2, h3, h4, h5⟩ := hy
  obtain ⟨hPc, hpre⟩ := ct_preZ (wc := wc) (av := .ref b :: As) E hZ hP hD hS hA isC hCw hnd
  have hts := E.1.2.2.2.2
  refine ct_go (wc := wc) (va_runV (As := As) (rest := rest) (b := b) (C := y.cls) (n := n) E.1 (hC H.size) ⟨callB_of n hts (tb_good h1) rfl rfl rfl (hts _ h2) (hts _ hlk) h5 hR, hts _ h3, hts _ h4⟩ ⟨CPZ.blind, ?_, hpre⟩ rfl hn hls hst (lv_room hroom) hdg hcs) hP hD hS hA isC hCw hlen hset hadr kk
  cases hc : vwCl[ci]? with
  | none => rw [hc] at hci; cases hci
  | some q =>
    rw [hc] at hci
    have := va_recv E.2.1 hPc hc hq
    rw [← Option.some.inj hci]
    exact this
/-- a String's own method -/
theorem kcVS (E : EE p m c cc nL s args own D tys) (hZ : SK adK adV A s s.heap) (hls : ls.size = nL) {i : Nat} (hi : i < 5) (hC : CTZ l adK adV D tys y (.code y bytes maxL ret) fr lo (.ref (adK i) :: As) [] rf wf u) (hwf : wf u = []) (hy : CalV y bytes maxL ret n) (hcl : y.cls = "java/lang/String") (hlk : Cond.methodLink own index y ∈ tb)
    (hP : va_P D vwCl ws H) (hD : va_D A ws) (hS : va_S A s.heap H locs) (hA : ∀ q, s.heap.size ≤ q → A q)
    (hn : As.length = n) (hst : st0 = As.reverse ++ .ref (adK i) :: rest) (hroom : (rest.map fun v => v.category).sum ≤ 8) (hR : fr + 1 ≤ R.frames ∧ 8 + (maxL + 11) + lo ≤ R.locals) (hcs : cells ≤ R.cells ∧ slots ≤ R.slots) (hdg : decode cc pc = .ok (.invokevirtual index, 3))
    (kk : ∀ (H1 : Heap) (locs1 : List Loc), va_P D vwCl ws H1 → va_D A ws → va_S A s.heap H1 locs1 → W p l e R s m args below meth c H1 locs1 cells slots Q (F0 m (pc + 3) ls ((rf u).toList ++ rest))) : W p l e R s m args below meth c H locs cells slots Q (F0 m pc ls st0) := by
  obtain ⟨h1, h2, h3, h4, h5⟩ := hy
  obtain ⟨hPc, hpre⟩ := ct_preZ (wc := []) (av := .ref (adK i) :: As) E hZ hP hD hS hA [] rfl rfl
  have hts := E.1.2.2.2.2
  refine ct_go (wc := []) (va_runV (As := As) (rest := rest) (b := adK i) (C := y.cls) (n := n) E.1 (hC H.size) ⟨callB_of n hts (tb_good h1) rfl rfl rfl (hts _ h2) (hts _ hlk) h5 hR, hts _ h3, hts _ h4⟩ ⟨CPZ.blind, ?_, hpre⟩ rfl hn hls hst (lv_room hroom) hdg hcs) hP hD hS hA [] rfl (by rw [hwf]; rfl) (by rw [hwf]; rfl) rfl kk
  rw [hcl]
  exact vk_recv hZ.1 hi hS
theorem kcSZ (E : EE p m c cc nL s args own D tys) (hZ : SK adK adV A s s.heap) (hls : ls.size = nL) (hC : CTZ l adK adV D tys y (.code y bytes maxL ret) fr lo As [] rf wf u) (hwf : wf u = []) (hy : CalS y bytes maxL ret n) (hlk : Cond.methodLink own index y ∈ tb)
    (hP : va_P D vwCl ws H) (hD : va_D A ws) (hS : va_S A s.heap H locs) (hA : ∀ q, s.heap.size ≤ q → A q)
    (hn : As.length = n) (hst : st0 = As.reverse ++ rest) (hroom : (rest.map fun v => v.category).sum ≤ 8) (hR : fr + 1 ≤ R.frames ∧ 8 + (maxL + 11) + lo ≤ R.locals) (hcs : cells ≤ R.cells ∧ slots ≤ R.slots) (hdg : decode cc pc = .ok (.invokestatic index, 3))
    (kk : ∀ (H1 : Heap) (locs1 : List Loc), va_P D vwCl ws H1 → va_D A ws → va_S A s.heap H1 locs1 → W p l e R s m args below meth c H1 locs1 cells slots Q (F0 m (pc + 3) ls ((rf u).toList ++ rest))) : W p l e R s m args below meth c H locs cells slots Q (F0 m pc ls st0) := by
  obtain ⟨h1, h2, h3, h5⟩ := hy
  obtain ⟨hPc, hpre⟩ := ct_preZ (wc := []) (av := As) E hZ hP hD hS hA [] rfl rfl
  have hts := E.1.2.2.2.2
  exact ct_go (wc := []) (va_runS (As := As) (rest := rest) (n := n) E.1 (hC H.size) ⟨callB_of n hts (tb_good h1) rfl rfl rfl (hts _ h2) (hts _ hlk) h5 hR, hts _ h3⟩ ⟨CPZ.blind, hpre⟩ rfl hn hls hst (lv_room hroom) hdg hcs) hP hD hS hA [] rfl (by rw [hwf]; rfl) (by rw [hwf]; rfl) rfl kk
theorem CTZ.intro {av : List Value} {k : Nat} (hk : (lg_sl av).length ≤ maxL) (hp : plainName y.cls = true)
    (body : ∀ (p : Program) (e : Env) (s : State) (m : MethodId) (below : List Frame) (meth : Method) (c : Code) (Q : State → Prop) (A : Nat → Prop) (ls : Array Slot), EE p m c bytes maxL s av.toArray y.cls D tys → (∀ q, s.heap.size ≤ q → A q) → va_P D vwCl ws s.heap → va_D A ws → va_S A s.heap s.heap [] → SK adK adV A s s.heap → lv_has ls maxL (lv_args 0 av) →
      Fin p l e { frames := fr, cells := 0, slots := 0, locals := lo } s m av.toArray below meth c bytes D A ret (rf u) (wf u) Q →
      W p l e { frames := fr, cells := 0, slots := 0, locals := lo } s m av.toArray below meth c s.heap [] 0 0 Q (F0 m 0 ls [])) : CTZ l adK adV D tys y (.code y bytes maxL ret) fr lo av ws rf wf u := by
  intro sz
  refine Met.ofW (cc := bytes) (maxL := maxL) (ret := ret) hp rfl ?_
  intro p e s m args below meth c s₁ B hml hv
  obtain ⟨rfl, ⟨rfl, hP, hK, hD0⟩, hZ⟩ := hv
  have hx := B.exec
  have hb := B.bytes
  have hr := B.returns
  have hts := atoms_spec (ws := Cond.code y bytes maxL ret :: tb) B.pre
  have hown : s.vm.findClass y.cls = some m.cls := findClass_of_methodNamed B.named
  have hlocks := B.notSynchronized
  rw [lg_entry_eq]
  refine body p e s m below meth c _ (va_A ws s.heap.size) _ ⟨⟨hx, hb, hml, hown, fun w hw => hts w (List.mem_cons_of_mem _ hw)⟩, hK⟩ (fun q h => Or.inr h) hP hD0.self va_S.rf hZ (lv_entry av hk) ?_
  intro H locs pc ls hP' hS'
  refine ⟨fun v hv ⟨ty, ht, hn⟩ hd => ?_, fun v hv ht hd => ?_, fun v hv ⟨C, ht⟩ hd => ?_, fun hv ht hd => ?_⟩
  · exact W.zret (ty := ty) hx hb (hr.trans ht) hn (fun t ht hW => ⟨⟨by rw [hv], by rw [ht]; exact hP'⟩, hS'.F ht⟩) hS'.2.2 hd hlocks
  · exact W.lret hx hb (hr.trans ht) (fun t ht hW => ⟨⟨by rw [hv], by rw [ht]; exact hP'⟩, hS'.F ht⟩) hS'.2.2 hd hlocks
  · exact W.aret hx hb (hr.trans ht) (Or.inl ⟨C, rfl⟩) (Or.inr ⟨v, rfl⟩) (fun t ht hW => ⟨⟨by rw [hv], by rw [ht]; exact hP'⟩, hS'.F ht⟩) hS'.2.2 hd hlocks
  · exact W.vret hx hb (hr.trans ht) (fun t ht hW => ⟨⟨by rw [hv], by rw [ht]; exact hP'⟩, hS'.F ht⟩) hS'.2.2 hd hlocks
end CALLZ
