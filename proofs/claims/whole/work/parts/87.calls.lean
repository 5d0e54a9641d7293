/-! calls of methods of many cells -/
theorem jcells {ws ws2 wn : va_W} {isC isR : List Nat} {n : Nat} (hn : ws2.length = n) (h2 : isC.map (fun i => ws2[i]?) = wn.map some) (h3 : isR.map (fun i => ws2[i]?) = isR.map (fun i => ws[i]?)) (h4 : ∀ k, k < n → k ∈ isC ∨ k ∈ isR) (h5 : ∀ i ∈ isR, i ∉ isC) : ∀ (k : Nat) (q : Nat × va_E), ws2[k]? = some q → (∃ j : Nat, wn[j]? = some q) ∨ (ws[k]? = some q ∧ k ∉ isC) := by
  intro k q hq
  have hk : k < n := by rw [← hn]; exact (List.getElem?_eq_some_iff.mp hq).1
  rcases h4 k hk with h | h
  · left
    obtain ⟨j, hj⟩ := List.getElem?_of_mem h
    have e : (isC.map (fun i => ws2[i]?))[j]? = some (ws2[k]?) := by rw [List.getElem?_map, hj]; rfl
    rw [h2, List.getElem?_map, hq] at e
    cases hw : wn[j]? with
    | none => rw [hw] at e; cases e
    | some z => rw [hw] at e; exact ⟨j, by rw [hw]; exact Option.some.inj e⟩
  · right
    obtain ⟨j, hj⟩ := List.getElem?_of_mem h
    have e1 : (isR.map (fun i => ws2[i]?))[j]? = some (ws2[k]?) := by rw [List.getElem?_map, hj]; rfl
    have e2 : (isR.map (fun i => ws[i]?))[j]? = some (ws[k]?) := by rw [List.getElem?_map, hj]; rfl
    rw [h3, e2] at e1
    exact ⟨(Option.some.inj e1).trans hq, h5 k h⟩
section SUP3
variable {p : Program} {l : Launch} {e : Env} {R : Room} {s : State} {m : MethodId} {args : Array Value} {below : List Frame} {meth : Method} {c : Code} {H H0 : Heap} {locs : List Loc} {cells slots : Nat} {Q : State → Prop} {cc : ByteArray} {pc nL : Nat} {ls : Array Slot} {rest st0 : List Value} {D : va_G} {tys : List (ClassId × FieldType)} {ws : va_W} {A : Nat → Prop} {own : String} {a : Nat}
theorem ct_go2 {wc wn ws2 : va_W} {r : Option Value} {av : Array Value} (hr : va_Run p l e R s m args below meth c H locs cells slots 0 0 (F0 m pc ls st0) rest (CQ D wc wn H.size r av) (va_A wc H.size)) (hP : va_P D vwCl ws H) (hD : va_D A ws) (hS : va_S A H0 H locs) (hA : ∀ q, H0.size ≤ q → A q) (isC : List Nat) (hC : isC.map (fun i => ws[i]?) = wc.map some) (hset : ∀ (k : Nat) (q : Nat × va_E), ws2[k]? = some q → (∃ j : Nat, wn[j]? = some q) ∨ (ws[k]? = some q ∧ k ∉ isC)) (hadr : ws2.map Prod.fst = ws.map Prod.fst)
    (kk : ∀ (H1 : Heap) (locs1 : List Loc), va_P D vwCl ws2 H1 → va_D A ws2 → va_S A H0 H1 locs1 → W p l e R s m args below meth c H1 locs1 cells slots Q (F0 m (pc + 3) ls (r.toList ++ rest))) : W p l e R s m args below meth c H locs cells slots Q (F0 m pc ls st0) := by
  have hf : ∀ q, va_A wc H.size q → A q := va_free hD hS hA isC hC
  intro T hT X
  obtain ⟨v, st₀, t, T', L, h0, X', hL, e1, e2, ⟨⟨hv, hp⟩, hz, hk⟩, st⟩ := hr T hT X
  cases hv
  rw [h0] at hz hk
  have hS' : va_S A H0 T'.heap (locs ++ L) := ⟨Nat.le_trans hS.1 (by rw [e1]; exact hz), fun q h1 h2 => by rw [e1, hk q (Nat.lt_of_lt_of_le h1 hS.1) (fun z => h2 (hf q z))]; exact hS.2.1 q h1 h2, fun q hq => by
    rcases List.mem_append.mp hq with h | h
    · exact hS.2.2 q h
    · exact hf _ (hL q h)⟩
  have hP' : va_P D vwCl ws2 T'.heap := by
    intro k q hq
    rw [e1]
    rcases hset k q hq with ⟨j, hj⟩ | ⟨h1, h2⟩
    · exact hp j q hj
    · refine (hP k q h1).kept (hk q.1 (hP k q h1).lt (fun z => ?_))
      rcases z with ⟨k2, e2, z⟩ | z
      · have h3 : (isC.map (fun i => ws[i]?))[k2]? = some (some (q.1, e2)) := by rw [hC, List.getElem?_map, z]; rfl
        rw [List.getElem?_map] at h3
        cases hi : isC[k2]? with
        | none => rw [hi] at h3; cases h3
        | some i =>
          rw [hi] at h3
          have h4 := hD.1 i k (q.1, e2) q (Option.some.inj h3) h1 rfl
          subst h4
          exact h2 (List.mem_of_getElem? hi)
      · have := (hP k q h1).lt
        omega
  obtain ⟨t2, a1, b1⟩ := kk T'.heap (locs ++ L) hP' (hD.adr hadr) hS' T' rfl X'
  exact ⟨t2, st t2 a1, b1⟩
section C3
variable {τ : Type} {y : MethodName} {bytes : ByteArray} {maxL index n fr lo q0 ci b : Nat} {ret : Option FieldType} {As : List Value} {wc ws2 : va_W} {rf : τ → Option Value} {wf : τ → va_W} {u : τ}
theorem kcV2 (E : EE p m c cc nL s args own D tys) (hls : ls.size = nL) (hC : CT l D tys y (.code y bytes maxL ret) fr lo (.ref b :: As) wc rf wf u) (hy : CalV y bytes maxL ret n) (hlk : Cond.methodLink own index y ∈ tb)
    (hP : va_P D vwCl ws H) (hD : va_D A ws) (hS : va_S A H0 H locs) (hA : ∀ q, H0.size ≤ q → A q) (isC : List Nat) (hCw : isC.map (fun i => ws[i]?) = wc.map some) (hnd : va_nd isC = true) (hset : ∀ (k : Nat) (q : Nat × va_E), ws2[k]? = some q → (∃ j : Nat, (wf u)[j]? = some q) ∨ (ws[k]? = some q ∧ k ∉ isC)) (hadr : ws2.map Prod.fst = ws.map Prod.fst)
    (q0 ci : Nat) {fs : List Value} (hq : wc[q0]? = some (b, .inr (ci, fs))) (hci : (vwCl[ci]?).map (·.1) = some y.cls) (hn : As.length = n) (hst : st0 = As.reverse ++ .ref b :: rest) (hroom : (rest.map fun v => v.category).sum ≤ 8) (hR : fr + 1 ≤ R.frames ∧ 8 + (maxL + 11) + lo ≤ R.locals) (hcs : cells ≤ R.cells ∧ slots ≤ R.slots) (hdg : decode cc pc = .ok (.invokevirtual index, 3))
    (kk : ∀ (H1 : Heap) (locs1 : List Loc), va_P D vwCl ws2 H1 → va_D A ws2 → va_S A H0 H1 locs1 → W p l e R s m args below meth c H1 locs1 cells slots Q (F0 m (pc + 3) ls ((rf u).toList ++ rest))) : W p l e R s m args below meth c H locs cells slots Q (F0 m pc ls st0) := by
  obtain ⟨h1, h2, h3, h4, h5⟩ := hy
  obtain ⟨hPc, hpre⟩ := ct_pre (wc := wc) (av := .ref b :: As) E hP hD isC hCw hnd
  have hts := E.1.2.2.2.2
  refine ct_go2 (wc := wc) (va_runV (As := As) (rest := rest) (b := b) (C := y.cls) (n := n) E.1 (hC H.size) ⟨callB_of n hts (tb_good h1) rfl rfl rfl (hts _ h2) (hts _ hlk) h5 hR, hts _ h3, hts _ h4⟩ ⟨CP.blind, ?_, hpre⟩ rfl hn hls hst (lv_room hroom) hdg hcs) hP hD hS hA isC hCw hset hadr kk
  cases hc : vwCl[ci]? with
  | none => rw [hc] at hci; cases hci
  | some q =>
    rw [hc] at hci
    have := va_recv E.2.1 hPc hc hq
    rw [← Option.some.inj hci]
    exact this
end C3
end SUP3
section SUP4
variable {p : Program} {l : Launch} {e : Env} {R : Room} {s : State} {m : MethodId} {args : Array Value} {below : List Frame} {meth : Method} {c : Code} {H H0 : Heap} {locs : List Loc} {cells slots : Nat} {Q : State → Prop} {cc : ByteArray} {pc nL : Nat} {ls : Array Slot} {rest st0 : List Value} {D : va_G} {tys : List (ClassId × FieldType)} {ws : va_W} {A : Nat → Prop} {own : String} {a : Nat}
variable {τ : Type} {y : MethodName} {bytes : ByteArray} {maxL index n fr lo q0 ci b : Nat} {ret : Option FieldType} {As : List Value} {wc ws2 : va_W} {rf : τ → Option Value} {wf : τ → va_W} {u : τ} {adK adV : Nat → Nat}
theorem kcVZ2 (E : EE p m c cc nL s args own D tys) (hZ : SK adK adV A s s.heap) (hls : ls.size = nL) (hC : CTZ l adK adV D tys y (.code y bytes maxL ret) fr lo (.ref b :: As) wc rf wf u) (hy : CalV y bytes maxL ret n) (hlk : Cond.methodLink own index y ∈ tb)
    (hP : va_P D vwCl ws H) (hD : va_D A ws) (hS : va_S A s.heap H locs) (hA : ∀ q, s.heap.size ≤ q → A q) (isC : List Nat) (hCw : isC.map (fun i => ws[i]?) = wc.map some) (hnd : va_nd isC = true) (hset : ∀ (k : Nat) (q : Nat × va_E), ws2[k]? = some q → (∃ j : Nat, (wf u)[j]? = some q) ∨ (ws[k]? = some q ∧ k ∉ isC)) (hadr : ws2.map Prod.fst = ws.map Prod.fst)
    (q0 ci : Nat) {fs : List Value} (hq : wc[q0]? = some (b, .inr (ci, fs))) (hci : (vwCl[ci]?).map (·.1) = some y.cls) (hn : As.length = n) (hst : st0 = As.reverse ++ .ref b :: rest) (hroom : (rest.map fun v => v.category).sum ≤ 8) (hR : fr + 1 ≤ R.frames ∧ 8 + (maxL + 11) + lo ≤ R.locals) (hcs : cells ≤ R.cells ∧ slots ≤ R.slots) (hdg : decode cc pc = .ok (.invokevirtual index, 3))
    (kk : ∀ (H1 : Heap) (locs1 : List Loc), va_P D vwCl ws2 H1 → va_D A ws2 → va_S A s.heap H1 locs1 → W p l e R s m args below meth c H1 locs1 cells slots Q (F0 m (pc + 3) ls ((rf u).toList ++ rest))) : W p l e R s m args below meth c H locs cells slots Q (F0 m pc ls st0) := by
  obtain ⟨h1, h2, h3, h4, h5⟩ := hy
  obtain ⟨hPc, hpre⟩ := ct_preZ (wc := wc) (av := .ref b :: As) E hZ hP hD hS hA isC hCw hnd
  have hts := E.1.2.2.2.2
  refine ct_go2 (wc := wc) (va_runV (As := As) (rest := rest) (b := b) (C := y.cls) (n := n) E.1 (hC H.size) ⟨callB_of n hts (tb_good h1) rfl rfl rfl (hts _ h2) (hts _ hlk) h5 hR, hts _ h3, hts _ h4⟩ ⟨CPZ.blind, ?_, hpre⟩ rfl hn hls hst (lv_room hroom) hdg hcs) hP hD hS hA isC hCw hset hadr kk
  cases hc : vwCl[ci]? with
  | none => rw [hc] at hci; cases hci
  | some q =>
    rw [hc] at hci
    have := va_recv E.2.1 hPc hc hq
    rw [← Option.some.inj hci]
    exact this
end SUP4
