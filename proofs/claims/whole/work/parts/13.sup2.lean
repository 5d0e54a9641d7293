/-! rows over whole numbers, loops as functions -/
def iter {α : Type} (b : Nat → α → α) : Nat → Nat → α → α
  | 0, _, a => a
  | n + 1, k, a => iter b n (k + 1) (b k a)
def stepE {α ρ : Type} (f : α → α ⊕ ρ) : α ⊕ ρ → α ⊕ ρ
  | .inl a => f a
  | .inr r => .inr r
def iterE {α ρ : Type} (b : Nat → α → α ⊕ ρ) : Nat → Nat → α → α ⊕ ρ
  | 0, _, a => .inl a
  | n + 1, k, a => stepE (iterE b n (k + 1)) (b k a)
/-- behind a loop that may be left with the method's answer -/
def outE {α ρ : Type} (f : α → ρ) : α ⊕ ρ → ρ
  | .inl a => f a
  | .inr r => r
/-- behind a loop that may be left early -/
def outB {α ρ : Type} (f : α → ρ) : α ⊕ α → ρ
  | .inl a => f a
  | .inr a => f a
def iterD {α : Type} (b : Nat → α → α) : Nat → α → α
  | 0, a => a
  | j + 1, a => iterD b j (b j a)
def iterDE {α ρ : Type} (b : Nat → α → α ⊕ ρ) : Nat → α → α ⊕ ρ
  | 0, a => .inl a
  | j + 1, a => stepE (iterDE b j) (b j a)
def dv : Nat → Int32
  | 0 => -1
  | j + 1 => nI j
theorem dv_of (n : Nat) : nI n - 1 = dv n := by
  cases n with
  | zero => decide
  | succ n => exact nI_pred n
theorem dv_dec (j : Nat) : nI j + Int32.ofInt (-1) = dv j := by
  cases j with
  | zero => decide
  | succ n => exact pk_m1 n
theorem dv_neg : dv 0 < 0 := by decide
theorem nI_i1 (k : Nat) : nI k + Int32.ofInt 1 = nI (k + 1) := nI_1 k
theorem ne31 {a b : Nat} (ha : a < 2 ^ 31) (hb : b < 2 ^ 31) : (nI a = nI b) ↔ a = b := nI_eq ha hb
theorem zn (b : Int32) (h : b = 0 ∨ b = 1) : narrow .boolean (.int b) = .int b := by rcases h with rfl | rfl <;> rfl
def NN (n : Nat) (v : Int32) : Prop := v = -1 ∨ (v = nI v.toNatClampNeg ∧ v.toNatClampNeg < n)
theorem NN.nat {n k : Nat} (h : k < n) (hn : n ≤ 1000) : NN n (nI k) := Or.inr (by rw [nI_clamp (by omega)]; exact ⟨rfl, h⟩)
theorem NN.none {n : Nat} : NN n (-1) := Or.inl rfl
theorem NN.of {n : Nat} {v : Int32} (h : NN n v) (hv : ¬ v = -1) : v = nI v.toNatClampNeg ∧ v.toNatClampNeg < n := h.resolve_left hv
theorem rg_of {v : Int32} {n : Nat} (h0 : ¬ v < 0) (h1 : ¬ nI n ≤ v) (hn : n ≤ 1000) : v = nI v.toNatClampNeg ∧ v.toNatClampNeg < n := by
  obtain ⟨j, hj, rfl⟩ := nI_of h0
  rw [nI_clamp hj]
  refine ⟨rfl, ?_⟩
  rcases Nat.lt_or_ge j n with h | h
  · exact h
  · exact absurd (nI_le h hj) h1
section SUP2
variable {p : Program} {l : Launch} {e : Env} {R : Room} {s : State} {m : MethodId} {args : Array Value} {below : List Frame} {meth : Method} {c : Code} {H H0 : Heap} {locs : List Loc} {cells slots : Nat} {Q : State → Prop} {cc : ByteArray} {pc nL : Nat} {ls : Array Slot} {rest st0 : List Value} {D : va_G} {tys : List (ClassId × FieldType)} {ws : va_W} {A : Nat → Prop} {own : String} {ad : Nat}
theorem ni_lt {a b : Nat} (ha : a < 2 ^ 31) (hb2 : b < 2 ^ 31) (hx : p.tables.exec = Jvm.exec) (hb : c.code = cc) {off : Int} {tgt : Nat} (hdg : decode cc pc = .ok (.if_icmp .lt off, 3)) (ht : (pc : Int) + off = (tgt : Int)) (kt : a < b → W p l e R s m args below meth c H locs cells slots Q (F0 m tgt ls rest)) (kf : ¬ a < b → W p l e R s m args below meth c H locs cells slots Q (F0 m (pc + 3) ls rest)) : W p l e R s m args below meth c H locs cells slots Q (F0 m pc ls (.int (nI b) :: .int (nI a) :: rest)) :=
  lv_icmp_lt hx hb hdg ht (fun h => kt ((nI_ltI ha hb2).mp h)) (fun h => kf (fun z => h ((nI_ltI ha hb2).mpr z)))
theorem ni_ge {a b : Nat} (ha : a < 2 ^ 31) (hb2 : b < 2 ^ 31) (hx : p.tables.exec = Jvm.exec) (hb : c.code = cc) {off : Int} {tgt : Nat} (hdg : decode cc pc = .ok (.if_icmp .ge off, 3)) (ht : (pc : Int) + off = (tgt : Int)) (kt : b ≤ a → W p l e R s m args below meth c H locs cells slots Q (F0 m tgt ls rest)) (kf : ¬ b ≤ a → W p l e R s m args below meth c H locs cells slots Q (F0 m (pc + 3) ls rest)) : W p l e R s m args below meth c H locs cells slots Q (F0 m pc ls (.int (nI b) :: .int (nI a) :: rest)) :=
  lv_icmp_ge hx hb hdg ht (fun h => kt ((nI_leI hb2 ha).mp h)) (fun h => kf (fun z => h ((nI_leI hb2 ha).mpr z)))
theorem ni_gt {a b : Nat} (ha : a < 2 ^ 31) (hb2 : b < 2 ^ 31) (hx : p.tables.exec = Jvm.exec) (hb : c.code = cc) {off : Int} {tgt : Nat} (hdg : decode cc pc = .ok (.if_icmp .gt off, 3)) (ht : (pc : Int) + off = (tgt : Int)) (kt : b < a → W p l e R s m args below meth c H locs cells slots Q (F0 m tgt ls rest)) (kf : ¬ b < a → W p l e R s m args below meth c H locs cells slots Q (F0 m (pc + 3) ls rest)) : W p l e R s m args below meth c H locs cells slots Q (F0 m pc ls (.int (nI b) :: .int (nI a) :: rest)) :=
  lv_icmp_gt hx hb hdg ht (fun h => kt ((nI_ltI hb2 ha).mp h)) (fun h => kf (fun z => h ((nI_ltI hb2 ha).mpr z)))
theorem ni_le {a b : Nat} (ha : a < 2 ^ 31) (hb2 : b < 2 ^ 31) (hx : p.tables.exec = Jvm.exec) (hb : c.code = cc) {off : Int} {tgt : Nat} (hdg : decode cc pc = .ok (.if_icmp .le off, 3)) (ht : (pc : Int) + off = (tgt : Int)) (kt : a ≤ b → W p l e R s m args below meth c H locs cells slots Q (F0 m tgt ls rest)) (kf : ¬ a ≤ b → W p l e R s m args below meth c H locs cells slots Q (F0 m (pc + 3) ls rest)) : W p l e R s m args below meth c H locs cells slots Q (F0 m pc ls (.int (nI b) :: .int (nI a) :: rest)) :=
  lv_icmp_le hx hb hdg ht (fun h => kt ((nI_leI ha hb2).mp h)) (fun h => kf (fun z => h ((nI_leI ha hb2).mpr z)))
theorem ni_eq {a b : Nat} (ha : a < 2 ^ 31) (hb2 : b < 2 ^ 31) (hx : p.tables.exec = Jvm.exec) (hb : c.code = cc) {off : Int} {tgt : Nat} (hdg : decode cc pc = .ok (.if_icmp .eq off, 3)) (ht : (pc : Int) + off = (tgt : Int)) (kt : a = b → W p l e R s m args below meth c H locs cells slots Q (F0 m tgt ls rest)) (kf : ¬ a = b → W p l e R s m args below meth c H locs cells slots Q (F0 m (pc + 3) ls rest)) : W p l e R s m args below meth c H locs cells slots Q (F0 m pc ls (.int (nI b) :: .int (nI a) :: rest)) :=
  lv_icmp_eq hx hb hdg ht (fun h => kt ((nI_eq ha hb2).mp h)) (fun h => kf (fun z => h ((nI_eq ha hb2).mpr z)))
theorem ni_ne {a b : Nat} (ha : a < 2 ^ 31) (hb2 : b < 2 ^ 31) (hx : p.tables.exec = Jvm.exec) (hb : c.code = cc) {off : Int} {tgt : Nat} (hdg : decode cc pc = .ok (.if_icmp .ne off, 3)) (ht : (pc : Int) + off = (tgt : Int)) (kt : ¬ a = b → W p l e R s m args below meth c H locs cells slots Q (F0 m tgt ls rest)) (kf : a = b → W p l e R s m args below meth c H locs cells slots Q (F0 m (pc + 3) ls rest)) : W p l e R s m args below meth c H locs cells slots Q (F0 m pc ls (.int (nI b) :: .int (nI a) :: rest)) :=
  lv_icmp_ne hx hb hdg ht (fun h => kt (fun z => h ((nI_eq ha hb2).mpr z))) (fun h => kf ((nI_eq ha hb2).mp h))
theorem nz_eq {a : Nat} (ha : a < 2 ^ 31) (hx : p.tables.exec = Jvm.exec) (hb : c.code = cc) {off : Int} {tgt : Nat} (hdg : decode cc pc = .ok (.ifCond .eq off, 3)) (ht : (pc : Int) + off = (tgt : Int)) (kt : a = 0 → W p l e R s m args below meth c H locs cells slots Q (F0 m tgt ls rest)) (kf : ¬ a = 0 → W p l e R s m args below meth c H locs cells slots Q (F0 m (pc + 3) ls rest)) : W p l e R s m args below meth c H locs cells slots Q (F0 m pc ls (.int (nI a) :: rest)) :=
  lv_if_eq hx hb hdg ht (fun h => kt ((nI_eq ha (by decide : 0 < 2 ^ 31)).mp h)) (fun h => kf (fun z => h (by rw [z]; rfl)))
theorem nz_ne {a : Nat} (ha : a < 2 ^ 31) (hx : p.tables.exec = Jvm.exec) (hb : c.code = cc) {off : Int} {tgt : Nat} (hdg : decode cc pc = .ok (.ifCond .ne off, 3)) (ht : (pc : Int) + off = (tgt : Int)) (kt : ¬ a = 0 → W p l e R s m args below meth c H locs cells slots Q (F0 m tgt ls rest)) (kf : a = 0 → W p l e R s m args below meth c H locs cells slots Q (F0 m (pc + 3) ls rest)) : W p l e R s m args below meth c H locs cells slots Q (F0 m pc ls (.int (nI a) :: rest)) :=
  lv_if_ne hx hb hdg ht (fun h => kt (fun z => h (by rw [z]; rfl))) (fun h => kf ((nI_eq ha (by decide : 0 < 2 ^ 31)).mp h))
theorem nz_gt {a : Nat} (ha : a < 2 ^ 31) (hx : p.tables.exec = Jvm.exec) (hb : c.code = cc) {off : Int} {tgt : Nat} (hdg : decode cc pc = .ok (.ifCond .gt off, 3)) (ht : (pc : Int) + off = (tgt : Int)) (kt : 0 < a → W p l e R s m args below meth c H locs cells slots Q (F0 m tgt ls rest)) (kf : ¬ 0 < a → W p l e R s m args below meth c H locs cells slots Q (F0 m (pc + 3) ls rest)) : W p l e R s m args below meth c H locs cells slots Q (F0 m pc ls (.int (nI a) :: rest)) :=
  lv_if_gt hx hb hdg ht (fun h => kt ((nI_ltI (a := 0) (by decide) ha).mp h)) (fun h => kf (fun z => h ((nI_ltI (a := 0) (by decide) ha).mpr z)))
theorem nz_le {a : Nat} (ha : a < 2 ^ 31) (hx : p.tables.exec = Jvm.exec) (hb : c.code = cc) {off : Int} {tgt : Nat} (hdg : decode cc pc = .ok (.ifCond .le off, 3)) (ht : (pc : Int) + off = (tgt : Int)) (kt : a ≤ 0 → W p l e R s m args below meth c H locs cells slots Q (F0 m tgt ls rest)) (kf : ¬ a ≤ 0 → W p l e R s m args below meth c H locs cells slots Q (F0 m (pc + 3) ls rest)) : W p l e R s m args below meth c H locs cells slots Q (F0 m pc ls (.int (nI a) :: rest)) :=
  lv_if_le hx hb hdg ht (fun h => kt ((nI_leI (b := 0) ha (by decide)).mp h)) (fun h => kf (fun z => h ((nI_leI (b := 0) ha (by decide)).mpr z)))
theorem nz_lt {a : Nat} (ha : a < 2 ^ 31) (hx : p.tables.exec = Jvm.exec) (hb : c.code = cc) {off : Int} {tgt : Nat} (hdg : decode cc pc = .ok (.ifCond .lt off, 3)) (ht : (pc : Int) + off = (tgt : Int)) (kf : W p l e R s m args below meth c H locs cells slots Q (F0 m (pc + 3) ls rest)) : W p l e R s m args below meth c H locs cells slots Q (F0 m pc ls (.int (nI a) :: rest)) :=
  lv_if_lt hx hb hdg ht (fun h => absurd h (nI_pos ha)) (fun _ => kf)
theorem nz_ge {a : Nat} (ha : a < 2 ^ 31) (hx : p.tables.exec = Jvm.exec) (hb : c.code = cc) {off : Int} {tgt : Nat} (hdg : decode cc pc = .ok (.ifCond .ge off, 3)) (ht : (pc : Int) + off = (tgt : Int)) (kt : W p l e R s m args below meth c H locs cells slots Q (F0 m tgt ls rest)) : W p l e R s m args below meth c H locs cells slots Q (F0 m pc ls (.int (nI a) :: rest)) :=
  lv_if_ge hx hb hdg ht (fun _ => kt) (fun h => absurd (nI_pos' ha) h)
/-- arrays of ints, bytes, booleans, by a whole number -/
theorem ild {B I Z : ClassId} {n k : Nat} {f : Nat → Int32} (E : EE p m c cc nL s args own D (tyL B I Z)) (hP : va_P D vwCl ws H) (q0 : Nat) (ha : ws[q0]? = some (ad, .inl (I, n, .inl f))) (hk : k < n) (hn : n ≤ 1000) (hdg : decode cc pc = .ok (.iaload, 1)) (kk : W p l e R s m args below meth c H locs cells slots Q (F0 m (pc + 1) ls (.int (f k) :: rest))) : W p l e R s m args below meth c H locs cells slots Q (F0 m pc ls (.int (nI k) :: .ref ad :: rest)) :=
  va_iald E.1.1 E.1.2.1 E.2.1 hP q0 1 ha rfl (vp_in_nI hk (by omega)) hdg (by rw [nI_clamp (by omega)]; exact kk)
theorem bld {B I Z : ClassId} {n k : Nat} {f : Nat → Int32} (E : EE p m c cc nL s args own D (tyL B I Z)) (hP : va_P D vwCl ws H) (q0 : Nat) (ha : ws[q0]? = some (ad, .inl (B, n, .inl f))) (hk : k < n) (hn : n ≤ 1000) (hdg : decode cc pc = .ok (.baload, 1)) (kk : W p l e R s m args below meth c H locs cells slots Q (F0 m (pc + 1) ls (.int (f k) :: rest))) : W p l e R s m args below meth c H locs cells slots Q (F0 m pc ls (.int (nI k) :: .ref ad :: rest)) :=
  va_bald E.1.1 E.1.2.1 E.2.1 hP q0 0 ha rfl (vp_in_nI hk (by omega)) hdg (by rw [nI_clamp (by omega)]; exact kk)
theorem zld {B I Z : ClassId} {n k : Nat} {f : Nat → Int32} (E : EE p m c cc nL s args own D (tyL B I Z)) (hP : va_P D vwCl ws H) (q0 : Nat) (ha : ws[q0]? = some (ad, .inl (Z, n, .inl f))) (hk : k < n) (hn : n ≤ 1000) (hdg : decode cc pc = .ok (.baload, 1)) (kk : W p l e R s m args below meth c H locs cells slots Q (F0 m (pc + 1) ls (.int (f k) :: rest))) : W p l e R s m args below meth c H locs cells slots Q (F0 m pc ls (.int (nI k) :: .ref ad :: rest)) :=
  va_zald E.1.1 E.1.2.1 E.2.1 hP q0 2 ha rfl (vp_in_nI hk (by omega)) hdg (by rw [nI_clamp (by omega)]; exact kk)
theorem ist {B I Z : ClassId} {n k : Nat} {f : Nat → Int32} {x : Int32} (E : EE p m c cc nL s args own D (tyL B I Z)) (hP : va_P D vwCl ws H) (hD : va_D A ws) (hS : va_S A H0 H locs) (q0 : Nat) (ha : ws[q0]? = some (ad, .inl (I, n, .inl f))) (hk : k < n) (hn : n ≤ 1000) (hdg : decode cc pc = .ok (.iastore, 1)) (kk : ∀ (H1 : Heap) (locs1 : List Loc), va_P D vwCl (ws.set q0 (ad, .inl (I, n, .inl (upd f k x)))) H1 → va_D A (ws.set q0 (ad, .inl (I, n, .inl (upd f k x)))) → va_S A H0 H1 locs1 → W p l e R s m args below meth c H1 locs1 cells slots Q (F0 m (pc + 1) ls rest)) : W p l e R s m args below meth c H locs cells slots Q (F0 m pc ls (.int x :: .int (nI k) :: .ref ad :: rest)) :=
  va_iast E.1.1 E.1.2.1 E.2.1 hP hD hS q0 1 ha rfl (vp_in_nI hk (by omega)) hdg (by rw [nI_clamp (by omega)]; exact kk)
theorem bst {B I Z : ClassId} {n k : Nat} {f : Nat → Int32} {x : Int32} (E : EE p m c cc nL s args own D (tyL B I Z)) (hP : va_P D vwCl ws H) (hD : va_D A ws) (hS : va_S A H0 H locs) (q0 : Nat) (ha : ws[q0]? = some (ad, .inl (B, n, .inl f))) (hk : k < n) (hn : n ≤ 1000) (hx8 : x.toInt8.toInt32 = x) (hdg : decode cc pc = .ok (.bastore, 1)) (kk : ∀ (H1 : Heap) (locs1 : List Loc), va_P D vwCl (ws.set q0 (ad, .inl (B, n, .inl (upd f k x)))) H1 → va_D A (ws.set q0 (ad, .inl (B, n, .inl (upd f k x)))) → va_S A H0 H1 locs1 → W p l e R s m args below meth c H1 locs1 cells slots Q (F0 m (pc + 1) ls rest)) : W p l e R s m args below meth c H locs cells slots Q (F0 m pc ls (.int x :: .int (nI k) :: .ref ad :: rest)) :=
  va_bast E.1.1 E.1.2.1 E.2.1 hP hD hS q0 0 ha rfl (vp_in_nI hk (by omega)) hdg (by rw [nI_clamp (by omega), vp_nar_byte, hx8]; exact kk)
theorem zst {B I Z : ClassId} {n k : Nat} {f : Nat → Int32} {x : Int32} (E : EE p m c cc nL s args own D (tyL B I Z)) (hP : va_P D vwCl ws H) (hD : va_D A ws) (hS : va_S A H0 H locs) (q0 : Nat) (ha : ws[q0]? = some (ad, .inl (Z, n, .inl f))) (hk : k < n) (hn : n ≤ 1000) (hx8 : vp_nar .boolean x = x) (hdg : decode cc pc = .ok (.bastore, 1)) (kk : ∀ (H1 : Heap) (locs1 : List Loc), va_P D vwCl (ws.set q0 (ad, .inl (Z, n, .inl (upd f k x)))) H1 → va_D A (ws.set q0 (ad, .inl (Z, n, .inl (upd f k x)))) → va_S A H0 H1 locs1 → W p l e R s m args below meth c H1 locs1 cells slots Q (F0 m (pc + 1) ls rest)) : W p l e R s m args below meth c H locs cells slots Q (F0 m pc ls (.int x :: .int (nI k) :: .ref ad :: rest)) :=
  va_zast E.1.1 E.1.2.1 E.2.1 hP hD hS q0 2 ha rfl (vp_in_nI hk (by omega)) hdg (by rw [nI_clamp (by omega), hx8]; exact kk)
end SUP2
