/-! constructors: a block that grows -/
def gF (E : qE) (σ : qSt) (q : Nat) : va_E := qCell E σ (qkd (eT E) q).1 (qkd (eT E) q).2
theorem gF_at {E : qE} {σ : qSt} (hT : qTok (eT E)) {k i : Nat} (h : i < qcn (eT E) k) : gF E σ (qad (eT E) k i) = qCell E σ k i := by unfold gF; rw [(hT.2.1 k i h).2]
def gC (E : qE) (σ : qSt) (B : Nat) (pre : List va_E) (j : Nat) : va_E := match pre[j]? with
  | some c => c
  | none => gF E σ (B + j)
def gW (E : qE) (σ : qSt) (B : Nat) (pre : List va_E) (N : Nat) : va_W := (List.range (N - B)).map fun j => (eo E + (B + j), gC E σ B pre j)
def gP (E : qE) (σ : qSt) (B : Nat) (pre : List va_E) (N : Nat) (H : Heap) : Prop := H.size = eo E + N ∧ B + pre.length ≤ N ∧ va_P (eD E) clz (gW E σ B pre N) H
def gA (E : qE) (B : Nat) : Nat → Prop := fun x => eo E + B ≤ x
theorem gW_get {E : qE} {σ : qSt} {B N j : Nat} {pre : List va_E} (h : B + j < N) : (gW E σ B pre N)[j]? = some (eo E + (B + j), gC E σ B pre j) := by
  simp [gW, List.getElem?_range (show j < N - B by omega)]
theorem gW_no {E : qE} {σ : qSt} {B N j : Nat} {pre : List va_E} (h : N ≤ B + j) : (gW E σ B pre N)[j]? = none := List.getElem?_eq_none (by simp [gW]; omega)
theorem gC_p {E : qE} {σ : qSt} {B j : Nat} {pre : List va_E} {c : va_E} (h : pre[j]? = some c) : gC E σ B pre j = c := by simp [gC, h]
theorem gC_f {E : qE} {σ : qSt} {B j : Nat} {pre : List va_E} (h : pre.length ≤ j) : gC E σ B pre j = gF E σ (B + j) := by simp [gC, List.getElem?_eq_none h]
theorem gW_set {E : qE} {σ : qSt} {B N j : Nat} {pre : List va_E} {c : va_E} (h : j < pre.length) : (gW E σ B pre N).set j (eo E + (B + j), c) = gW E σ B (pre.set j c) N := by
  apply List.ext_getElem?
  intro q
  by_cases hl : B + q < N
  · by_cases e : q = j
    · subst e
      rw [List.getElem?_set_self (by simp [gW]; omega), gW_get hl, gC_p (c := c) (by simp [h])]
    · rw [List.getElem?_set_ne (fun z => e z.symm), gW_get hl, gW_get hl]
      unfold gC
      rw [List.getElem?_set_ne (fun z => e z.symm)]
  · rw [List.getElem?_eq_none (by simp [gW]; omega), gW_no (by omega)]
theorem gW_D (E : qE) (σ : qSt) (B : Nat) (pre : List va_E) (N : Nat) : va_D (gA E B) (gW E σ B pre N) := by
  have key : ∀ (k : Nat) (x : Nat × va_E), (gW E σ B pre N)[k]? = some x → x.1 = eo E + (B + k) := by
    intro k x hx
    by_cases hl : B + k < N
    · rw [gW_get hl] at hx
      cases hx
      rfl
    · rw [gW_no (by omega)] at hx
      cases hx
  refine ⟨fun i j p q hi hj e => ?_, fun k q hk => ?_⟩
  · have a := key i p hi
    have b := key j q hj
    omega
  · have a := key k q hk
    show eo E + B ≤ q.1
    omega
theorem gP.push {E : qE} {σ : qSt} {B N : Nat} {pre : List va_E} {c : va_E} {H H1 : Heap} (h : gP E σ B pre N H) (ha : va_at (eD E) clz (eo E + N, c) H1) (hz : H1.size = eo E + N + 1) (ho : ∀ q, q < eo E + N → H1[q]? = H[q]?) : (B + pre.length = N → gP E σ B (pre ++ [c]) (N + 1) H1) ∧ (gF E σ N = c → gP E σ B pre (N + 1) H1) := by
  obtain ⟨h1, h2, h3⟩ := h
  refine ⟨fun e => ⟨by omega, by simp; omega, fun k x hx => ?_⟩, fun e => ⟨by omega, by omega, fun k x hx => ?_⟩⟩
  · by_cases hl : B + k < N
    · rw [gW_get (by omega)] at hx
      cases hx
      have e2 : gC E σ B (pre ++ [c]) k = gC E σ B pre k := by
        unfold gC
        rw [List.getElem?_append_left (by omega)]
      rw [e2]
      exact (h3 k _ (gW_get hl)).kept (ho _ (by show eo E + (B + k) < _; omega))
    · by_cases hl2 : B + k = N
      · rw [gW_get (by omega), gC_p (c := c) (by rw [List.getElem?_append_right (by omega), show k - pre.length = 0 by omega]; rfl)] at hx
        cases hx
        rw [hl2]
        exact ha
      · rw [gW_no (by omega)] at hx
        cases hx
  · by_cases hl : B + k < N
    · rw [gW_get (by omega)] at hx
      cases hx
      exact (h3 k _ (gW_get hl)).kept (ho _ (by show eo E + (B + k) < _; omega))
    · by_cases hl2 : B + k = N
      · rw [gW_get (by omega), gC_f (by omega)] at hx
        cases hx
        rw [hl2, e]
        exact ha
      · rw [gW_no (by omega)] at hx
        cases hx
/-- constructors that a nest mate calls -/
def nstL : List (String × Nat × MethodName × String) := [(RX10, 43, yX7_init, RX10), (RX10, 50, yX2_init, RX10), (RX10, 57, yX6_init, RX10), (RX3, 24, yX0_init, RX10), (RX10, 83, yX5_init, RX10), (RX10, 84, yX9_init, RX10), (RX10, 85, yX8_init, RX10)]
def gN (U : State) : Prop := ∀ (a : String) (i : Nat) (x : MethodName) (h : String), (a, i, x, h) ∈ nstL → va_Nw (.methodLinkNest a i x h) U
def gK (E : qE) (U : State) : Prop := va_K (eD E) clz (qTys (eca E)) U ∧ (va_AO RX5 U ∧ va_AO RX9 U ∧ va_AO RX8 U ∧ va_AO RX0 U) ∧ (Cond.arrayOver (.array .int)).before #[] U = true ∧ gN U
theorem gK.of {E : qE} {u U : State} (h : u.vm.Alike U.vm) (hn : gN u → gN U) (hK : gK E u) : gK E U := ⟨va_K.moved h hK.1, ⟨hK.2.1.1.moved h, hK.2.1.2.1.moved h, hK.2.1.2.2.1.moved h, hK.2.1.2.2.2.moved h⟩, over_moved h hK.2.2.1, hn hK.2.2.2⟩
theorem gK.same {E : qE} {u U : State} (h : u.vm = U.vm) (hK : gK E u) : gK E U := hK.of (by rw [h]; exact Vm.Alike.refl U.vm) (fun hn a i x y hm => va_Nw.same rfl h (hn a i x y hm))
theorem gK.warm {E : qE} {u U : State} (h : u.WarmedH U.vm) (hK : gK E u) : gK E U := hK.of h.alike (fun hn a i x y hm => va_Nw.warmM h (hn a i x y hm))
def gRm (n mc ms : Nat) : Room := { frames := n, cells := mc, slots := ms, locals := 40 * n }
def gPc (E : qE) (σ : qSt) (B : Nat) (c0 : va_E) : Array Value → State → Prop := va_Pc [.ref (eo E + B)] (fun U => gK E U ∧ gP E σ B [c0] (B + 1) U.heap)
def gQc (E : qE) (σ : qSt) (B N1 : Nat) : Array Value → State → Outcome → State → Prop := fun _ s o t => (o = .returned none ∧ gP E σ B [] N1 t.heap) ∧ va_F (gA E B) s t
/-- the constructor y, called on the fresh cell c0 at the end of the heap, lays the cells up to N1 -/
def CK (E : qE) (l : Launch) (y : MethodName) (b : ByteArray) (nL n mc ms : Nat) (σ : qSt) (B : Nat) (c0 : va_E) (N1 : Nat) : Prop := Met l y (.code y b nL none :: qTbl) (gRm n mc ms) (gPc E σ B c0) (gQc E σ B N1) mc ms (gA E B)
def Kx (E : qE) (l : Launch) (own : String) (cc : ByteArray) (nL n mc ms : Nat) (σ : qSt) (B N1 : Nat) (G : List va_E → Nat → Nat → Nat → List (Option qV) → List qV → Prop) : Prop :=
  ∃ (p : Program) (e : Env) (s : State) (m : MethodId) (args : Array Value) (below : List Frame) (meth : Method) (c : Code) (ws : List Cond),
    (p.tables.exec = Jvm.exec ∧ c.code = cc ∧ c.maxLocals = nL ∧ s.vm.findClass own = some m.cls ∧ ∀ w ∈ ws, w.before args s = true) ∧ (∀ w ∈ qTbl, w ∈ ws) ∧ meth.locks = false ∧ meth.sig.returnType = none ∧ meth.name = "<init>" ∧ qTok (eT E) ∧ gK E s ∧ s.heap.size = eo E + (B + 1) ∧
    G = fun pre N sl pc lv st => ∀ (H : Heap) (locs : List Loc) (ls : Array Slot), gP E σ B pre N H → va_S (gA E B) s.heap H locs → qLs E ls nL lv → W p l e (gRm n mc ms) s m args below meth c H locs (N - (B + 1)) sl (MQ below (gQc E σ B N1) args s mc ms (gA E B)) (F0 m pc ls (st.map (qv E)))
theorem W_sz {p : Program} {l : Launch} {e : Env} {R : Room} {s : State} {m : MethodId} {args : Array Value} {below : List Frame} {meth : Method} {c : Code} {H : Heap} {locs : List Loc} {cells slots : Nat} {Q : State → Prop} {g : JFrame} (k : H.size ≤ s.heap.size + cells → W p l e R s m args below meth c H locs cells slots Q g) : W p l e R s m args below meth c H locs cells slots Q g := fun T hT X => k (by rw [← hT]; exact X.heapSize) T hT X
theorem gP.of {E : qE} {σ : qSt} {B N S : Nat} {pre : List va_E} {H : Heap} (h1 : B + pre.length ≤ N) (h2 : va_P (eD E) clz (gW E σ B pre N) H) (h0 : B < N) (hS : S = eo E + (B + 1)) (h : H.size ≤ S + (N - (B + 1))) : gP E σ B pre N H := by
  have := (h2 (N - 1 - B) _ (gW_get (by omega))).lt
  simp only at this
  exact ⟨by omega, h1, h2⟩
theorem qv_a {E : qE} {k : Nat} {i : Int} {a : Nat} (h9 : (k == 99) = false) (hq : qad (eT E) k i.toNat = a) : qv E (qr k i) = .ref (eo E + a) := by
  have : ¬ k = 99 := by simpa using h9
  simp [qv, this, hq]
section
variable {E : qE} {l : Launch} {own : String} {cc : ByteArray} {nL n mc ms : Nat} {σ : qSt} {B N1 : Nat} {G : List va_E → Nat → Nat → Nat → List (Option qV) → List qV → Prop} {pre : List va_E} {N sl : Nat} {pc : Nat} {lv : List (Option qV)} {st : List qV}
theorem Kx.go {st2 : List qV} {pc2 : Nat} (C : Kx E l own cc nL n mc ms σ B N1 G) (h : ∀ (p : Program) (e : Env) (R : Room) (s : State) (m : MethodId) (args : Array Value) (below : List Frame) (meth : Method) (c : Code) (H : Heap) (locs : List Loc) (Q : State → Prop) (ls : Array Slot), p.tables.exec = Jvm.exec → c.code = cc → qLs E ls nL lv → s.vm.findClass own = some m.cls → (∀ w ∈ qTbl, w.before args s = true) → W p l e R s m args below meth c H locs (N - (B + 1)) sl Q (F0 m pc2 ls (st2.map (qv E))) → W p l e R s m args below meth c H locs (N - (B + 1)) sl Q (F0 m pc ls (st.map (qv E)))) (k : G pre N sl pc2 lv st2) : G pre N sl pc lv st := by
  obtain ⟨p, e, s, m, args, below, meth, c, ws, ⟨hx, hb, hml, ho, hw⟩, hin, hlk, hrt, hnm, hT, hK, hA, rfl⟩ := C
  intro H locs ls hP hS hl
  exact h _ _ _ _ _ _ _ _ _ _ _ _ _ hx hb hl ho (fun w h => hw w (hin w h)) (k H locs ls hP hS hl)
theorem Kx.br {st2 : List qV} {pc2 pc3 : Nat} {a b : Prop} (C : Kx E l own cc nL n mc ms σ B N1 G) (h : ∀ (p : Program) (e : Env) (R : Room) (s : State) (m : MethodId) (args : Array Value) (below : List Frame) (meth : Method) (c : Code) (H : Heap) (locs : List Loc) (Q : State → Prop) (ls : Array Slot), p.tables.exec = Jvm.exec → c.code = cc → (a → W p l e R s m args below meth c H locs (N - (B + 1)) sl Q (F0 m pc2 ls (st2.map (qv E)))) → (b → W p l e R s m args below meth c H locs (N - (B + 1)) sl Q (F0 m pc3 ls (st2.map (qv E)))) → W p l e R s m args below meth c H locs (N - (B + 1)) sl Q (F0 m pc ls (st.map (qv E)))) (kt : a → G pre N sl pc2 lv st2) (kf : b → G pre N sl pc3 lv st2) : G pre N sl pc lv st := by
  obtain ⟨p, e, s, m, args, below, meth, c, ws, ⟨hx, hb, hml, ho, hw⟩, hin, hlk, hrt, hnm, hT, hK, hA, rfl⟩ := C
  intro H locs ls hP hS hl
  exact h _ _ _ _ _ _ _ _ _ _ _ _ _ hx hb (fun q => kt q H locs ls hP hS hl) (fun q => kf q H locs ls hP hS hl)
theorem Kx.sto {lv2 : List (Option qV)} {st2 : List qV} {pc2 : Nat} (C : Kx E l own cc nL n mc ms σ B N1 G) (h : ∀ (p : Program) (e : Env) (R : Room) (s : State) (m : MethodId) (args : Array Value) (below : List Frame) (meth : Method) (c : Code) (H : Heap) (locs : List Loc) (Q : State → Prop) (ls : Array Slot), p.tables.exec = Jvm.exec → c.code = cc → qLs E ls nL lv → (∀ ls, qLs E ls nL lv2 → W p l e R s m args below meth c H locs (N - (B + 1)) sl Q (F0 m pc2 ls (st2.map (qv E)))) → W p l e R s m args below meth c H locs (N - (B + 1)) sl Q (F0 m pc ls (st.map (qv E)))) (k : G pre N sl pc2 lv2 st2) : G pre N sl pc lv st := by
  obtain ⟨p, e, s, m, args, below, meth, c, ws, ⟨hx, hb, hml, ho, hw⟩, hin, hlk, hrt, hnm, hT, hK, hA, rfl⟩ := C
  intro H locs ls hP hS hl
  exact h _ _ _ _ _ _ _ _ _ _ _ _ _ hx hb hl (fun ls2 h2 => k H locs ls2 hP hS h2)
theorem k_iconst {z : Int} (C : Kx E l own cc nL n mc ms σ B N1 G) (hd : decode cc pc = .ok (.iconst z, 1)) (k : G pre N sl (pc + 1) lv (qi z :: st)) : G pre N sl pc lv st := C.go (fun _ _ _ _ _ _ _ _ _ _ _ _ _ hx hb _ _ _ k => lv_iconst hx hb hd rfl k) k
theorem k_bipush {z : Int} (C : Kx E l own cc nL n mc ms σ B N1 G) (hd : decode cc pc = .ok (.bipush z, 2)) (k : G pre N sl (pc + 2) lv (qi z :: st)) (hv : (Int8.ofInt z).toInt32 = Int32.ofInt z := by decide) : G pre N sl pc lv st := C.go (fun _ _ _ _ _ _ _ _ _ _ _ _ _ hx hb _ _ _ k => lv_bipush hx hb hd hv k) k
theorem k_sipush {z : Int} (C : Kx E l own cc nL n mc ms σ B N1 G) (hd : decode cc pc = .ok (.sipush z, 3)) (k : G pre N sl (pc + 3) lv (qi z :: st)) (hv : (Int16.ofInt z).toInt32 = Int32.ofInt z := by decide) : G pre N sl pc lv st := C.go (fun _ _ _ _ _ _ _ _ _ _ _ _ _ hx hb _ _ _ k => lv_sipush hx hb hd hv k) k
theorem k_iload_n {i : Fin 4} {z : Int} (C : Kx E l own cc nL n mc ms σ B N1 G) (hd : decode cc pc = .ok (.iload_n i, 1)) (hl : lv[(i : Nat)]? = some (some (qi z))) (k : G pre N sl (pc + 1) lv (qi z :: st)) : G pre N sl pc lv st := C.go (fun _ _ _ _ _ _ _ _ _ _ _ _ _ hx hb h _ _ k => lv_iload_n hx hb hd rfl (h.at hl) k) k
theorem k_aload_n {i : Fin 4} {q : Nat} {z : Int} (C : Kx E l own cc nL n mc ms σ B N1 G) (hd : decode cc pc = .ok (.aload_n i, 1)) (hl : lv[(i : Nat)]? = some (some (qr q z))) (k : G pre N sl (pc + 1) lv (qr q z :: st)) : G pre N sl pc lv st := C.go (fun _ _ _ _ _ _ _ _ _ _ _ _ _ hx hb h _ _ k => by
  obtain ⟨x, hx2⟩ := qv_ref E q z
  have h2 := h.at hl
  simp only [List.map_cons] at k
  rw [hx2] at h2 k
  exact lv_aload_n hx hb hd rfl h2 k) k
theorem k_istore_n {i : Fin 4} {z : Int} {lv2 : List (Option qV)} (C : Kx E l own cc nL n mc ms σ B N1 G) (hd : decode cc pc = .ok (.istore_n i, 1)) (hl : qSet lv i (some (qi z)) = some lv2) (ho : qOk lv i = true) (hn : (i : Nat) < nL) (k : G pre N sl (pc + 1) lv2 st) : G pre N sl pc lv (qi z :: st) := C.sto (fun _ _ _ _ _ _ _ _ _ _ _ _ _ hx hb h k => lv_istore_n hx hb hd rfl h hn rfl (fun ls h2 => k ls (qLs.set1 (v := qi z) hl ho h2))) k
theorem k_iinc {i : Nat} {d z : Int} {lv2 : List (Option qV)} (C : Kx E l own cc nL n mc ms σ B N1 G) (hd : decode cc pc = .ok (.iinc i d, 3)) (h0 : lv[i]? = some (some (qi z))) (hl : qSet lv i (some (qi (z + d))) = some lv2) (ho : qOk lv i = true) (hn : i < nL) (k : G pre N sl (pc + 3) lv2 st) : G pre N sl pc lv st := C.sto (fun _ _ _ _ _ _ _ _ _ _ _ _ _ hx hb h k => by
  obtain ⟨j, hj⟩ := qAs_at (E := E) h0
  exact lv_iinc hx hb hd h hj (z_add z d) hn rfl (fun ls h2 => k ls (qLs.set1 (v := qi (z + d)) hl ho h2))) k
theorem k_iadd {a b : Int} (C : Kx E l own cc nL n mc ms σ B N1 G) (hd : decode cc pc = .ok (.iadd, 1)) (k : G pre N sl (pc + 1) lv (qi (a + b) :: st)) : G pre N sl pc lv (qi b :: qi a :: st) := C.go (fun _ _ _ _ _ _ _ _ _ _ _ _ _ hx hb _ _ _ k => lv_iadd hx hb hd (by rw [z_add]; exact k)) k
theorem k_dup {v : qV} (C : Kx E l own cc nL n mc ms σ B N1 G) (hd : decode cc pc = .ok (.dup, 1)) (k : G pre N sl (pc + 1) lv (v :: v :: st)) (hv : ∀ z, v ≠ ql z := by intro z h; cases h) : G pre N sl pc lv (v :: st) := C.go (fun _ _ _ _ _ _ _ _ _ _ _ _ _ hx hb _ _ _ k => lv_dup hx hb hd (qv_cat E v hv) k) k
theorem k_goto {off : Int} (tgt : Nat) (C : Kx E l own cc nL n mc ms σ B N1 G) (hd : decode cc pc = .ok (.goto off, 3)) (ht : (pc : Int) + off = (tgt : Int)) (k : G pre N sl tgt lv st) : G pre N sl pc lv st := C.go (fun _ _ _ _ _ _ _ _ _ _ _ _ _ hx hb _ _ _ k => lv_goto hx hb hd ht k) k
theorem k_ic_ge {a b off : Int} (tgt : Nat) (C : Kx E l own cc nL n mc ms σ B N1 G) (hd : decode cc pc = .ok (.if_icmp .ge off, 3)) (ht : (pc : Int) + off = (tgt : Int)) (ha : InI a) (hb' : InI b) (kt : ¬ a < b → G pre N sl tgt lv st) (kf : a < b → G pre N sl (pc + 3) lv st) : G pre N sl pc lv (qi b :: qi a :: st) := C.br (fun _ _ _ _ _ _ _ _ _ _ _ _ _ hx hb kt kf => lv_icmp_ge hx hb hd ht (fun h => kt (by have := (z_le hb' ha).mp h; omega)) (fun h => kf (by have : ¬ (b ≤ a) := fun q => h ((z_le hb' ha).mpr q); omega))) kt kf
theorem k_oinit {ix : Nat} {v : qV} (C : Kx E l own cc nL n mc ms σ B N1 G) (hd : decode cc pc = .ok (.invokespecial ix, 3)) (hm : Cond.methodLink own ix objectInit ∈ qTbl) (h1 : Cond.instanceMethod objectInit ∈ qTbl) (h2 : Cond.code objectInit ⟨#[0xb1]⟩ 1 none ∈ qTbl) (hv : ∃ x, qv E v = .ref x) (hn : 1 ≤ n) (kk : G pre N sl (pc + 3) lv []) : G pre N sl pc lv [v] := by
  obtain ⟨p, e, s, m, args, below, meth, cd, ws, ⟨hx, hb, hml, ho, hw⟩, hin, hlk, hrt, hnm, hT, hK, hA, rfl⟩ := C
  intro H locs ls hP hS hl
  obtain ⟨x, hv⟩ := hv
  simp only [List.map_cons, hv]
  refine W.objInit hx hb ho (hw _ (hin _ hm)) (hw _ (hin _ h1)) (hw _ (hin _ h2)) rfl (by rw [hml]; exact hl.1) rfl hd hn ?_ (kk H locs ls hP hS hl)
  show 2 * 0 + 0 + 12 ≤ 40 * n
  omega
theorem k_get_r {ix ci j j0 k k2 : Nat} {i i2 : Int} {fs : List Value} (C : Kx E l own cc nL n mc ms σ B N1 G) (hd : decode cc pc = .ok (.getfield ix, 3)) (hf : qFl own ix ci j) (h9 : (k == 99) = false) (hq : qad (eT E) k i.toNat = B + j0) (hp : pre[j0]? = some (.inr (ci, fs))) (h92 : (k2 == 99) = false) (hv : fs[j]? = some (.ref (eo E + qad (eT E) k2 i2.toNat))) (kk : G pre N sl (pc + 3) lv (qr k2 i2 :: st)) : G pre N sl pc lv (qr k i :: st) := by
  obtain ⟨p, e, s, m, args, below, meth, cd, ws, ⟨hx, hb, hml, ho, hw⟩, hin, hlk, hrt, hnm, hT, hK, hA, rfl⟩ := C
  intro H locs ls hP hS hl
  obtain ⟨z1, z2, z3⟩ := id hP
  have hj := (List.getElem?_eq_some_iff.mp hp).1
  have hg := gW_get (E := E) (σ := σ) (pre := pre) (N := N) (B := B) (j := j0) (by omega)
  rw [gC_p hp] at hg
  obtain ⟨CC, T, NN, ⟨h1, h2, h3, h4⟩, h5, h6, h7⟩ := hf
  simp only [List.map_cons, qv_a h9 hq]
  refine va_get (D := eD E) (cl := clz) (ci := ci) (C := CC) (T := T) (N := NN) (ref := CC) hx hb (fun w h => hw w (hin w h)) h2 ho hK.1 z3 _ hg h1 j h5 (hw _ (hin _ h7)) (fun x h => by rw [h6] at h; exact h) hv hd ?_
  have := kk H locs ls hP hS hl
  simp only [List.map_cons, qv_a h92 rfl] at this
  exact this
def qFf (own : String) (ix ci j : Nat) (ty : FieldType) : Prop := ∃ (T : u_T) (N : Nat), qCls ci own T N ∧ j < N ∧ (T j).1 = own ∧ Cond.fieldLink own ix own (T j).2.1 (T j).2.2.1 ∈ qTbl ∧ (T j).2.2.2 = true ∧ parseFieldDescriptor (T j).2.2.1 = some ty
theorem k_putF {ix ci j j0 k : Nat} {i : Int} {fs : List Value} {v : qV} {ty : FieldType} (C : Kx E l own cc nL n mc ms σ B N1 G) (hd : decode cc pc = .ok (.putfield ix, 3)) (hf : qFf own ix ci j ty) (h9 : (k == 99) = false) (hq : qad (eT E) k i.toNat = B + j0) (hp : pre[j0]? = some (.inr (ci, fs))) (hn : narrow ty (qv E v) = qv E v) (hft : fits ty (qv E v) = true) (hlen : j < fs.length) (kk : G (pre.set j0 (.inr (ci, fs.set j (qv E v)))) N sl (pc + 3) lv st) : G pre N sl pc lv (v :: qr k i :: st) := by
  obtain ⟨p, e, s, m, args, below, meth, cd, ws, ⟨hx, hb, hml, ho, hw⟩, hin, hlk, hrt, hnm, hT, hK, hA, rfl⟩ := C
  intro H locs ls hP hS hl
  obtain ⟨z1, z2, z3⟩ := hP
  have hj := (List.getElem?_eq_some_iff.mp hp).1
  have hg := gW_get (E := E) (σ := σ) (pre := pre) (N := N) (B := B) (j := j0) (by omega)
  rw [gC_p hp] at hg
  obtain ⟨T, NN, ⟨h1, h2, ⟨ty0, h3⟩, h4⟩, h5, h6, h7, h8, h10⟩ := hf
  simp only [List.map_cons, qv_a h9 hq]
  refine va_putF (D := eD E) (cl := clz) (ci := ci) (C := own) (T := T) (N := NN) (ref := own) (A := gA E B) hx hb (fun w h => hw w (hin w h)) h2 ty0 h3 h4 ho hK.1 z3 (gW_D E σ B pre N) hS _ hg h1 j h5 (hw _ (hin _ h7)) (fun x h => by rw [h6] at h; exact h) h8 hnm h6 h10 hn hft hlen hd (fun H1 locs1 hP1 _ hS1 => ?_)
  rw [gW_set hj] at hP1
  exact W_sz (fun hsz => kk H1 locs1 ls (gP.of (by rw [List.length_set]; exact z2) hP1 (by omega) hA hsz) hS1 hl)
theorem k_putI {ix ci j j0 k : Nat} {i z : Int} {fs : List Value} {ty : FieldType} (C : Kx E l own cc nL n mc ms σ B N1 G) (hd : decode cc pc = .ok (.putfield ix, 3)) (hf : qFw own ix ci j ty) (h9 : (k == 99) = false) (hq : qad (eT E) k i.toNat = B + j0) (hp : pre[j0]? = some (.inr (ci, fs))) (hn : narrow ty (.int (Int32.ofInt z)) = .int (Int32.ofInt z)) (hft : fits ty (.int (Int32.ofInt z)) = true) (hlen : j < fs.length) (kk : G (pre.set j0 (.inr (ci, fs.set j (.int (Int32.ofInt z))))) N sl (pc + 3) lv st) : G pre N sl pc lv (qi z :: qr k i :: st) := by
  obtain ⟨p, e, s, m, args, below, meth, cd, ws, ⟨hx, hb, hml, ho, hw⟩, hin, hlk, hrt, hnm, hT, hK, hA, rfl⟩ := C
  intro H locs ls hP hS hl
  obtain ⟨z1, z2, z3⟩ := hP
  have hj := (List.getElem?_eq_some_iff.mp hp).1
  have hg := gW_get (E := E) (σ := σ) (pre := pre) (N := N) (B := B) (j := j0) (by omega)
  rw [gC_p hp] at hg
  obtain ⟨CC, T, NN, ⟨h1, h2, ⟨ty0, h3⟩, h4⟩, h5, h6, h7, h8, h10⟩ := hf
  simp only [List.map_cons, qv_a h9 hq]
  refine va_put (D := eD E) (cl := clz) (ci := ci) (C := CC) (T := T) (N := NN) (ref := CC) (A := gA E B) hx hb (fun w h => hw w (hin w h)) h2 ty0 h3 h4 ho hK.1 z3 (gW_D E σ B pre N) hS _ hg h1 j h5 (hw _ (hin _ h7)) (fun x h => by rw [h6] at h; exact h) h8 h10 hn hft hlen hd (fun H1 locs1 hP1 _ hS1 => ?_)
  rw [gW_set hj] at hP1
  exact W_sz (fun hsz => kk H1 locs1 ls (gP.of (by rw [List.length_set]; exact z2) hP1 (by omega) hA hsz) hS1 hl)
def gAr (E : qE) (n : Nat) (g : Int → Int) : va_E := .inl (eca E 0, n, .inl fun j : Nat => Int32.ofInt (g j))
def gLr (E : qE) (n : Nat) : va_E := .inl (eca E 1, n, .inr (.inl fun _ => Int64.ofInt 0))
def gRf (E : qE) (ek n : Nat) (f : Nat → Option Nat) : va_E := .inl (eca E ek, n, .inr (.inr (.inr (.inr f))))
theorem k_iast {j0 k L : Nat} {i z w : Int} {g : Int → Int} (C : Kx E l own cc nL n mc ms σ B N1 G) (hd : decode cc pc = .ok (.iastore, 1)) (h9 : (k == 99) = false) (hq : qad (eT E) k i.toNat = B + j0) (hp : pre[j0]? = some (gAr E L g)) (hz : 0 ≤ z ∧ z < L) (kk : G (pre.set j0 (gAr E L (updF g z w))) N sl (pc + 1) lv st) (hL : L < 2147483648 := by decide) : G pre N sl pc lv (qi w :: qi z :: qr k i :: st) := by
  obtain ⟨p, e, s, m, args, below, meth, cd, ws, ⟨hx, hb, hml, ho, hw⟩, hin, hlk, hrt, hnm, hT, hK, hA, rfl⟩ := C
  intro H locs ls hP hS hl
  obtain ⟨z1, z2, z3⟩ := hP
  have hj := (List.getElem?_eq_some_iff.mp hp).1
  have hg := gW_get (E := E) (σ := σ) (pre := pre) (N := N) (B := B) (j := j0) (by omega)
  rw [gC_p hp] at hg
  simp only [List.map_cons, qv_a h9 hq]
  refine va_iast (D := eD E) (cl := clz) (A := gA E B) hx hb hK.1 z3 (gW_D E σ B pre N) hS _ 0 hg rfl (z_in hz.1 hz.2 hL) hd (fun H1 locs1 hP1 _ hS1 => ?_)
  have e1 : upd (fun j : Nat => Int32.ofInt (g j)) (Int32.ofInt z).toNatClampNeg (Int32.ofInt w) = fun j : Nat => Int32.ofInt (updF g z w j) := by
    funext j
    rw [z_nat hz.1 (by omega)]
    by_cases hj : j = z.toNat
    · have h2 : (j : Int) = z := by omega
      simp [upd, hj, updF, Int.toNat_of_nonneg hz.1]
    · have h2 : ¬ (j : Int) = z := by omega
      simp [upd, hj, updF, h2]
  rw [e1, gW_set hj] at hP1
  exact W_sz (fun hsz => kk H1 locs1 ls (gP.of (by rw [List.length_set]; exact z2) hP1 (by omega) hA hsz) hS1 hl)
theorem k_aast {j0 jv k tk ek ci L : Nat} {i i2 z : Int} {f : Nat → Option Nat} {r : vw_C} {vs : List Value} (C : Kx E l own cc nL n mc ms σ B N1 G) (hd : decode cc pc = .ok (.aastore, 1)) (h9 : (k == 99) = false) (hq : qad (eT E) k i.toNat = B + j0) (h92 : (tk == 99) = false) (hq2 : qad (eT E) tk i2.toNat = B + jv) (hp : pre[j0]? = some (gRf E ek L f)) (hjv : pre.length ≤ jv) (hjn : B + jv < N) (hvs : gF E σ (B + jv) = .inr (ci, vs)) (ht : (qTys (eca E))[ek]? = some (eca E ek, .object r.1)) (hc : clz[ci]? = some r) (hz : 0 ≤ z ∧ z < L) (kk : G (pre.set j0 (gRf E ek L (va_up f z.toNat (some (eo E + (B + jv)))))) N sl (pc + 1) lv st) (hL : L < 2147483648 := by decide) : G pre N sl pc lv (qr tk i2 :: qi z :: qr k i :: st) := by
  obtain ⟨p, e, s, m, args, below, meth, cd, ws, ⟨hx, hb, hml, ho, hw⟩, hin, hlk, hrt, hnm, hT, hK, hA, rfl⟩ := C
  intro H locs ls hP hS hl
  obtain ⟨z1, z2, z3⟩ := hP
  have hj := (List.getElem?_eq_some_iff.mp hp).1
  have hg := gW_get (E := E) (σ := σ) (pre := pre) (N := N) (B := B) (j := j0) (by omega)
  rw [gC_p hp] at hg
  have hg2 := gW_get (E := E) (σ := σ) (pre := pre) (N := N) (B := B) (j := jv) hjn
  rw [gC_f hjv, hvs] at hg2
  simp only [List.map_cons, qv_a h9 hq, qv_a h92 hq2]
  refine va_astq (D := eD E) (cl := clz) (A := gA E B) (r := r) hx hb hK.1 z3 (gW_D E σ B pre N) hS _ ek _ ci hg ht hg2 hc (z_in hz.1 hz.2 hL) hd (fun H1 locs1 hP1 _ hS1 => ?_)
  rw [z_nat hz.1 (by omega), gW_set hj] at hP1
  exact W_sz (fun hsz => kk H1 locs1 ls (gP.of (by rw [List.length_set]; exact z2) hP1 (by omega) hA hsz) hS1 hl)
theorem va_S.grow {A : Nat → Prop} {H0 H H1 : Heap} {locs : List Loc} (hS : va_S A H0 H locs) (hz : H.size ≤ H1.size) (ho : ∀ q, q < H.size → H1[q]? = H[q]?) : va_S A H0 H1 locs := ⟨Nat.le_trans hS.1 hz, fun q h1 h2 => (ho q (Nat.lt_of_lt_of_le h1 hS.1)).trans (hS.2.1 q h1 h2), hS.2.2⟩
theorem k_newa {k L : Nat} {i : Int} (C : Kx E l own cc nL n mc ms σ B N1 G) (hd : decode cc pc = .ok (.newarray .int, 2)) (hac : Cond.arrayClass .int ∈ qTbl) (h9 : (k == 99) = false) (hq : qad (eT E) k i.toNat = N) (hcs : N + 1 - (B + 1) ≤ mc ∧ sl + L ≤ ms) (hL : L * 4 ≤ 536870912) (kk : (B + pre.length = N ∧ G (pre ++ [gAr E L (fun _ => 0)]) (N + 1) (sl + L) (pc + 2) lv (qr k i :: st)) ∨ (gF E σ N = gAr E L (fun _ => 0) ∧ G pre (N + 1) (sl + L) (pc + 2) lv (qr k i :: st))) : G pre N sl pc lv (qi (L : Int) :: st) := by
  obtain ⟨p, e, s, m, args, below, meth, cd, ws, ⟨hx, hb, hml, ho, hw⟩, hin, hlk, hrt, hnm, hT, hK, hA, rfl⟩ := C
  intro H locs ls hP hS hl
  have hsz := hP.1
  have hle := hS.1
  have e0 : N + 1 - (B + 1) = N - (B + 1) + 1 := by omega
  rw [e0] at hcs
  have hcl : s.vm.findClass ("[" ++ (FieldType.int).toString) = some (eca E 0) := (hK.1.2 0 _ rfl).2
  refine W.newa (atype := .int) hx hb (hw _ (hin _ hac)) rfl hd (n := Int32.ofInt (L : Int)) (rest := st.map (qv E)) rfl (by rw [z_0, z_lt ⟨by omega, by omega⟩ (by decide)]; omega) (by rw [z_nat (by omega) (by omega)]; simp only [Int.toNat_natCast]; exact hL) hcs.1 (by rw [z_nat (by omega) (by omega)]; simp only [Int.toNat_natCast]; exact hcs.2) (fun cA kA comp f1 f2 f3 => ?_)
  rw [z_nat (by omega) (by omega), Int.toNat_natCast]
  cases hcl.symm.trans f1
  generalize hH1 : H.push ({ cls := eca E 0, slots := Array.replicate L (defaultValue (newarray.typeOf .int)), vm := .none } : Cell) = H1
  have z1 : H1.size = H.size + 1 := by rw [← hH1, Array.size_push]
  have e1 : H1[eo E + N]? = some (vp_cell (eca E 0) (L, .inl fun _ : Nat => Int32.ofInt 0)) := by rw [← hH1, ← hsz, Array.getElem?_push_size, arrV_new]; rfl
  have o1 : ∀ q : Nat, q < H.size → H1[q]? = H[q]? := fun q hq => by rw [← hH1, Array.getElem?_push, if_neg (Nat.ne_of_lt hq)]
  have hp := hP.push (c := gAr E L (fun _ => 0)) (H1 := H1) e1 (by omega) (fun q h => o1 q (by omega))
  have hS1 := hS.grow (by omega) o1
  rw [hsz]
  rcases kk with ⟨a, kk⟩ | ⟨a, kk⟩
  · have := kk H1 locs ls (hp.1 a) hS1 hl
    simp only [List.map_cons, qv_a h9 hq] at this
    rw [e0] at this
    exact this
  · have := kk H1 locs ls (hp.2 a) hS1 hl
    simp only [List.map_cons, qv_a h9 hq] at this
    rw [e0] at this
    exact this
theorem k_newl {k L : Nat} {i : Int} (C : Kx E l own cc nL n mc ms σ B N1 G) (hd : decode cc pc = .ok (.newarray .long, 2)) (hac : Cond.arrayClass .long ∈ qTbl) (h9 : (k == 99) = false) (hq : qad (eT E) k i.toNat = N) (hcs : N + 1 - (B + 1) ≤ mc ∧ sl + L ≤ ms) (hL : L * 8 ≤ 536870912) (hF : gF E σ N = gLr E L) (kk : G pre (N + 1) (sl + L) (pc + 2) lv (qr k i :: st)) : G pre N sl pc lv (qi (L : Int) :: st) := by
  obtain ⟨p, e, s, m, args, below, meth, cd, ws, ⟨hx, hb, hml, ho, hw⟩, hin, hlk, hrt, hnm, hT, hK, hA, rfl⟩ := C
  intro H locs ls hP hS hl
  have hsz := hP.1
  have hle := hS.1
  have e0 : N + 1 - (B + 1) = N - (B + 1) + 1 := by omega
  rw [e0] at hcs
  have hcl : s.vm.findClass ("[" ++ (FieldType.long).toString) = some (eca E 1) := (hK.1.2 1 _ rfl).2
  refine W.newa (atype := .long) hx hb (hw _ (hin _ hac)) rfl hd (n := Int32.ofInt (L : Int)) (rest := st.map (qv E)) rfl (by rw [z_0, z_lt ⟨by omega, by omega⟩ (by decide)]; omega) (by rw [z_nat (by omega) (by omega)]; simp only [Int.toNat_natCast]; exact hL) hcs.1 (by rw [z_nat (by omega) (by omega)]; simp only [Int.toNat_natCast]; exact hcs.2) (fun cA kA comp f1 f2 f3 => ?_)
  rw [z_nat (by omega) (by omega), Int.toNat_natCast]
  cases hcl.symm.trans f1
  generalize hH1 : H.push ({ cls := eca E 1, slots := Array.replicate L (defaultValue (newarray.typeOf .long)), vm := .none } : Cell) = H1
  have z1 : H1.size = H.size + 1 := by rw [← hH1, Array.size_push]
  have e1 : H1[eo E + N]? = some (vp_cell (eca E 1) (L, .inr (.inl fun _ : Nat => Int64.ofInt 0))) := by rw [← hH1, ← hsz, Array.getElem?_push_size, arrV_new]; rfl
  have o1 : ∀ q : Nat, q < H.size → H1[q]? = H[q]? := fun q hq => by rw [← hH1, Array.getElem?_push, if_neg (Nat.ne_of_lt hq)]
  have hp := hP.push (c := gLr E L) (H1 := H1) e1 (by omega) (fun q h => o1 q (by omega))
  have hS1 := hS.grow (by omega) o1
  rw [hsz]
  have := kk H1 locs ls (hp.2 hF) hS1 hl
  simp only [List.map_cons, qv_a h9 hq] at this
  rw [e0] at this
  exact this
theorem k_anew {k L ix ek : Nat} {i : Int} {CN : String} (C : Kx E l own cc nL n mc ms σ B N1 G) (hd : decode cc pc = .ok (.anewarray ix, 3)) (hlk2 : Cond.classLink own ix CN ∈ qTbl) (hao : ∀ U : State, gK E U → va_AO CN U) (ht : (qTys (eca E))[ek]? = some (eca E ek, .object CN)) (h9 : (k == 99) = false) (hq : qad (eT E) k i.toNat = N) (hcs : N + 1 - (B + 1) ≤ mc ∧ sl + L ≤ ms) (hL : L * 4 ≤ 536870912) (hBN : B + pre.length = N) (kk : G (pre ++ [gRf E ek L (fun _ => none)]) (N + 1) (sl + L) (pc + 3) lv (qr k i :: st)) : G pre N sl pc lv (qi (L : Int) :: st) := by
  obtain ⟨p, e, s, m, args, below, meth, cd, ws, ⟨hx, hb, hml, ho, hw⟩, hin, hlk, hrt, hnm, hT, hK, hA, rfl⟩ := C
  intro H locs ls hP hS hl
  have hsz := hP.1
  have hle := hS.1
  have e0 : N + 1 - (B + 1) = N - (B + 1) + 1 := by omega
  rw [e0] at hcs
  obtain ⟨kA0, comp0, c1, c2, c3, hcl⟩ := (hK.1.2 ek _ ht).2
  refine W.anew hx hb ho (hw _ (hin _ hlk2)) (va_AO.use (hao s hK)) rfl hd (n := Int32.ofInt (L : Int)) (rest := st.map (qv E)) rfl (by rw [z_0, z_lt ⟨by omega, by omega⟩ (by decide)]; omega) (by rw [z_nat (by omega) (by omega)]; simp only [Int.toNat_natCast]; exact hL) hcs.1 (by rw [z_nat (by omega) (by omega)]; simp only [Int.toNat_natCast]; exact hcs.2) (fun cA kA comp f1 f2 f3 f4 => ?_)
  rw [z_nat (by omega) (by omega), Int.toNat_natCast]
  have ecA : cA = eca E ek := Option.some.inj (f1.symm.trans hcl)
  subst ecA
  generalize hH1 : H.push ({ cls := eca E ek, slots := Array.replicate L .null, vm := .none } : Cell) = H1
  have z1 : H1.size = H.size + 1 := by rw [← hH1, Array.size_push]
  have e1 : H1[eo E + N]? = some (vp_cell (eca E ek) (L, .inr (.inr (.inr (.inr fun _ : Nat => none))))) := by rw [← hH1, ← hsz, Array.getElem?_push_size, arrV_new]; rfl
  have o1 : ∀ q : Nat, q < H.size → H1[q]? = H[q]? := fun q hq => by rw [← hH1, Array.getElem?_push, if_neg (Nat.ne_of_lt hq)]
  have hp := hP.push (c := gRf E ek L (fun _ => none)) (H1 := H1) e1 (by omega) (fun q h => o1 q (by omega))
  have hS1 := hS.grow (by omega) o1
  rw [hsz]
  have := kk H1 locs ls (hp.1 hBN) hS1 hl
  simp only [List.map_cons, qv_a h9 hq] at this
  rw [e0] at this
  exact this
theorem k_vret (C : Kx E l own cc nL n mc ms σ B N1 G) (hd : decode cc pc = .ok (.return_, 1)) (hN : N = N1) (hB : B < N) (hcs : N - (B + 1) ≤ mc ∧ sl ≤ ms) (hpre : ∀ (j : Nat) (c : va_E) (H : Heap), pre[j]? = some c → va_at (eD E) clz (eo E + (B + j), c) H → va_at (eD E) clz (eo E + (B + j), gF E σ (B + j)) H) : G pre N sl pc lv [] := by
  obtain ⟨p, e, s, m, args, below, meth, cd, ws, ⟨hx, hb, hml, ho, hw⟩, hin, hlk, hrt, hnm, hT, hK, hA, rfl⟩ := C
  intro H locs ls hP hS hl
  subst hN
  obtain ⟨z1, z2, z3⟩ := hP
  refine W.widen (k := mc) (n := ms) hcs.1 hcs.2 ?_
  refine W.vret hx hb hrt (fun t ht hW => ⟨⟨rfl, ?_⟩, hS.F ht⟩) hS.2.2 hd
  rw [ht]
  refine ⟨z1, by simp; omega, fun k x hx => ?_⟩
  by_cases hl2 : B + k < N
  · rw [gW_get hl2, gC_f (by simp)] at hx
    cases hx
    have h3 := z3 k _ (gW_get hl2)
    cases hpk : pre[k]? with
    | none =>
      have : gC E σ B pre k = gF E σ (B + k) := by simp [gC, hpk]
      rw [this] at h3
      exact h3
    | some c =>
      rw [gC_p hpk] at h3
      exact hpre k c H hpk h3
  · rw [gW_no (by omega)] at hx
    cases hx
end
theorem CK.mk {E : qE} {l : Launch} {y : MethodName} {b : ByteArray} {nL n mc ms : Nat} {σ : qSt} {B N1 k i : Nat} {c0 : va_E} (hT : qTok (eT E)) (hy : plainName y.cls = true) (hyn : y.name = "<init>") (h9 : (k == 99) = false) (hq : qad (eT E) k i = B) (hnL : 1 ≤ nL) (h : ∀ G, Kx E l y.cls b nL n mc ms σ B N1 G → G [c0] (B + 1) 0 0 (some (qr k i) :: List.replicate (nL - 1) none) []) : CK E l y b nL n mc ms σ B c0 N1 := by
  refine Met.ofW (cc := b) (maxL := nL) (ret := none) hy rfl ?_
  intro p e s m args below meth c s₁ Bd0 hml hv
  obtain ⟨rfl, hK, hP⟩ := hv
  rw [lg_entry_eq]
  have hin : meth.name = "<init>" := ((name_of_methodNamed Bd0.named Bd0.method).1).trans hyn
  have := h _ ⟨p, e, s, m, _, below, meth, c, _, ⟨Bd0.exec, Bd0.bytes, hml, findClass_of_methodNamed Bd0.named, atoms_spec Bd0.pre⟩, fun w hw => List.mem_cons_of_mem _ hw, Bd0.notSynchronized, Bd0.returns, hin, hT, hK, hP.1, rfl⟩ s.heap [] (lg_sl [Value.ref (eo E + B)] ++ List.replicate (nL - (lg_sl [Value.ref (eo E + B)]).length) Slot.unset).toArray hP va_S.rf ?_
  · rw [Nat.sub_self] at this
    exact this
  · unfold qLs
    have e1 := qEnt_as E [qr k i] 0 (nL - 1)
    have e2 : qv E (qr k i) = .ref (eo E + B) := qv_a h9 (by rw [Int.toNat_natCast]; exact hq)
    have e3 : qEnt [qr k (i : Int)] ++ List.replicate (nL - 1) none = some (qr k i) :: List.replicate (nL - 1) none := rfl
    rw [e3] at e1
    rw [e1]
    have := lv_entry ([Value.ref (eo E + B)]) (n := nL) (by simpa [lg_sl, Value.category] using hnL)
    simp only [List.map_cons, List.map_nil, e2]
    exact this
