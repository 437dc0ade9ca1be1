/-! the tables' words that stay good at every call -/
def qTbl : List Cond := lw_tbl.filter goodWord
theorem qin {w : Cond} (i : Nat) (h : lw_tbl[i]? = some w) (hg : goodWord w = true) : w ∈ qTbl := List.mem_filter.mpr ⟨List.mem_of_getElem? h, hg⟩
/-! numbers -/
theorem z_add (a b : Int) : Int32.ofInt a + Int32.ofInt b = Int32.ofInt (a + b) := (Int32.ofInt_add a b).symm
theorem z_mul (a b : Int) : Int32.ofInt a * Int32.ofInt b = Int32.ofInt (a * b) := (Int32.ofInt_mul a b).symm
theorem z_sub (a b : Int) : Int32.ofInt a - Int32.ofInt b = Int32.ofInt (a - b) := (Int32.ofInt_sub a b).symm
theorem zl_add (a b : Int) : Int64.ofInt a + Int64.ofInt b = Int64.ofInt (a + b) := (Int64.ofInt_add a b).symm
abbrev InI (z : Int) : Prop := -2147483648 ≤ z ∧ z < 2147483648
abbrev InL (z : Int) : Prop := -9223372036854775808 ≤ z ∧ z < 9223372036854775808
theorem z_toInt {z : Int} (h : InI z) : (Int32.ofInt z).toInt = z := by
  rw [Int32.toInt_ofInt]
  exact Int.bmod_eq_of_le (by simp [Int32.size]; omega) (by simp [Int32.size]; omega)
theorem zl_toInt {z : Int} (h : InL z) : (Int64.ofInt z).toInt = z := by
  rw [Int64.toInt_ofInt]
  exact Int.bmod_eq_of_le (by simp [Int64.size]; omega) (by simp [Int64.size]; omega)
theorem z_lt {a b : Int} (ha : InI a) (hb : InI b) : Int32.ofInt a < Int32.ofInt b ↔ a < b := by
  rw [Int32.lt_iff_toInt_lt, z_toInt ha, z_toInt hb]
theorem z_le {a b : Int} (ha : InI a) (hb : InI b) : Int32.ofInt a ≤ Int32.ofInt b ↔ a ≤ b := by
  rw [Int32.le_iff_toInt_le, z_toInt ha, z_toInt hb]
theorem z_eq {a b : Int} (ha : InI a) (hb : InI b) : Int32.ofInt a = Int32.ofInt b ↔ a = b := by
  rw [← Int32.toInt_inj, z_toInt ha, z_toInt hb]
theorem z_0 : (0 : Int32) = Int32.ofInt 0 := rfl
theorem z_nat {z : Int} (h0 : 0 ≤ z) (h : z < 2147483648) : (Int32.ofInt z).toNatClampNeg = z.toNat := by
  show (Int32.ofInt z).toInt.toNat = z.toNat
  rw [z_toInt ⟨by omega, h⟩]
theorem z_in {z : Int} {N : Nat} (h0 : 0 ≤ z) (h : z < N) (hN : N < 2147483648) : vp_in (Int32.ofInt z) N := by
  unfold vp_in
  rw [z_nat h0 (by omega), z_0, z_lt ⟨by omega, by omega⟩ (by decide)]
  omega
/-! the judgement -/
def qRm (n : Nat) : Room := { frames := n, cells := 0, slots := 0, locals := 40 * n }
def qPc (E : qE) (av : List qV) (σ : qSt) : Array Value → State → Prop := va_Pc (av.map (qv E)) (fun U => qWok E U U.heap ∧ va_P (eD E) clz (qBlk E σ) U.heap)
def qQc (E : qE) (Ret : Option qV → qSt → Prop) : Array Value → State → Outcome → State → Prop := fun _ s o t => (∃ (r : Option qV) (σ' : qSt), o = .returned (r.map (qv E)) ∧ Ret r σ' ∧ va_P (eD E) clz (qBlk E σ') t.heap) ∧ va_F (eA E) s t
/-- called with av in the state σ, y returns, and Ret holds of the answer and the state behind it -/
def CM (E : qE) (l : Launch) (y : MethodName) (b : ByteArray) (nL : Nat) (rt : Option FieldType) (n : Nat) (av : List qV) (σ : qSt) (Ret : Option qV → qSt → Prop) : Prop := Met l y (.code y b nL rt :: qTbl) (qRm n) (qPc E av σ) (qQc E Ret) 0 0 (eA E)
def Cx (E : qE) (l : Launch) (own : String) (cc : ByteArray) (nL : Nat) (rt : Option FieldType) (n : Nat) (Ret : Option qV → qSt → Prop) (G : qSt → Nat → List (Option qV) → List qV → Prop) : Prop :=
  ∃ (p : Program) (e : Env) (s : State) (m : MethodId) (args : Array Value) (below : List Frame) (meth : Method) (c : Code) (ws : List Cond),
    (p.tables.exec = Jvm.exec ∧ c.code = cc ∧ c.maxLocals = nL ∧ s.vm.findClass own = some m.cls ∧ ∀ w ∈ ws, w.before args s = true) ∧ (∀ w ∈ qTbl, w ∈ ws) ∧ meth.locks = false ∧ meth.sig.returnType = rt ∧ qTok (eT E) ∧ qWok E s s.heap ∧
    G = fun σ pc lv st => ∀ (H : Heap) (locs : List Loc) (ls : Array Slot), va_P (eD E) clz (qBlk E σ) H → va_S (eA E) s.heap H locs → qLs E ls nL lv → W p l e (qRm n) s m args below meth c H locs 0 0 (MQ below (qQc E Ret) args s 0 0 (eA E)) (F0 m pc ls (st.map (qv E)))
section
variable {E : qE} {l : Launch} {own : String} {cc : ByteArray} {nL : Nat} {rt : Option FieldType} {n : Nat} {Ret : Option qV → qSt → Prop} {G : qSt → Nat → List (Option qV) → List qV → Prop} {σ : qSt} {pc : Nat} {lv : List (Option qV)} {st : List qV}
theorem Cx.go {st2 : List qV} {pc2 : Nat} (C : Cx E l own cc nL rt n Ret G) (h : ∀ (p : Program) (e : Env) (R : Room) (s : State) (m : MethodId) (args : Array Value) (below : List Frame) (meth : Method) (c : Code) (H : Heap) (locs : List Loc) (Q : State → Prop) (ls : Array Slot), p.tables.exec = Jvm.exec → c.code = cc → qLs E ls nL lv → s.vm.findClass own = some m.cls → (∀ w ∈ qTbl, w.before args s = true) → W p l e R s m args below meth c H locs 0 0 Q (F0 m pc2 ls (st2.map (qv E))) → W p l e R s m args below meth c H locs 0 0 Q (F0 m pc ls (st.map (qv E)))) (k : G σ pc2 lv st2) : G σ pc lv st := by
  obtain ⟨p, e, s, m, args, below, meth, c, ws, ⟨hx, hb, hml, ho, hw⟩, hin, hlk, hrt, hT, hK, rfl⟩ := C
  intro H locs ls hP hS hl
  exact h _ _ _ _ _ _ _ _ _ _ _ _ _ hx hb hl ho (fun w h => hw w (hin w h)) (k H locs ls hP hS hl)
theorem Cx.br {st2 : List qV} {pc2 pc3 : Nat} {a b : Prop} (C : Cx E l own cc nL rt n Ret G) (h : ∀ (p : Program) (e : Env) (R : Room) (s : State) (m : MethodId) (args : Array Value) (below : List Frame) (meth : Method) (c : Code) (H : Heap) (locs : List Loc) (Q : State → Prop) (ls : Array Slot), p.tables.exec = Jvm.exec → c.code = cc → (a → W p l e R s m args below meth c H locs 0 0 Q (F0 m pc2 ls (st2.map (qv E)))) → (b → W p l e R s m args below meth c H locs 0 0 Q (F0 m pc3 ls (st2.map (qv E)))) → W p l e R s m args below meth c H locs 0 0 Q (F0 m pc ls (st.map (qv E)))) (kt : a → G σ pc2 lv st2) (kf : b → G σ pc3 lv st2) : G σ pc lv st := by
  obtain ⟨p, e, s, m, args, below, meth, c, ws, ⟨hx, hb, hml, ho, hw⟩, hin, hlk, hrt, hT, hK, rfl⟩ := C
  intro H locs ls hP hS hl
  exact h _ _ _ _ _ _ _ _ _ _ _ _ _ hx hb (fun q => kt q H locs ls hP hS hl) (fun q => kf q H locs ls hP hS hl)
theorem r_iconst {z : Int} (C : Cx E l own cc nL rt n Ret G) (hd : decode cc pc = .ok (.iconst z, 1)) (k : G σ (pc + 1) lv (qi z :: st)) : G σ pc lv st := C.go (fun _ _ _ _ _ _ _ _ _ _ _ _ _ hx hb _ _ _ k => lv_iconst hx hb hd rfl k) k
theorem r_bipush {z : Int} (C : Cx E l own cc nL rt n Ret G) (hd : decode cc pc = .ok (.bipush z, 2)) (k : G σ (pc + 2) lv (qi z :: st)) (hv : (Int8.ofInt z).toInt32 = Int32.ofInt z := by decide) : G σ pc lv st := C.go (fun _ _ _ _ _ _ _ _ _ _ _ _ _ hx hb _ _ _ k => lv_bipush hx hb hd hv k) k
theorem r_sipush {z : Int} (C : Cx E l own cc nL rt n Ret G) (hd : decode cc pc = .ok (.sipush z, 3)) (k : G σ (pc + 3) lv (qi z :: st)) (hv : (Int16.ofInt z).toInt32 = Int32.ofInt z := by decide) : G σ pc lv st := C.go (fun _ _ _ _ _ _ _ _ _ _ _ _ _ hx hb _ _ _ k => lv_sipush hx hb hd hv k) k
theorem r_ldc {z : Int} {ix : Nat} (C : Cx E l own cc nL rt n Ret G) (hd : decode cc pc = .ok (.ldc ix, 2)) (hc : Cond.constant own ix (Int32.ofInt z) ∈ qTbl) (k : G σ (pc + 2) lv (qi z :: st)) : G σ pc lv st := C.go (fun _ _ _ _ _ _ _ _ _ _ _ _ _ hx hb _ ho ht k => lv_ldc hx hb ho (ht _ hc) hd k) k
theorem r_ldcw {z : Int} {ix : Nat} (C : Cx E l own cc nL rt n Ret G) (hd : decode cc pc = .ok (.ldc_w ix, 3)) (hc : Cond.constant own ix (Int32.ofInt z) ∈ qTbl) (k : G σ (pc + 3) lv (qi z :: st)) : G σ pc lv st := C.go (fun _ _ _ _ _ _ _ _ _ _ _ _ _ hx hb _ ho ht k => lv_ldcw hx hb ho (ht _ hc) hd k) k
theorem r_ldc2 {z : Int} {ix : Nat} (C : Cx E l own cc nL rt n Ret G) (hd : decode cc pc = .ok (.ldc2_w ix, 3)) (hc : Cond.constantLong own ix (Int64.ofInt z) ∈ qTbl) (k : G σ (pc + 3) lv (ql z :: st)) : G σ pc lv st := C.go (fun _ _ _ _ _ _ _ _ _ _ _ _ _ hx hb _ ho ht k => lv_ldc2 hx hb ho (ht _ hc) hd k) k
theorem r_lconst0 (C : Cx E l own cc nL rt n Ret G) (hd : decode cc pc = .ok (.lconst 0, 1)) (k : G σ (pc + 1) lv (ql 0 :: st)) : G σ pc lv st := C.go (fun _ _ _ _ _ _ _ _ _ _ _ _ _ hx hb _ _ _ k => lv_lconst hx hb hd rfl k) k
theorem r_iload_n {i : Fin 4} {z : Int} (C : Cx E l own cc nL rt n Ret G) (hd : decode cc pc = .ok (.iload_n i, 1)) (hl : lv[(i : Nat)]? = some (some (qi z))) (k : G σ (pc + 1) lv (qi z :: st)) : G σ pc lv st := C.go (fun _ _ _ _ _ _ _ _ _ _ _ _ _ hx hb h _ _ k => lv_iload_n hx hb hd rfl (h.at hl) k) k
theorem r_iload {i : Nat} {z : Int} (C : Cx E l own cc nL rt n Ret G) (hd : decode cc pc = .ok (.iload i, 2)) (hl : lv[i]? = some (some (qi z))) (k : G σ (pc + 2) lv (qi z :: st)) : G σ pc lv st := C.go (fun _ _ _ _ _ _ _ _ _ _ _ _ _ hx hb h _ _ k => lv_iload hx hb hd (h.at hl) k) k
theorem r_lload_n {i : Fin 4} {z : Int} (C : Cx E l own cc nL rt n Ret G) (hd : decode cc pc = .ok (.lload_n i, 1)) (hl : lv[(i : Nat)]? = some (some (ql z))) (k : G σ (pc + 1) lv (ql z :: st)) : G σ pc lv st := C.go (fun _ _ _ _ _ _ _ _ _ _ _ _ _ hx hb h _ _ k => lv_lload_n hx hb hd rfl (h.at hl) k) k
theorem r_lload {i : Nat} {z : Int} (C : Cx E l own cc nL rt n Ret G) (hd : decode cc pc = .ok (.lload i, 2)) (hl : lv[i]? = some (some (ql z))) (k : G σ (pc + 2) lv (ql z :: st)) : G σ pc lv st := C.go (fun _ _ _ _ _ _ _ _ _ _ _ _ _ hx hb h _ _ k => lv_lload hx hb hd (h.at hl) k) k
theorem qv_ref (E : qE) (q : Nat) (i : Int) : ∃ x, qv E (qr q i) = .ref x := by
  simp only [qv]
  split
  · exact ⟨_, rfl⟩
  · exact ⟨_, rfl⟩
theorem r_aload_n {i : Fin 4} {q : Nat} {z : Int} (C : Cx E l own cc nL rt n Ret G) (hd : decode cc pc = .ok (.aload_n i, 1)) (hl : lv[(i : Nat)]? = some (some (qr q z))) (k : G σ (pc + 1) lv (qr q z :: st)) : G σ pc lv st := C.go (fun _ _ _ _ _ _ _ _ _ _ _ _ _ hx hb h _ _ k => by
  obtain ⟨x, hx2⟩ := qv_ref E q z
  have h2 := h.at hl
  simp only [List.map_cons] at k
  rw [hx2] at h2 k
  exact lv_aload_n hx hb hd rfl h2 k) k
theorem r_aload {i : Nat} {q : Nat} {z : Int} (C : Cx E l own cc nL rt n Ret G) (hd : decode cc pc = .ok (.aload i, 2)) (hl : lv[i]? = some (some (qr q z))) (k : G σ (pc + 2) lv (qr q z :: st)) : G σ pc lv st := C.go (fun _ _ _ _ _ _ _ _ _ _ _ _ _ hx hb h _ _ k => by
  obtain ⟨x, hx2⟩ := qv_ref E q z
  have h2 := h.at hl
  simp only [List.map_cons] at k
  rw [hx2] at h2 k
  exact lv_aload hx hb hd h2 k) k
theorem Cx.sto {lv2 : List (Option qV)} {st2 : List qV} {pc2 : Nat} (C : Cx E l own cc nL rt n Ret G) (h : ∀ (p : Program) (e : Env) (R : Room) (s : State) (m : MethodId) (args : Array Value) (below : List Frame) (meth : Method) (c : Code) (H : Heap) (locs : List Loc) (Q : State → Prop) (ls : Array Slot), p.tables.exec = Jvm.exec → c.code = cc → qLs E ls nL lv → (∀ ls, qLs E ls nL lv2 → W p l e R s m args below meth c H locs 0 0 Q (F0 m pc2 ls (st2.map (qv E)))) → W p l e R s m args below meth c H locs 0 0 Q (F0 m pc ls (st.map (qv E)))) (k : G σ pc2 lv2 st2) : G σ pc lv st := by
  obtain ⟨p, e, s, m, args, below, meth, c, ws, ⟨hx, hb, hml, ho, hw⟩, hin, hlk, hrt, hT, hK, rfl⟩ := C
  intro H locs ls hP hS hl
  exact h _ _ _ _ _ _ _ _ _ _ _ _ _ hx hb hl (fun ls hl => k H locs ls hP hS hl)
theorem r_istore_n {i : Fin 4} {z : Int} {lv2 : List (Option qV)} (C : Cx E l own cc nL rt n Ret G) (hd : decode cc pc = .ok (.istore_n i, 1)) (hl : qSet lv i (some (qi z)) = some lv2) (ho : qOk lv i = true) (hn : (i : Nat) < nL) (k : G σ (pc + 1) lv2 st) : G σ pc lv (qi z :: st) := C.sto (fun _ _ _ _ _ _ _ _ _ _ _ _ _ hx hb h k => lv_istore_n hx hb hd rfl h hn rfl (fun ls h2 => k ls (qLs.set1 (v := qi z) hl ho h2))) k
theorem r_istore {i : Nat} {z : Int} {lv2 : List (Option qV)} (C : Cx E l own cc nL rt n Ret G) (hd : decode cc pc = .ok (.istore i, 2)) (hl : qSet lv i (some (qi z)) = some lv2) (ho : qOk lv i = true) (hn : i < nL) (k : G σ (pc + 2) lv2 st) : G σ pc lv (qi z :: st) := C.sto (fun _ _ _ _ _ _ _ _ _ _ _ _ _ hx hb h k => lv_istore hx hb hd h hn rfl (fun ls h2 => k ls (qLs.set1 (v := qi z) hl ho h2))) k
theorem r_lstore_n {i : Fin 4} {z : Int} {lv1 lv2 : List (Option qV)} (C : Cx E l own cc nL rt n Ret G) (hd : decode cc pc = .ok (.lstore_n i, 1)) (hl1 : qSet lv i (some (ql z)) = some lv1) (hl : qSet lv1 ((i : Nat) + 1) none = some lv2) (ho : qOk lv i = true) (hn : (i : Nat) + 1 < nL) (k : G σ (pc + 1) lv2 st) : G σ pc lv (ql z :: st) := C.sto (fun _ _ _ _ _ _ _ _ _ _ _ _ _ hx hb h k => lv_lstore_n hx hb hd rfl h hn rfl (fun ls h2 => k ls (qLs.set2 (v := ql z) hl1 hl ho h2))) k
theorem r_astore_n {i : Fin 4} {q : Nat} {z : Int} {lv2 : List (Option qV)} (C : Cx E l own cc nL rt n Ret G) (hd : decode cc pc = .ok (.astore_n i, 1)) (hl : qSet lv i (some (qr q z)) = some lv2) (ho : qOk lv i = true) (hn : (i : Nat) < nL) (k : G σ (pc + 1) lv2 st) : G σ pc lv (qr q z :: st) := C.sto (fun _ _ _ _ _ _ _ _ _ _ _ _ _ hx hb h k => by
  obtain ⟨x, hx2⟩ := qv_ref E q z
  simp only [List.map_cons]
  rw [hx2]
  refine lv_astore_n hx hb hd rfl h hn rfl (fun ls h2 => k ls (qLs.set1 (v := qr q z) hl ho ?_))
  rw [hx2]
  exact h2) k
theorem r_astore {i : Nat} {q : Nat} {z : Int} {lv2 : List (Option qV)} (C : Cx E l own cc nL rt n Ret G) (hd : decode cc pc = .ok (.astore i, 2)) (hl : qSet lv i (some (qr q z)) = some lv2) (ho : qOk lv i = true) (hn : i < nL) (k : G σ (pc + 2) lv2 st) : G σ pc lv (qr q z :: st) := C.sto (fun _ _ _ _ _ _ _ _ _ _ _ _ _ hx hb h k => by
  obtain ⟨x, hx2⟩ := qv_ref E q z
  simp only [List.map_cons]
  rw [hx2]
  refine lv_astore hx hb hd h hn rfl (fun ls h2 => k ls (qLs.set1 (v := qr q z) hl ho ?_))
  rw [hx2]
  exact h2) k
theorem qAs_at {lv : List (Option qV)} {i : Nat} {v : qV} (h : lv[i]? = some (some v)) : ∃ k : Nat, (qAs E lv 0)[k]? = some (i, qv E v) := by
  have := (qAs_mem E lv 0 (i, qv E v)).mpr ⟨i, v, h, by simp⟩
  exact List.getElem?_of_mem this
theorem r_iinc {i : Nat} {d z : Int} {lv2 : List (Option qV)} (C : Cx E l own cc nL rt n Ret G) (hd : decode cc pc = .ok (.iinc i d, 3)) (h0 : lv[i]? = some (some (qi z))) (hl : qSet lv i (some (qi (z + d))) = some lv2) (ho : qOk lv i = true) (hn : i < nL) (k : G σ (pc + 3) lv2 st) : G σ pc lv st := C.sto (fun _ _ _ _ _ _ _ _ _ _ _ _ _ hx hb h k => by
  obtain ⟨j, hj⟩ := qAs_at (E := E) h0
  exact lv_iinc hx hb hd h hj (z_add z d) hn rfl (fun ls h2 => k ls (qLs.set1 (v := qi (z + d)) hl ho h2))) k
theorem r_iadd {a b : Int} (C : Cx E l own cc nL rt n Ret G) (hd : decode cc pc = .ok (.iadd, 1)) (k : G σ (pc + 1) lv (qi (a + b) :: st)) : G σ pc lv (qi b :: qi a :: st) := C.go (fun _ _ _ _ _ _ _ _ _ _ _ _ _ hx hb _ _ _ k => lv_iadd hx hb hd (by rw [z_add]; exact k)) k
theorem r_isub {a b : Int} (C : Cx E l own cc nL rt n Ret G) (hd : decode cc pc = .ok (.isub, 1)) (k : G σ (pc + 1) lv (qi (a - b) :: st)) : G σ pc lv (qi b :: qi a :: st) := C.go (fun _ _ _ _ _ _ _ _ _ _ _ _ _ hx hb _ _ _ k => lv_isub hx hb hd (by rw [z_sub]; exact k)) k
theorem r_imul {a b : Int} (C : Cx E l own cc nL rt n Ret G) (hd : decode cc pc = .ok (.imul, 1)) (k : G σ (pc + 1) lv (qi (a * b) :: st)) : G σ pc lv (qi b :: qi a :: st) := C.go (fun _ _ _ _ _ _ _ _ _ _ _ _ _ hx hb _ _ _ k => lv_imul hx hb hd (by rw [z_mul]; exact k)) k
theorem r_ladd {a b : Int} (C : Cx E l own cc nL rt n Ret G) (hd : decode cc pc = .ok (.ladd, 1)) (k : G σ (pc + 1) lv (ql (a + b) :: st)) : G σ pc lv (ql b :: ql a :: st) := C.go (fun _ _ _ _ _ _ _ _ _ _ _ _ _ hx hb _ _ _ k => lv_ladd hx hb hd (by rw [zl_add]; exact k)) k
theorem r_iand {a b : Int} (w : Int) (C : Cx E l own cc nL rt n Ret G) (hd : decode cc pc = .ok (.iand, 1)) (hw : Int32.ofInt a &&& Int32.ofInt b = Int32.ofInt w) (k : G σ (pc + 1) lv (qi w :: st)) : G σ pc lv (qi b :: qi a :: st) := C.go (fun _ _ _ _ _ _ _ _ _ _ _ _ _ hx hb _ _ _ k => lv_iand hx hb hd (by rw [hw]; exact k)) k
theorem r_ior {a b : Int} (w : Int) (C : Cx E l own cc nL rt n Ret G) (hd : decode cc pc = .ok (.ior, 1)) (hw : Int32.ofInt a ||| Int32.ofInt b = Int32.ofInt w) (k : G σ (pc + 1) lv (qi w :: st)) : G σ pc lv (qi b :: qi a :: st) := C.go (fun _ _ _ _ _ _ _ _ _ _ _ _ _ hx hb _ _ _ k => lv_ior hx hb hd (by rw [hw]; exact k)) k
theorem r_ixor {a b : Int} (w : Int) (C : Cx E l own cc nL rt n Ret G) (hd : decode cc pc = .ok (.ixor, 1)) (hw : Int32.ofInt a ^^^ Int32.ofInt b = Int32.ofInt w) (k : G σ (pc + 1) lv (qi w :: st)) : G σ pc lv (qi b :: qi a :: st) := C.go (fun _ _ _ _ _ _ _ _ _ _ _ _ _ hx hb _ _ _ k => lv_ixor hx hb hd (by rw [hw]; exact k)) k
theorem r_ishl {a b : Int} (w : Int) (C : Cx E l own cc nL rt n Ret G) (hd : decode cc pc = .ok (.ishl, 1)) (hw : Int32.ofInt a <<< (Int32.ofInt b &&& 31) = Int32.ofInt w) (k : G σ (pc + 1) lv (qi w :: st)) : G σ pc lv (qi b :: qi a :: st) := C.go (fun _ _ _ _ _ _ _ _ _ _ _ _ _ hx hb _ _ _ k => lv_ishl hx hb hd (by rw [hw]; exact k)) k
theorem r_ishr {a b : Int} (w : Int) (C : Cx E l own cc nL rt n Ret G) (hd : decode cc pc = .ok (.ishr, 1)) (hw : Int32.ofInt a >>> (Int32.ofInt b &&& 31) = Int32.ofInt w) (k : G σ (pc + 1) lv (qi w :: st)) : G σ pc lv (qi b :: qi a :: st) := C.go (fun _ _ _ _ _ _ _ _ _ _ _ _ _ hx hb _ _ _ k => lv_ishr hx hb hd (by rw [hw]; exact k)) k
theorem r_iushr {a b : Int} (w : Int) (C : Cx E l own cc nL rt n Ret G) (hd : decode cc pc = .ok (.iushr, 1)) (hw : ((Int32.ofInt a).toUInt32 >>> ((Int32.ofInt b).toUInt32 &&& Int32.toUInt32 31)).toInt32 = Int32.ofInt w) (k : G σ (pc + 1) lv (qi w :: st)) : G σ pc lv (qi b :: qi a :: st) := C.go (fun _ _ _ _ _ _ _ _ _ _ _ _ _ hx hb _ _ _ k => lv_iushr hx hb hd hw k) k
theorem r_land {a b : Int} (w : Int) (C : Cx E l own cc nL rt n Ret G) (hd : decode cc pc = .ok (.land, 1)) (hw : Int64.ofInt a &&& Int64.ofInt b = Int64.ofInt w) (k : G σ (pc + 1) lv (ql w :: st)) : G σ pc lv (ql b :: ql a :: st) := C.go (fun _ _ _ _ _ _ _ _ _ _ _ _ _ hx hb _ _ _ k => lv_land hx hb hd (by rw [hw]; exact k)) k
theorem r_lor {a b : Int} (w : Int) (C : Cx E l own cc nL rt n Ret G) (hd : decode cc pc = .ok (.lor, 1)) (hw : Int64.ofInt a ||| Int64.ofInt b = Int64.ofInt w) (k : G σ (pc + 1) lv (ql w :: st)) : G σ pc lv (ql b :: ql a :: st) := C.go (fun _ _ _ _ _ _ _ _ _ _ _ _ _ hx hb _ _ _ k => lv_lor hx hb hd (by rw [hw]; exact k)) k
theorem r_lxor {a b : Int} (w : Int) (C : Cx E l own cc nL rt n Ret G) (hd : decode cc pc = .ok (.lxor, 1)) (hw : Int64.ofInt a ^^^ Int64.ofInt b = Int64.ofInt w) (k : G σ (pc + 1) lv (ql w :: st)) : G σ pc lv (ql b :: ql a :: st) := C.go (fun _ _ _ _ _ _ _ _ _ _ _ _ _ hx hb _ _ _ k => lv_lxor hx hb hd (by rw [hw]; exact k)) k
theorem r_lshl {a b : Int} (w : Int) (C : Cx E l own cc nL rt n Ret G) (hd : decode cc pc = .ok (.lshl, 1)) (hw : Int64.ofInt a <<< ((Int32.ofInt b).toInt64 &&& 63) = Int64.ofInt w) (k : G σ (pc + 1) lv (ql w :: st)) : G σ pc lv (qi b :: ql a :: st) := C.go (fun _ _ _ _ _ _ _ _ _ _ _ _ _ hx hb _ _ _ k => lv_lshl hx hb hd hw k) k
theorem r_lshr {a b : Int} (w : Int) (C : Cx E l own cc nL rt n Ret G) (hd : decode cc pc = .ok (.lshr, 1)) (hw : Int64.ofInt a >>> ((Int32.ofInt b).toInt64 &&& 63) = Int64.ofInt w) (k : G σ (pc + 1) lv (ql w :: st)) : G σ pc lv (qi b :: ql a :: st) := C.go (fun _ _ _ _ _ _ _ _ _ _ _ _ _ hx hb _ _ _ k => lv_lshr hx hb hd hw k) k
theorem r_i2l {a : Int} (C : Cx E l own cc nL rt n Ret G) (hd : decode cc pc = .ok (.i2l, 1)) (ha : InI a) (k : G σ (pc + 1) lv (ql a :: st)) : G σ pc lv (qi a :: st) := C.go (fun _ _ _ _ _ _ _ _ _ _ _ _ _ hx hb _ _ _ k => lv_i2l hx hb hd (by
  apply Int64.toInt_inj.mp
  rw [Int32.toInt_toInt64, z_toInt ha, zl_toInt (by omega)]) k) k
theorem r_l2i {a : Int} (w : Int) (C : Cx E l own cc nL rt n Ret G) (hd : decode cc pc = .ok (.l2i, 1)) (hw : (Int64.ofInt a).toInt32 = Int32.ofInt w) (k : G σ (pc + 1) lv (qi w :: st)) : G σ pc lv (ql a :: st) := C.go (fun _ _ _ _ _ _ _ _ _ _ _ _ _ hx hb _ _ _ k => lv_l2i hx hb hd hw k) k
theorem r_dup {v : qV} (C : Cx E l own cc nL rt n Ret G) (hd : decode cc pc = .ok (.dup, 1)) (k : G σ (pc + 1) lv (v :: v :: st)) (hv : ∀ z, v ≠ ql z := by intro z h; cases h) : G σ pc lv (v :: st) := C.go (fun _ _ _ _ _ _ _ _ _ _ _ _ _ hx hb _ _ _ k => lv_dup hx hb hd (qv_cat E v hv) k) k
theorem r_pop {v : qV} (C : Cx E l own cc nL rt n Ret G) (hd : decode cc pc = .ok (.pop, 1)) (k : G σ (pc + 1) lv st) (hv : ∀ z, v ≠ ql z := by intro z h; cases h) : G σ pc lv (v :: st) := C.go (fun _ _ _ _ _ _ _ _ _ _ _ _ _ hx hb _ _ _ k => lv_pop hx hb hd (qv_cat E v hv) k) k
theorem r_goto {off : Int} (tgt : Nat) (C : Cx E l own cc nL rt n Ret G) (hd : decode cc pc = .ok (.goto off, 3)) (ht : (pc : Int) + off = (tgt : Int)) (k : G σ tgt lv st) : G σ pc lv st := C.go (fun _ _ _ _ _ _ _ _ _ _ _ _ _ hx hb _ _ _ k => lv_goto hx hb hd ht k) k
theorem r_if_eq {a off : Int} (tgt : Nat) (C : Cx E l own cc nL rt n Ret G) (hd : decode cc pc = .ok (.ifCond .eq off, 3)) (ht : (pc : Int) + off = (tgt : Int)) (ha : InI a) (kt : a = 0 → G σ tgt lv st) (kf : ¬ a = 0 → G σ (pc + 3) lv st) : G σ pc lv (qi a :: st) := C.br (fun _ _ _ _ _ _ _ _ _ _ _ _ _ hx hb kt kf => lv_if_eq hx hb hd ht (fun h => kt ((z_eq ha (by decide : InI 0)).mp h)) (fun h => kf (fun q => h ((z_eq ha (by decide : InI 0)).mpr q)))) kt kf
theorem r_if_ne {a off : Int} (tgt : Nat) (C : Cx E l own cc nL rt n Ret G) (hd : decode cc pc = .ok (.ifCond .ne off, 3)) (ht : (pc : Int) + off = (tgt : Int)) (ha : InI a) (kt : ¬ a = 0 → G σ tgt lv st) (kf : a = 0 → G σ (pc + 3) lv st) : G σ pc lv (qi a :: st) := C.br (fun _ _ _ _ _ _ _ _ _ _ _ _ _ hx hb kt kf => lv_if_ne hx hb hd ht (fun h => kt (fun q => h ((z_eq ha (by decide : InI 0)).mpr q))) (fun h => kf ((z_eq ha (by decide : InI 0)).mp h))) kt kf
theorem r_if_lt {a off : Int} (tgt : Nat) (C : Cx E l own cc nL rt n Ret G) (hd : decode cc pc = .ok (.ifCond .lt off, 3)) (ht : (pc : Int) + off = (tgt : Int)) (ha : InI a) (kt : a < 0 → G σ tgt lv st) (kf : ¬ a < 0 → G σ (pc + 3) lv st) : G σ pc lv (qi a :: st) := C.br (fun _ _ _ _ _ _ _ _ _ _ _ _ _ hx hb kt kf => lv_if_lt hx hb hd ht (fun h => kt ((z_lt ha (by decide : InI 0)).mp h)) (fun h => kf (fun q => h ((z_lt ha (by decide : InI 0)).mpr q)))) kt kf
theorem r_if_ge {a off : Int} (tgt : Nat) (C : Cx E l own cc nL rt n Ret G) (hd : decode cc pc = .ok (.ifCond .ge off, 3)) (ht : (pc : Int) + off = (tgt : Int)) (ha : InI a) (kt : ¬ a < 0 → G σ tgt lv st) (kf : a < 0 → G σ (pc + 3) lv st) : G σ pc lv (qi a :: st) := C.br (fun _ _ _ _ _ _ _ _ _ _ _ _ _ hx hb kt kf => lv_if_ge hx hb hd ht (fun h => kt (by have := (z_le (by decide : InI 0) ha).mp h; omega)) (fun h => kf (by have : ¬ (0 ≤ a) := fun q => h ((z_le (by decide : InI 0) ha).mpr q); omega))) kt kf
theorem r_if_gt {a off : Int} (tgt : Nat) (C : Cx E l own cc nL rt n Ret G) (hd : decode cc pc = .ok (.ifCond .gt off, 3)) (ht : (pc : Int) + off = (tgt : Int)) (ha : InI a) (kt : 0 < a → G σ tgt lv st) (kf : ¬ 0 < a → G σ (pc + 3) lv st) : G σ pc lv (qi a :: st) := C.br (fun _ _ _ _ _ _ _ _ _ _ _ _ _ hx hb kt kf => lv_if_gt hx hb hd ht (fun h => kt ((z_lt (by decide : InI 0) ha).mp h)) (fun h => kf (fun q => h ((z_lt (by decide : InI 0) ha).mpr q)))) kt kf
theorem r_if_le {a off : Int} (tgt : Nat) (C : Cx E l own cc nL rt n Ret G) (hd : decode cc pc = .ok (.ifCond .le off, 3)) (ht : (pc : Int) + off = (tgt : Int)) (ha : InI a) (kt : a ≤ 0 → G σ tgt lv st) (kf : ¬ a ≤ 0 → G σ (pc + 3) lv st) : G σ pc lv (qi a :: st) := C.br (fun _ _ _ _ _ _ _ _ _ _ _ _ _ hx hb kt kf => lv_if_le hx hb hd ht (fun h => kt ((z_le ha (by decide : InI 0)).mp h)) (fun h => kf (fun q => h ((z_le ha (by decide : InI 0)).mpr q)))) kt kf
theorem r_ic_eq {a b off : Int} (tgt : Nat) (C : Cx E l own cc nL rt n Ret G) (hd : decode cc pc = .ok (.if_icmp .eq off, 3)) (ht : (pc : Int) + off = (tgt : Int)) (ha : InI a) (hb' : InI b) (kt : a = b → G σ tgt lv st) (kf : ¬ a = b → G σ (pc + 3) lv st) : G σ pc lv (qi b :: qi a :: st) := C.br (fun _ _ _ _ _ _ _ _ _ _ _ _ _ hx hb kt kf => lv_icmp_eq hx hb hd ht (fun h => kt ((z_eq ha hb').mp h)) (fun h => kf (fun q => h ((z_eq ha hb').mpr q)))) kt kf
theorem r_ic_ne {a b off : Int} (tgt : Nat) (C : Cx E l own cc nL rt n Ret G) (hd : decode cc pc = .ok (.if_icmp .ne off, 3)) (ht : (pc : Int) + off = (tgt : Int)) (ha : InI a) (hb' : InI b) (kt : ¬ a = b → G σ tgt lv st) (kf : a = b → G σ (pc + 3) lv st) : G σ pc lv (qi b :: qi a :: st) := C.br (fun _ _ _ _ _ _ _ _ _ _ _ _ _ hx hb kt kf => lv_icmp_ne hx hb hd ht (fun h => kt (fun q => h ((z_eq ha hb').mpr q))) (fun h => kf ((z_eq ha hb').mp h))) kt kf
theorem r_ic_lt {a b off : Int} (tgt : Nat) (C : Cx E l own cc nL rt n Ret G) (hd : decode cc pc = .ok (.if_icmp .lt off, 3)) (ht : (pc : Int) + off = (tgt : Int)) (ha : InI a) (hb' : InI b) (kt : a < b → G σ tgt lv st) (kf : ¬ a < b → G σ (pc + 3) lv st) : G σ pc lv (qi b :: qi a :: st) := C.br (fun _ _ _ _ _ _ _ _ _ _ _ _ _ hx hb kt kf => lv_icmp_lt hx hb hd ht (fun h => kt ((z_lt ha hb').mp h)) (fun h => kf (fun q => h ((z_lt ha hb').mpr q)))) kt kf
theorem r_ic_ge {a b off : Int} (tgt : Nat) (C : Cx E l own cc nL rt n Ret G) (hd : decode cc pc = .ok (.if_icmp .ge off, 3)) (ht : (pc : Int) + off = (tgt : Int)) (ha : InI a) (hb' : InI b) (kt : ¬ a < b → G σ tgt lv st) (kf : a < b → G σ (pc + 3) lv st) : G σ pc lv (qi b :: qi a :: st) := C.br (fun _ _ _ _ _ _ _ _ _ _ _ _ _ hx hb kt kf => lv_icmp_ge hx hb hd ht (fun h => kt (by have := (z_le hb' ha).mp h; omega)) (fun h => kf (by have : ¬ (b ≤ a) := fun q => h ((z_le hb' ha).mpr q); omega))) kt kf
theorem r_ic_gt {a b off : Int} (tgt : Nat) (C : Cx E l own cc nL rt n Ret G) (hd : decode cc pc = .ok (.if_icmp .gt off, 3)) (ht : (pc : Int) + off = (tgt : Int)) (ha : InI a) (hb' : InI b) (kt : b < a → G σ tgt lv st) (kf : ¬ b < a → G σ (pc + 3) lv st) : G σ pc lv (qi b :: qi a :: st) := C.br (fun _ _ _ _ _ _ _ _ _ _ _ _ _ hx hb kt kf => lv_icmp_gt hx hb hd ht (fun h => kt ((z_lt hb' ha).mp h)) (fun h => kf (fun q => h ((z_lt hb' ha).mpr q)))) kt kf
theorem r_ic_le {a b off : Int} (tgt : Nat) (C : Cx E l own cc nL rt n Ret G) (hd : decode cc pc = .ok (.if_icmp .le off, 3)) (ht : (pc : Int) + off = (tgt : Int)) (ha : InI a) (hb' : InI b) (kt : a ≤ b → G σ tgt lv st) (kf : ¬ a ≤ b → G σ (pc + 3) lv st) : G σ pc lv (qi b :: qi a :: st) := C.br (fun _ _ _ _ _ _ _ _ _ _ _ _ _ hx hb kt kf => lv_icmp_le hx hb hd ht (fun h => kt ((z_le ha hb').mp h)) (fun h => kf (fun q => h ((z_le ha hb').mpr q)))) kt kf
theorem r_tabOut {a dflt lo hi : Int} {offs : Array Int} {len : Nat} (tgt : Nat) (C : Cx E l own cc nL rt n Ret G) (hd : decode cc pc = .ok (.tableswitch dflt lo hi offs, len)) (ht : (pc : Int) + dflt = (tgt : Int)) (ha : InI a) (h : a < lo ∨ hi < a) (k : G σ tgt lv st) : G σ pc lv (qi a :: st) := C.go (fun _ _ _ _ _ _ _ _ _ _ _ _ _ hx hb _ _ _ k => lv_tableOut hx hb hd (by rw [z_toInt ha]; exact h) ht k) k
theorem r_tabIn {a dflt lo hi : Int} {offs : Array Int} {len : Nat} {off : Int} (tgt : Nat) (C : Cx E l own cc nL rt n Ret G) (hd : decode cc pc = .ok (.tableswitch dflt lo hi offs, len)) (ha : InI a) (h1 : ¬ a < lo) (h2 : ¬ hi < a) (ho : offs[(a - lo).toNat]? = some off) (ht : (pc : Int) + off = (tgt : Int)) (k : G σ tgt lv st) : G σ pc lv (qi a :: st) := C.go (fun _ _ _ _ _ _ _ _ _ _ _ _ _ hx hb _ _ _ k => lv_tableIn hx hb hd (by rw [z_toInt ha]; exact h1) (by rw [z_toInt ha]; exact h2) (by rw [z_toInt ha]; exact ho) ht k) k
end
