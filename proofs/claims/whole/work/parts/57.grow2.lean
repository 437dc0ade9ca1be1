/-! constructors: a new object, its constructor called at once -/
theorem gPc_blind (E : qE) (σ : qSt) (B : Nat) (c0 : va_E) : FrameBlind (gPc E σ B c0) := fun a U g mk h => ⟨h.1, gK.same (u := U) (U := U.calling g mk a) rfl h.2.1, h.2.2⟩
/-- the pool's entries by which own makes an object of y's class and calls y on it -/
def qNw (own : String) (ix ix2 ci Nf : Nat) (y : MethodName) (b : ByteArray) (nL : Nat) : Prop := (∃ (T : u_T), qCls ci y.cls T Nf) ∧ Cond.classLink own ix y.cls ∈ qTbl ∧ Cond.instantiable y.cls Nf ∈ qTbl ∧ Cond.initialized y.cls ∈ qTbl ∧ (Cond.methodLink own ix2 y ∈ qTbl ∨ ∃ h, (own, ix2, y, h) ∈ nstL) ∧ Cond.instanceMethod y ∈ qTbl ∧ Cond.code y b nL none ∈ qTbl ∧ y.name = "<init>" ∧ y.cls ≠ "java/lang/invoke/MethodHandle" ∧ y.cls ≠ "java/lang/invoke/VarHandle" ∧ (parseMethodDescriptor y.desc).map (fun d => d.parameters.length) = some 0 ∧ nL ≤ 21
/-- the fields of a new object of class ci -/
def qDf (ci Nf : Nat) (fs : List Value) : Prop := ∃ (C : String) (T : u_T) (ty : Nat → FieldType), clz[ci]? = some (C, T, Nf) ∧ (∀ k, k < Nf → parseFieldDescriptor (T k).2.2.1 = some (ty k)) ∧ ∀ j, j < Nf → defaultValue (ty j) = vp_V fs j
section
variable {p : Program} {l : Launch} {e : Env} {R : Room} {s : State} {m : MethodId} {args : Array Value} {below : List Frame} {meth : Method} {c : Code} {H : Heap} {locs : List Loc} {cells slots : Nat} {Q : State → Prop} {pc : Nat} {ls : Array Slot} {rest : List Value}
theorem w_new {E : qE} {σ : qSt} {own : String} {cc : ByteArray} {nL : Nat} {ws : List Cond} {A : Nat → Prop} {N N1 ix ix2 ci Nf nL2 n2 mc2 ms2 : Nat} {y : MethodName} {b : ByteArray} {fs : List Value} (S : p.tables.exec = Jvm.exec ∧ c.code = cc ∧ c.maxLocals = nL ∧ s.vm.findClass own = some m.cls ∧ ∀ w ∈ ws, w.before args s = true) (hin : ∀ w ∈ qTbl, w ∈ ws) (hK : gK E s) (hsz : H.size = eo E + N) (hA : ∀ q, gA E N q → A q) (hS : va_S A s.heap H locs) (hm : qNw own ix ix2 ci Nf y b nL2) (hf : qDf ci Nf fs) (M : CK E l y b nL2 n2 mc2 ms2 σ N (.inr (ci, fs)) N1) (hR : n2 + 1 ≤ R.frames ∧ 8 + (nL2 + 11) + 40 * n2 ≤ R.locals) (hcs : cells + 1 + mc2 ≤ R.cells ∧ slots + Nf + ms2 ≤ R.slots) (hl : ls.size = nL) (hW : (rest.map fun v => v.category).sum ≤ 7) (hd1 : decode cc pc = .ok (.new ix, 3)) (hd2 : decode cc (pc + 3) = .ok (.dup, 1)) (hd3 : decode cc (pc + 4) = .ok (.invokespecial ix2, 3))
    (kk : ∀ (H1 : Heap) (locs1 : List Loc), H1.size = eo E + N1 → (∀ q, q < H.size → H1[q]? = H[q]?) → va_P (eD E) clz (gW E σ N [] N1) H1 → N ≤ N1 → va_S A s.heap H1 locs1 → W p l e R s m args below meth c H1 locs1 (cells + 1 + mc2) (slots + Nf + ms2) Q (F0 m (pc + 7) ls (.ref (eo E + N) :: rest))) : W p l e R s m args below meth c H locs cells slots Q (F0 m pc ls rest) := by
  obtain ⟨hx, hb, hml, ho, hw⟩ := S
  obtain ⟨⟨T, c1, c2, -, -⟩, m1, m2, m3, m4, m5, m6, m7, m8, m9, m10, m11⟩ := hm
  obtain ⟨C', T', ty, d1, d2, d3⟩ := hf
  cases c1.symm.trans d1
  have hts : ∀ w ∈ qTbl, w.before args s = true := fun w h => hw w (hin w h)
  have hKn := hK.1.1 ci _ c1
  refine W.newcK hx hb ho (hts _ m1) (hts _ m2) (hts _ m3) rfl hd1 (by omega) (by omega) hKn.2.1 hsz fun H2 kC hkC e1 z1 o1 => ?_
  have hat : va_at (eD E) clz (eo E + N, .inr (ci, fs)) H2 := ⟨_, c1, (u_born ty hts c2 hKn hkC e1 d2).to d3⟩
  have hP2 : gP E σ N [.inr (ci, fs)] (N + 1) H2 := by
    refine ⟨by omega, by simp, fun k x hx => ?_⟩
    by_cases hk : k = 0
    · subst hk
      rw [gW_get (by omega)] at hx
      cases hx
      exact hat
    · rw [gW_no (by omega)] at hx
      cases hx
  have hS2 : va_S A s.heap H2 locs := ⟨Nat.le_trans hS.1 (by omega), fun q h1 h2 => (o1 q (by have := hS.1; omega)).trans (hS.2.1 q h1 h2), hS.2.2⟩
  refine lv_dup hx hb hd2 rfl ?_
  have hws : ∀ w ∈ (Cond.code y b nL2 none :: qTbl), w ∈ qTbl := fun w h => by
    rcases List.mem_cons.mp h with rfl | h
    · exact m6
    · exact h
  have hrun : va_Run p l e R s m args below meth c H2 locs (cells + 1) (slots + Nf) mc2 ms2 (F0 m (pc + 4) ls (.ref (eo E + N) :: .ref (eo E + N) :: rest)) (.ref (eo E + N) :: rest) (gQc E σ N N1 (Value.ref (eo E + N) :: ([] : List Value)).toArray) (gA E N) := by
    rcases m4 with m4 | ⟨h4, m4⟩
    · exact va_runI (p := p) (e := e) (m := m) (args := args) (below := below) (meth := meth) (c := c) (locs := locs) (R := R) (cells := cells + 1) (slots := slots + Nf) (As := []) (rest := .ref (eo E + N) :: rest) (b := eo E + N) (n := 0) (H := H2) (s := s) ⟨hx, hb, hml, ho, hw⟩ M
        ⟨callB_of 0 hw (q_goodIn hin hws) rfl rfl rfl (hts _ m3) (hts _ m4) ⟨m8, m9, m10⟩ hR, m7, hts _ m5⟩
        ⟨gPc_blind E σ N _, fun U hU hWU => ⟨rfl, gK.warm hWU hK, by rw [hU]; exact hP2⟩⟩
        rfl rfl hl rfl (lv_room (by simp [Value.category] at hW ⊢; omega)) hd3 hcs
    · exact va_runIN (p := p) (e := e) (m := m) (args := args) (below := below) (meth := meth) (c := c) (locs := locs) (R := R) (cells := cells + 1) (slots := slots + Nf) (As := []) (rest := .ref (eo E + N) :: rest) (b := eo E + N) (n := 0) (H := H2) (s := s) ⟨hx, hb, hml, ho, hw⟩ M
        ⟨va_cnB (host := h4) 0 hw (q_goodIn hin hws) rfl rfl rfl (hK.2.2.2 _ _ _ _ m4) (hts _ m3) ⟨m8, m9, m10⟩ hR, m7, hts _ m5⟩
        ⟨gPc_blind E σ N _, fun U hU hWU => ⟨rfl, gK.warm hWU hK, by rw [hU]; exact hP2⟩⟩
        rfl rfl hl rfl (lv_room (by simp [Value.category] at hW ⊢; omega)) hd3 hcs
  intro T0 hT0 X
  obtain ⟨v, st₀, t, T1, L, h0, X', hL, g1, g2, ⟨⟨hv, hp⟩, hz, hk⟩, st⟩ := hrun T0 hT0 X
  cases hv
  rw [h0] at hz hk
  have ok : ∀ q, q < H.size → t.heap[q]? = H[q]? := fun q hq => (hk q (by omega) (by unfold gA; omega)).trans (o1 q (by omega))
  obtain ⟨t2, a1, b1⟩ := kk T1.heap (locs ++ L) (by rw [g1]; exact hp.1) (fun q hq => by rw [g1]; exact ok q hq) (by rw [g1]; exact hp.2.2) (by have := hp.2.1; simp at this; exact this)
    ⟨Nat.le_trans hS2.1 (by rw [g1]; exact hz), fun q h1 h2 => by rw [g1, ok q (Nat.lt_of_lt_of_le h1 hS.1)]; exact hS.2.1 q h1 h2, fun q hq => by
      rcases List.mem_append.mp hq with h | h
      · exact hS.2.2 q h
      · exact hA _ (hL q h)⟩ T1 rfl X'
  exact ⟨t2, st t2 a1, b1⟩
end
section
variable {E : qE} {l : Launch} {own : String} {cc : ByteArray} {nL n mc ms : Nat} {σ : qSt} {B N1 : Nat} {G : List va_E → Nat → Nat → Nat → List (Option qV) → List qV → Prop} {pre : List va_E} {N sl : Nat} {pc : Nat} {lv : List (Option qV)} {st : List qV}
theorem k_new {k ix ix2 ci Nf nL2 n2 mc2 ms2 N2 : Nat} {i : Int} {y : MethodName} {b : ByteArray} {fs : List Value} (C : Kx E l own cc nL n mc ms σ B N1 G) (hd1 : decode cc pc = .ok (.new ix, 3)) (hd2 : decode cc (pc + 3) = .ok (.dup, 1)) (hd3 : decode cc (pc + 4) = .ok (.invokespecial ix2, 3)) (hm : qNw own ix ix2 ci Nf y b nL2) (hf : qDf ci Nf fs) (M : CK E l y b nL2 n2 mc2 ms2 σ N (.inr (ci, fs)) N2) (h9 : (k == 99) = false) (hq : qad (eT E) k i.toNat = N) (hn : n2 < n) (hN2 : N2 = N + 1 + mc2) (hcs : N2 - (B + 1) ≤ mc ∧ sl + (Nf + ms2) ≤ ms) (hW : ((st.map (qv E)).map fun v => v.category).sum ≤ 7) (kk : G pre N2 (sl + (Nf + ms2)) (pc + 7) lv (qr k i :: st)) : G pre N sl pc lv st := by
  obtain ⟨p, e, s, m, args, below, meth, cd, ws, ⟨hx, hb, hml, ho, hw⟩, hin, hlk, hrt, hnm, hT, hK, hA, rfl⟩ := C
  intro H locs ls hP hS hl
  have hsz := hP.1
  have hle := hS.1
  have h12 := hm.2.2.2.2.2.2.2.2.2.2.2
  have e0 : N2 - (B + 1) = N - (B + 1) + 1 + mc2 := by omega
  have e1 : sl + (Nf + ms2) = sl + Nf + ms2 := by omega
  refine w_new (A := gA E B) (N := N) (N1 := N2) ⟨hx, hb, hml, ho, hw⟩ hin hK hsz (fun q h => by unfold gA at h ⊢; omega) hS hm hf M ⟨by show n2 + 1 ≤ n; omega, by show 8 + (nL2 + 11) + 40 * n2 ≤ 40 * n; omega⟩ ⟨by rw [← e0]; exact hcs.1, by rw [← e1]; exact hcs.2⟩ hl.1 hW hd1 hd2 hd3 (fun H1 locs1 s1 o1 hP1 hNN hS1 => ?_)
  have hp2 : gP E σ B pre N2 H1 := by
    obtain ⟨z1, z2, z3⟩ := hP
    refine ⟨s1, by omega, fun k x hx => ?_⟩
    by_cases hk : B + k < N
    · rw [gW_get (by omega)] at hx
      cases hx
      exact (z3 k _ (gW_get hk)).kept (o1 _ (by show eo E + (B + k) < _; omega))
    · by_cases hk2 : B + k < N2
      · rw [gW_get hk2, gC_f (by omega)] at hx
        cases hx
        have := hP1 (B + k - N) _ (gW_get (by omega))
        rw [gC_f (by simp), show N + (B + k - N) = B + k by omega] at this
        exact this
      · rw [gW_no (by omega)] at hx
        cases hx
  have := kk H1 locs1 ls hp2 hS1 hl
  simp only [List.map_cons, qv_a h9 hq] at this
  rw [e0, e1] at this
  exact this
end
