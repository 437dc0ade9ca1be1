/-! contracts by the kind of their answer -/
abbrev Ri (P : Int → qSt → Prop) : Option qV → qSt → Prop := fun r σ' => ∃ z, r = some (qi z) ∧ P z σ'
abbrev Rv (P : qSt → Prop) : Option qV → qSt → Prop := fun r σ' => r = none ∧ P σ'
abbrev Rr (P : Nat → Int → qSt → Prop) : Option qV → qSt → Prop := fun r σ' => ∃ k i, r = some (qr k i) ∧ P k i σ'
section
variable {E : qE} {l : Launch} {own : String} {cc : ByteArray} {nL : Nat} {rt : Option FieldType} {n : Nat} {Ret : Option qV → qSt → Prop} {G : qSt → Nat → List (Option qV) → List qV → Prop} {σ : qSt} {pc : Nat} {lv : List (Option qV)} {st : List qV}
theorem r_cvi {ix ar k c ci N2 nL2 n2 : Nat} {fl : List (Option Nat)} {i : Int} {y : MethodName} {b : ByteArray} {rt2 : Option FieldType} {As stv : List qV} {P : Int → qSt → Prop} {C2 : String} {T2 : u_T} (C : Cx E l own cc nL rt n Ret G) (hd : decode cc pc = .ok (.invokevirtual ix, 3)) (hm : qMv own ix y b nL2 rt2 ar) (M : CM E l y b nL2 rt2 n2 (qr k i :: As) σ (Ri P)) (hn : n2 < n) (hs : qsh (eT E) k = .inl (ci, fl)) (hcl : clz[ci]? = some (C2, T2, N2)) (hy : C2 = y.cls) (hc : qcn (eT E) k = c) (hi : 0 ≤ i ∧ i < c) (hst : stv = As.reverse ++ qr k i :: st) (har : As.length = ar) (hW : ((st.map (qv E)).map fun v => v.category).sum ≤ 8) (kk : ∀ (z : Int) (σ' : qSt), P z σ' → G σ' (pc + 3) lv (qi z :: st)) : G σ pc lv stv :=
  r_callV C hd hm M hn hs hcl hy hc hi hst har hW (fun r σ' h => by obtain ⟨z, rfl, h⟩ := h; exact kk z σ' h)
theorem r_cvv {ix ar k c ci N2 nL2 n2 : Nat} {fl : List (Option Nat)} {i : Int} {y : MethodName} {b : ByteArray} {rt2 : Option FieldType} {As stv : List qV} {P : qSt → Prop} {C2 : String} {T2 : u_T} (C : Cx E l own cc nL rt n Ret G) (hd : decode cc pc = .ok (.invokevirtual ix, 3)) (hm : qMv own ix y b nL2 rt2 ar) (M : CM E l y b nL2 rt2 n2 (qr k i :: As) σ (Rv P)) (hn : n2 < n) (hs : qsh (eT E) k = .inl (ci, fl)) (hcl : clz[ci]? = some (C2, T2, N2)) (hy : C2 = y.cls) (hc : qcn (eT E) k = c) (hi : 0 ≤ i ∧ i < c) (hst : stv = As.reverse ++ qr k i :: st) (har : As.length = ar) (hW : ((st.map (qv E)).map fun v => v.category).sum ≤ 8) (kk : ∀ (σ' : qSt), P σ' → G σ' (pc + 3) lv st) : G σ pc lv stv :=
  r_callV C hd hm M hn hs hcl hy hc hi hst har hW (fun r σ' h => by obtain ⟨rfl, h⟩ := h; exact kk σ' h)
theorem r_cvr {ix ar k c ci N2 nL2 n2 : Nat} {fl : List (Option Nat)} {i : Int} {y : MethodName} {b : ByteArray} {rt2 : Option FieldType} {As stv : List qV} {P : Nat → Int → qSt → Prop} {C2 : String} {T2 : u_T} (C : Cx E l own cc nL rt n Ret G) (hd : decode cc pc = .ok (.invokevirtual ix, 3)) (hm : qMv own ix y b nL2 rt2 ar) (M : CM E l y b nL2 rt2 n2 (qr k i :: As) σ (Rr P)) (hn : n2 < n) (hs : qsh (eT E) k = .inl (ci, fl)) (hcl : clz[ci]? = some (C2, T2, N2)) (hy : C2 = y.cls) (hc : qcn (eT E) k = c) (hi : 0 ≤ i ∧ i < c) (hst : stv = As.reverse ++ qr k i :: st) (har : As.length = ar) (hW : ((st.map (qv E)).map fun v => v.category).sum ≤ 8) (kk : ∀ (k' : Nat) (i' : Int) (σ' : qSt), P k' i' σ' → G σ' (pc + 3) lv (qr k' i' :: st)) : G σ pc lv stv :=
  r_callV C hd hm M hn hs hcl hy hc hi hst har hW (fun r σ' h => by obtain ⟨k', i', rfl, h⟩ := h; exact kk k' i' σ' h)
theorem r_csi {ix ar nL2 n2 : Nat} {y : MethodName} {b : ByteArray} {rt2 : Option FieldType} {As stv : List qV} {P : Int → qSt → Prop} (C : Cx E l own cc nL rt n Ret G) (hd : decode cc pc = .ok (.invokestatic ix, 3)) (hm : qMs own ix y b nL2 rt2 ar) (M : CM E l y b nL2 rt2 n2 As σ (Ri P)) (hn : n2 < n) (hst : stv = As.reverse ++ st) (har : As.length = ar) (hW : ((st.map (qv E)).map fun v => v.category).sum ≤ 8) (kk : ∀ (z : Int) (σ' : qSt), P z σ' → G σ' (pc + 3) lv (qi z :: st)) : G σ pc lv stv :=
  r_callS C hd hm M hn hst har hW (fun r σ' h => by obtain ⟨z, rfl, h⟩ := h; exact kk z σ' h)
theorem r_ifb_eq {P : Prop} [Decidable P] {off : Int} (tgt : Nat) (C : Cx E l own cc nL rt n Ret G) (hd : decode cc pc = .ok (.ifCond .eq off, 3)) (ht : (pc : Int) + off = (tgt : Int)) (kt : ¬ P → G σ tgt lv st) (kf : P → G σ (pc + 3) lv st) : G σ pc lv (qi (if P then 1 else 0) :: st) :=
  r_if_eq tgt C hd ht (by split <;> decide) (fun h => kt (fun hp => by rw [if_pos hp] at h; exact absurd h (by decide))) (fun h => kf (by by_cases hp : P; exact hp; exact absurd (if_neg hp) h))
theorem r_ifb_ne {P : Prop} [Decidable P] {off : Int} (tgt : Nat) (C : Cx E l own cc nL rt n Ret G) (hd : decode cc pc = .ok (.ifCond .ne off, 3)) (ht : (pc : Int) + off = (tgt : Int)) (kt : P → G σ tgt lv st) (kf : ¬ P → G σ (pc + 3) lv st) : G σ pc lv (qi (if P then 1 else 0) :: st) :=
  r_if_ne tgt C hd ht (by split <;> decide) (fun h => kt (by by_cases hp : P; exact hp; exact absurd (if_neg hp) h)) (fun h => kf (fun hp => by rw [if_pos hp] at h; exact absurd h (by decide)))
theorem r_dup2 {v w : qV} (C : Cx E l own cc nL rt n Ret G) (hd : decode cc pc = .ok (.dup2, 1)) (k : G σ (pc + 1) lv (v :: w :: v :: w :: st)) (hv : ∀ z, v ≠ ql z := by intro z h; cases h) (hw : ∀ z, w ≠ ql z := by intro z h; cases h) : G σ pc lv (v :: w :: st) := C.go (fun _ _ _ _ _ _ _ _ _ _ _ _ _ hx hb _ _ _ k => lv_dup2_11 hx hb hd (qv_cat E v hv) (qv_cat E w hw) k) k
theorem r_lcmp {a b : Int} (C : Cx E l own cc nL rt n Ret G) (hd : decode cc pc = .ok (.lcmp, 1)) (ha : InL a) (hb' : InL b) (k : G σ (pc + 1) lv (qi (if b < a then 1 else if a = b then 0 else -1) :: st)) : G σ pc lv (ql b :: ql a :: st) := C.go (fun _ _ _ _ _ _ _ _ _ _ _ _ _ hx hb _ _ _ k => W.lcmp hx hb hd (by
  have e : lg_cmp (Int64.ofInt a) (Int64.ofInt b) = Int32.ofInt (if b < a then 1 else if a = b then 0 else -1) := by
    unfold lg_cmp
    have h1 : (Int64.ofInt a > Int64.ofInt b) ↔ b < a := by rw [gt_iff_lt, Int64.lt_iff_toInt_lt, zl_toInt ha, zl_toInt hb']
    have h2 : (Int64.ofInt a = Int64.ofInt b) ↔ a = b := by rw [← Int64.toInt_inj, zl_toInt ha, zl_toInt hb']
    simp only [h1, h2]
    split
    · rfl
    · split <;> rfl
  rw [e]
  exact k)) k
theorem r_v {a b : Int} (h : a = b) (k : G σ pc lv (qi b :: st)) : G σ pc lv (qi a :: st) := h ▸ k
theorem r_vl {a b : Int} (h : a = b) (k : G σ pc lv (ql b :: st)) : G σ pc lv (ql a :: st) := h ▸ k
theorem r_s {σ' : qSt} (h : σ = σ') (k : G σ' pc lv st) : G σ pc lv st := h ▸ k
theorem CM.mkF {y : MethodName} {b : ByteArray} {av : List qV} (hT : qTok (eT E)) (hy : plainFor y = true) (hl : (qEnt av).length ≤ nL) (h : ∀ G, Cx E l y.cls b nL rt n Ret G → G σ 0 (qEnt av ++ List.replicate (nL - (qEnt av).length) none) []) : CM E l y b nL rt n av σ Ret := by
  refine va_MetF (cc := b) (maxL := nL) (ret := rt) hy rfl ?_
  intro p e s m args below meth c s₁ B hml hv
  obtain ⟨rfl, hwok, hP⟩ := hv
  rw [lg_entry_eq, qEnt_len]
  refine h _ ⟨p, e, s, m, _, below, meth, c, _, ⟨B.exec, B.bytes, hml, findClass_of_methodNamed B.named, atoms_spec B.pre⟩, fun w hw => List.mem_cons_of_mem _ hw, B.notSynchronized, B.returns, hT, hwok, rfl⟩ s.heap [] _ hP va_S.rf ?_
  unfold qLs
  rw [qEnt_as]
  have := lv_entry (av.map (qv E)) (n := nL) (by rw [qEnt_len]; exact hl)
  rw [qEnt_len] at this
  exact this
end
