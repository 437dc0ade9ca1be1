/-! calls -/
theorem q_goodIn {ws ws2 : List Cond} (hin : ∀ w ∈ qTbl, w ∈ ws) (h2 : ∀ w ∈ ws2, w ∈ qTbl) : GoodIn ws ws2 := fun w hw => ⟨hin w (h2 w hw), good_of_word (List.mem_filter.mp (h2 w hw)).2⟩
/-- a call of y from own by the pool's entry ix: an instance method, chosen by its own class -/
def qMv (own : String) (ix : Nat) (y : MethodName) (b : ByteArray) (nL : Nat) (rt : Option FieldType) (ar : Nat) : Prop := Cond.methodLink own ix y ∈ qTbl ∧ Cond.instanceMethod y ∈ qTbl ∧ Cond.selects y.cls y y ∈ qTbl ∧ Cond.initialized y.cls ∈ qTbl ∧ Cond.code y b nL rt ∈ qTbl ∧ y.cls ≠ "java/lang/invoke/MethodHandle" ∧ y.cls ≠ "java/lang/invoke/VarHandle" ∧ (parseMethodDescriptor y.desc).map (fun d => d.parameters.length) = some ar ∧ nL ≤ 21
def qMs (own : String) (ix : Nat) (y : MethodName) (b : ByteArray) (nL : Nat) (rt : Option FieldType) (ar : Nat) : Prop := Cond.methodLink own ix y ∈ qTbl ∧ Cond.static y ∈ qTbl ∧ Cond.initialized y.cls ∈ qTbl ∧ Cond.code y b nL rt ∈ qTbl ∧ y.cls ≠ "java/lang/invoke/MethodHandle" ∧ y.cls ≠ "java/lang/invoke/VarHandle" ∧ (parseMethodDescriptor y.desc).map (fun d => d.parameters.length) = some ar ∧ nL ≤ 21
theorem qPc_blind (E : qE) (av : List qV) (σ : qSt) : FrameBlind (qPc E av σ) := fun a U g mk h => ⟨h.1, qWok.same (u := U) (U := U.calling g mk a) rfl h.2.1, h.2.2⟩
theorem qWok.at {E : qE} {s U : State} {H : Heap} {locs : List Loc} (h : qWok E s s.heap) (hS : va_S (eA E) s.heap H locs) (hU : U.heap = H) (hW : s.WarmedH U.vm) : qWok E U U.heap := by
  rw [hU]
  exact (h.kept (fun a h1 h2 => hS.2.1 a h1 h2)).warm hW
theorem q_map_toList (E : qE) (r : Option qV) : (r.map (qv E)).toList = r.toList.map (qv E) := by cases r <;> rfl
section
variable {p : Program} {l : Launch} {e : Env} {R : Room} {s : State} {m : MethodId} {args : Array Value} {below : List Frame} {meth : Method} {c : Code} {H : Heap} {locs : List Loc} {Q : State → Prop} {pc : Nat} {ls : Array Slot} {rest st0 : List Value} {a : Array Value}
theorem q_call {E : qE} {Ret : Option qV → qSt → Prop} (hr : va_Run p l e R s m args below meth c H locs 0 0 0 0 (F0 m pc ls st0) rest (qQc E Ret a) (eA E)) (hS : va_S (eA E) s.heap H locs)
    (kk : ∀ (r : Option qV) (σ' : qSt) (H1 : Heap) (locs1 : List Loc), Ret r σ' → va_P (eD E) clz (qBlk E σ') H1 → va_S (eA E) s.heap H1 locs1 → W p l e R s m args below meth c H1 locs1 0 0 Q (F0 m (pc + 3) ls ((r.map (qv E)).toList ++ rest))) : W p l e R s m args below meth c H locs 0 0 Q (F0 m pc ls st0) := by
  intro T hT X
  obtain ⟨v, st₀, t, T', L, h0, X', hL, e1, e2, ⟨⟨r, σ', hv, hp, hb⟩, hz, hk⟩, st⟩ := hr T hT X
  cases hv
  rw [h0] at hz hk
  obtain ⟨t2, a1, b1⟩ := kk r σ' T'.heap (locs ++ L) hp (by rw [e1]; exact hb)
    ⟨Nat.le_trans hS.1 (by rw [e1]; exact hz), fun q h1 h2 => by rw [e1, hk q (Nat.lt_of_lt_of_le h1 hS.1) h2]; exact hS.2.1 q h1 h2, fun q hq => by
      rcases List.mem_append.mp hq with h | h
      · exact hS.2.2 q h
      · exact hL q h⟩ T' rfl X'
  exact ⟨t2, st t2 a1, b1⟩
end
section
variable {E : qE} {l : Launch} {own : String} {cc : ByteArray} {nL : Nat} {rt : Option FieldType} {n : Nat} {Ret : Option qV → qSt → Prop} {G : qSt → Nat → List (Option qV) → List qV → Prop} {σ : qSt} {pc : Nat} {lv : List (Option qV)} {st : List qV}
theorem r_callV {ix ar k c ci N2 nL2 n2 : Nat} {fl : List (Option Nat)} {i : Int} {y : MethodName} {b : ByteArray} {rt2 : Option FieldType} {As stv : List qV} {Ret2 : Option qV → qSt → Prop} {C2 : String} {T2 : u_T} (C : Cx E l own cc nL rt n Ret G) (hd : decode cc pc = .ok (.invokevirtual ix, 3)) (hm : qMv own ix y b nL2 rt2 ar) (M : CM E l y b nL2 rt2 n2 (qr k i :: As) σ Ret2) (hn : n2 < n) (hs : qsh (eT E) k = .inl (ci, fl)) (hcl : clz[ci]? = some (C2, T2, N2)) (hy : C2 = y.cls) (hc : qcn (eT E) k = c) (hi : 0 ≤ i ∧ i < c) (hst : stv = As.reverse ++ qr k i :: st) (har : As.length = ar) (hW : ((st.map (qv E)).map fun v => v.category).sum ≤ 8) (kk : ∀ (r : Option qV) (σ' : qSt), Ret2 r σ' → G σ' (pc + 3) lv (r.toList ++ st)) : G σ pc lv stv := by
  obtain ⟨p, e, s, m, args, below, meth, cd, ws, ⟨hx, hb, hml, ho, hw⟩, hin, hlk, hrt, hT, hK, rfl⟩ := C
  intro H locs ls hP hS hl
  subst hst
  subst hy
  obtain ⟨q, rfl⟩ : ∃ q : Nat, i = q := ⟨i.toNat, by omega⟩
  have hlt : q < qcn (eT E) k := by omega
  have hg := qBlk_get (σ := σ) hT hlt
  have hcell : qCell E σ k q = .inr (ci, qFld E (σ k q) q fl 0) := by unfold qCell; rw [hs]; rfl
  rw [hcell] at hg
  obtain ⟨m1, m2, m3, m4, m5, m6, m7, m8, m9⟩ := hm
  have hts : ∀ w ∈ qTbl, w.before args s = true := fun w h => hw w (hin w h)
  have hR : (qRm n2).frames + 1 ≤ (qRm n).frames ∧ 8 + (nL2 + 11) + (qRm n2).locals ≤ (qRm n).locals := by simp only [qRm]; omega
  have hws : ∀ w ∈ (Cond.code y b nL2 rt2 :: qTbl), w ∈ qTbl := fun w h => by
    rcases List.mem_cons.mp h with rfl | h
    · exact m5
    · exact h
  have hrun := va_runV (p := p) (e := e) (m := m) (args := args) (below := below) (meth := meth) (c := cd) (locs := locs) (R := qRm n) (cells := 0) (slots := 0) (As := As.map (qv E)) (rest := st.map (qv E)) (g := F0 m pc ls ((As.reverse ++ qr k q :: st).map (qv E))) (b := eo E + qad (eT E) k q) (C := y.cls) (n := ar) (H := H) (s := s) ⟨hx, hb, hml, ho, hw⟩ M
    ⟨callB_of ar hw (q_goodIn hin hws) rfl rfl rfl (hts _ m4) (hts _ m1) ⟨m6, m7, m8⟩ hR, hts _ m2, hts _ m3⟩
    ⟨qPc_blind E _ σ, va_recv hK.1 hP hcl hg, fun U hU hWU => ⟨by simp [qv_r (q_n99 hT hlt)], hK.at hS hU hWU, by rw [hU]; exact hP⟩⟩
    rfl (by simpa using har) hl.1 (by simp [qv_r (q_n99 hT hlt)]) (lv_room hW) hd ⟨Nat.zero_le _, Nat.zero_le _⟩
  refine q_call hrun hS (fun r σ' H1 locs1 h1 h2 h3 => ?_)
  have := kk r σ' h1 H1 locs1 ls h2 h3 hl
  rw [q_map_toList, ← List.map_append]
  exact this
theorem r_callS {ix ar nL2 n2 : Nat} {y : MethodName} {b : ByteArray} {rt2 : Option FieldType} {As stv : List qV} {Ret2 : Option qV → qSt → Prop} (C : Cx E l own cc nL rt n Ret G) (hd : decode cc pc = .ok (.invokestatic ix, 3)) (hm : qMs own ix y b nL2 rt2 ar) (M : CM E l y b nL2 rt2 n2 As σ Ret2) (hn : n2 < n) (hst : stv = As.reverse ++ st) (har : As.length = ar) (hW : ((st.map (qv E)).map fun v => v.category).sum ≤ 8) (kk : ∀ (r : Option qV) (σ' : qSt), Ret2 r σ' → G σ' (pc + 3) lv (r.toList ++ st)) : G σ pc lv stv := by
  obtain ⟨p, e, s, m, args, below, meth, cd, ws, ⟨hx, hb, hml, ho, hw⟩, hin, hlk, hrt, hT, hK, rfl⟩ := C
  intro H locs ls hP hS hl
  subst hst
  obtain ⟨m1, m2, m4, m5, m6, m7, m8, m9⟩ := hm
  have hts : ∀ w ∈ qTbl, w.before args s = true := fun w h => hw w (hin w h)
  have hR : (qRm n2).frames + 1 ≤ (qRm n).frames ∧ 8 + (nL2 + 11) + (qRm n2).locals ≤ (qRm n).locals := by simp only [qRm]; omega
  have hws : ∀ w ∈ (Cond.code y b nL2 rt2 :: qTbl), w ∈ qTbl := fun w h => by
    rcases List.mem_cons.mp h with rfl | h
    · exact m5
    · exact h
  have hrun := va_runS (p := p) (e := e) (m := m) (args := args) (below := below) (meth := meth) (c := cd) (locs := locs) (R := qRm n) (cells := 0) (slots := 0) (As := As.map (qv E)) (rest := st.map (qv E)) (g := F0 m pc ls ((As.reverse ++ st).map (qv E))) (n := ar) (H := H) (s := s) ⟨hx, hb, hml, ho, hw⟩ M
    ⟨callB_of ar hw (q_goodIn hin hws) rfl rfl rfl (hts _ m4) (hts _ m1) ⟨m6, m7, m8⟩ hR, hts _ m2⟩
    ⟨qPc_blind E _ σ, fun U hU hWU => ⟨rfl, hK.at hS hU hWU, by rw [hU]; exact hP⟩⟩
    rfl (by simpa using har) hl.1 (by simp) (lv_room hW) hd ⟨Nat.zero_le _, Nat.zero_le _⟩
  refine q_call hrun hS (fun r σ' H1 locs1 h1 h2 h3 => ?_)
  have := kk r σ' h1 H1 locs1 ls h2 h3 hl
  rw [q_map_toList, ← List.map_append]
  exact this
/-- locals at the entry -/
def qEnt : List qV → List (Option qV)
  | [] => []
  | .inr (.inl z) :: r => some (ql z) :: none :: qEnt r
  | v :: r => some v :: qEnt r
theorem qEnt_as (E : qE) : ∀ (av : List qV) (b k : Nat), qAs E (qEnt av ++ List.replicate k none) b = lv_args b (av.map (qv E))
  | [], b, k => by
    have : ∀ (k b : Nat), qAs E (List.replicate k none) b = [] := by
      intro k
      induction k with
      | zero => intro b; rfl
      | succ k ih => intro b; simp [List.replicate_succ, qAs, ih]
    simp [qEnt, lv_args, this]
  | .inl z :: r, b, k => by
    simp only [qEnt, List.cons_append, qAs, List.map_cons, lv_args]
    rw [qEnt_as E r, if_neg (by simp [qv, Value.category])]
  | .inr (.inl z) :: r, b, k => by
    simp only [qEnt, List.cons_append, qAs, List.map_cons, lv_args]
    rw [qEnt_as E r, if_pos (by simp [qv, Value.category])]
  | .inr (.inr (q, i)) :: r, b, k => by
    simp only [qEnt, List.cons_append, qAs, List.map_cons, lv_args]
    rw [qEnt_as E r, if_neg (by rw [qv_cat E (qr q i) (by intro z h; cases h)]; omega)]
theorem qEnt_len (E : qE) : ∀ av : List qV, (lg_sl (av.map (qv E))).length = (qEnt av).length
  | [] => rfl
  | .inl z :: r => by
    have := qEnt_len E r
    simp [lg_sl, qEnt, qv, Value.category] at this ⊢
    omega
  | .inr (.inl z) :: r => by
    have := qEnt_len E r
    simp [lg_sl, qEnt, qv, Value.category] at this ⊢
    omega
  | .inr (.inr (q, i)) :: r => by
    have := qEnt_len E r
    obtain ⟨x, hx⟩ := qv_ref E q i
    simp only [lg_sl] at this
    simp only [lg_sl, qEnt, List.map_cons, List.flatMap_cons, hx, List.length_append, List.length_cons, this]
    simp [Value.category]
    omega
theorem CM.mk {y : MethodName} {b : ByteArray} {av : List qV} (hT : qTok (eT E)) (hy : plainName y.cls = true) (hl : (qEnt av).length ≤ nL) (h : ∀ G, Cx E l y.cls b nL rt n Ret G → G σ 0 (qEnt av ++ List.replicate (nL - (qEnt av).length) none) []) : CM E l y b nL rt n av σ Ret := by
  refine Met.ofW (cc := b) (maxL := nL) (ret := rt) hy rfl ?_
  intro p e s m args below meth c s₁ B hml hv
  obtain ⟨rfl, hwok, hP⟩ := hv
  rw [lg_entry_eq, qEnt_len]
  refine h _ ⟨p, e, s, m, _, below, meth, c, _, ⟨B.exec, B.bytes, hml, findClass_of_methodNamed B.named, atoms_spec B.pre⟩, fun w hw => List.mem_cons_of_mem _ hw, B.notSynchronized, B.returns, hT, hwok, rfl⟩ s.heap [] _ hP va_S.rf ?_
  unfold qLs
  rw [qEnt_as]
  have := lv_entry (av.map (qv E)) (n := nL) (by rw [qEnt_len]; exact hl)
  rw [qEnt_len] at this
  exact this
def qCpy (σ : qSt) (k1 : Nat) (i1 sp : Int) (k2 : Nat) (i2 dp m : Int) : qSt := fun a b c => if a = k2 ∧ b = i2 ∧ dp ≤ c ∧ c < dp + m then σ k1 i1 (sp + (c - dp)) else σ a b c
theorem r_acopy {ix k1 k2 c1 c2 N1 N2 x1 x2 : Nat} {i1 i2 sp dp m : Int} (C : Cx E l own cc nL rt n Ret G) (hd : decode cc pc = .ok (.invokestatic ix, 3)) (hm : Cond.methodLink own ix arraycopyName ∈ qTbl) (hs1 : qsh (eT E) k1 = .inr (N1, 0, x1)) (hc1 : qcn (eT E) k1 = c1) (hi1 : 0 ≤ i1 ∧ i1 < c1) (hs2 : qsh (eT E) k2 = .inr (N2, 0, x2)) (hc2 : qcn (eT E) k2 = c2) (hi2 : 0 ≤ i2 ∧ i2 < c2) (h1 : 0 ≤ sp) (h2 : 0 ≤ dp) (h3 : 0 ≤ m) (h4 : sp + m ≤ N1) (h5 : dp + m ≤ N2) (hn : 1 ≤ n) (hW : ((st.map (qv E)).map fun v => v.category).sum ≤ 8) (kk : G (qCpy σ k1 i1 sp k2 i2 dp m) (pc + 3) lv st) (hN1 : N1 < 2147483648 := by decide) (hN2 : N2 < 2147483648 := by decide) (hnat : Cond.native arraycopyName ∈ qTbl) (hst : Cond.static arraycopyName ∈ qTbl) (hini : Cond.initialized "java/lang/System" ∈ qTbl) : G σ pc lv (qi m :: qi dp :: qr k2 i2 :: qi sp :: qr k1 i1 :: st) := by
  obtain ⟨p, e, s, mm, args, below, meth, cd, ws, ⟨hx, hb, hml, ho, hw⟩, hin, hlk, hrt, hT, hK, rfl⟩ := C
  intro H locs ls hP hS hl
  obtain ⟨q1, rfl⟩ : ∃ q : Nat, i1 = q := ⟨i1.toNat, by omega⟩
  obtain ⟨q2, rfl⟩ : ∃ q : Nat, i2 = q := ⟨i2.toNat, by omega⟩
  have hlt1 : q1 < qcn (eT E) k1 := by omega
  have hlt2 : q2 < qcn (eT E) k2 := by omega
  have hg1 := qBlk_get (σ := σ) hT hlt1
  have hg2 := qBlk_get (σ := σ) hT hlt2
  have hcell : ∀ (σ : qSt) (k q N x : Nat), qsh (eT E) k = .inr (N, 0, x) → qCell E σ k q = .inl (eca E 0, N, .inl fun j => Int32.ofInt (σ k q j)) := fun σ k q N x h => by unfold qCell; rw [h]; rfl
  rw [hcell σ k1 q1 N1 x1 hs1] at hg1
  rw [hcell σ k2 q2 N2 x2 hs2] at hg2
  simp only [List.map_cons, qv_r (q_n99 hT hlt1), qv_r (q_n99 hT hlt2)]
  have nn : ∀ z : Int, 0 ≤ z → z < 2147483648 → ¬ Int32.ofInt z < 0 := fun z a b => by rw [z_0, z_lt ⟨by omega, b⟩ (by decide)]; omega
  have e1 : (Int32.ofInt sp).toNatClampNeg = sp.toNat := z_nat h1 (by omega)
  have e2 : (Int32.ofInt dp).toNatClampNeg = dp.toNat := z_nat h2 (by omega)
  have e3 : (Int32.ofInt m).toNatClampNeg = m.toNat := z_nat h3 (by omega)
  refine va_copyi (D := eD E) (cl := clz) (A := eA E) (ty := .int) hx hb (by rw [hml]; exact hl.1.symm) ho (hw _ (hin _ hm)) (hw _ (hin _ hnat)) (hw _ (hin _ hst)) (hw _ (hin _ hini)) hK.1 hP (qBlk_D E σ) hS _ _ 0 0 hg1 hg2 rfl rfl rfl (nn sp h1 (by omega)) (nn dp h2 (by omega)) (nn m h3 (by omega)) (by rw [e1, e3]; omega) (by rw [e2, e3]; omega) (fun _ _ => rfl) hn ?_ hd (fun H1 locs1 hP1 _ hS1 => ?_)
  · have : nativeFrameWords "java/lang/System" "arraycopy" 5 + 11 ≤ 32 := by decide
    have h8 : ((st.map (qv E)).map fun v => v.category).sum ≤ 8 := hW
    show _ ≤ 40 * n
    omega
  · refine kk H1 locs1 ls ?_ hS1 hl
    rw [e1, e2, e3] at hP1
    have e4 : va_cpy (fun j : Nat => Int32.ofInt (σ k1 q1 j)) (fun j : Nat => Int32.ofInt (σ k2 q2 j)) sp.toNat dp.toNat m.toNat = fun j : Nat => Int32.ofInt (qCpy σ k1 q1 sp k2 q2 dp m k2 q2 j) := by
      funext j
      by_cases hj : dp ≤ (j : Int) ∧ (j : Int) < dp + m
      · have hj2 : dp.toNat ≤ j ∧ j < dp.toNat + m.toNat := by omega
        simp only [va_cpy, qCpy, hj2, hj, and_self, if_true]
        congr 2
        omega
      · have hj2 : ¬ (dp.toNat ≤ j ∧ j < dp.toNat + m.toNat) := by omega
        simp only [va_cpy, qCpy, if_neg hj2]
        rw [if_neg (by rintro ⟨_, _, h⟩; exact hj h)]
    rw [e4, ← hcell (qCpy σ k1 q1 sp k2 q2 dp m) k2 q2 N2 x2 hs2] at hP1
    rwa [qBlk_set hT hlt2 (fun a b hab c => by simp only [qCpy]; rw [if_neg]; rintro ⟨e1, e2, -⟩; exact hab ⟨e1, by exact_mod_cast e2⟩)] at hP1
theorem CM.weaken {y : MethodName} {b : ByteArray} {av : List qV} {Ret2 : Option qV → qSt → Prop} (h : CM E l y b nL rt n av σ Ret) (hR : ∀ r σ', Ret r σ' → Ret2 r σ') : CM E l y b nL rt n av σ Ret2 := by
  have key : ∀ (a : Array Value) (st : State) (o : Outcome) (t : State), qQc E Ret a st o t → qQc E Ret2 a st o t := by
    rintro a st o t ⟨⟨r, σ', h1, h2, h3⟩, h4⟩
    exact ⟨⟨r, σ', h1, hR r σ' h2, h3⟩, h4⟩
  unfold CM Met at h ⊢
  intro p e a1 a2 a3 s m args below a4 a5 a6 a7
  obtain ⟨k, o, b1, b2, b3, b4, b5⟩ := h p e a1 a2 a3 s m args below a4 a5 a6 a7
  exact ⟨k, o, b1, b2, b3, key _ _ _ _ b4, b5⟩
end
