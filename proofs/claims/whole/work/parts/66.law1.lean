/-! THE LAW: two blocks side by side, and the script -/
def tL : qT := (0, fun _ => (0, 0), fun k _ => if k = 0 then 0 else 213, fun _ => 0, fun _ => .inr (0, 0, 0))
def EL (o1 b : Nat) (D : va_G) (ca : Nat → ClassId) : qE := (tL, o1, b, D, ca)
abbrev E1 (o1 u : Nat) (D : va_G) (ca : Nat → ClassId) : qE := ED (o1, u, D, ca)
abbrev E2 (o1 u : Nat) (D : va_G) (ca : Nat → ClassId) : qE := EM (o1 + 213, u, D, ca)
def lA (s : State) : Nat → Prop := fun q => s.heap.size ≤ q
def Lx (E : qE) (l : Launch) (b L : Nat) (xs : Nat → Int32) (o1 u : Nat) (D : va_G) (ca : Nat → ClassId) (G : qSt → qSt → Nat → List (Option qV) → List qV → Prop) : Prop :=
  ∃ (p : Program) (e : Env) (s : State) (m : MethodId) (below : List Frame) (meth : Method) (c : Code),
    lw_At p s m meth c b L xs ∧ s.heap.size = o1 ∧ qWok (E1 o1 u D ca) s s.heap ∧ qWok (E2 o1 u D ca) s s.heap ∧ E = EL o1 b D ca ∧ L ≤ 3072 ∧
    G = fun σ τ pc lv st => ∀ (H : Heap) (locs : List Loc) (ls : Array Slot), va_P D clz (qBlk (E1 o1 u D ca) σ) H → va_P D clz (qBlk (E2 o1 u D ca) τ) H → va_S (lA s) s.heap H locs → qLs E ls 4 lv → W p l e room_1 s m #[Value.ref b] below meth c H locs 229 11478 (lw_Z below #[Value.ref b] s) (F0 m pc ls (st.map (qv E)))
theorem tbl_in {w : Cond} (h : w ∈ qTbl) : w ∈ lw_tbl := (List.mem_filter.mp h).1
section
variable {E : qE} {l : Launch} {b L : Nat} {xs : Nat → Int32} {o1 u : Nat} {D : va_G} {ca : Nat → ClassId} {G : qSt → qSt → Nat → List (Option qV) → List qV → Prop} {σ τ : qSt} {pc : Nat} {lv : List (Option qV)} {st : List qV}
theorem Lx.go {st2 : List qV} {pc2 : Nat} (C : Lx E l b L xs o1 u D ca G) (h : ∀ (p : Program) (e : Env) (R : Room) (s : State) (m : MethodId) (args : Array Value) (below : List Frame) (meth : Method) (c : Code) (H : Heap) (locs : List Loc) (Q : State → Prop) (ls : Array Slot), p.tables.exec = Jvm.exec → c.code = code → qLs E ls 4 lv → s.vm.findClass RL = some m.cls → (∀ w ∈ qTbl, w.before args s = true) → W p l e R s m args below meth c H locs 229 11478 Q (F0 m pc2 ls (st2.map (qv E))) → W p l e R s m args below meth c H locs 229 11478 Q (F0 m pc ls (st.map (qv E)))) (k : G σ τ pc2 lv st2) : G σ τ pc lv st := by
  obtain ⟨p, e, s, m, below, meth, c, ⟨hx, hb, hr, hml, ho, hts, hX, hbl, hlk, hgv⟩, hsz, hW1, hW2, hE, hL, rfl⟩ := C
  intro H locs ls h1 h2 hS hl
  exact h _ _ _ _ _ _ _ _ _ _ _ _ _ hx hb hl ho (fun w h => hts w (tbl_in h)) (k H locs ls h1 h2 hS hl)
theorem Lx.br {st2 : List qV} {pc2 pc3 : Nat} {a b' : Prop} (C : Lx E l b L xs o1 u D ca G) (h : ∀ (p : Program) (e : Env) (R : Room) (s : State) (m : MethodId) (args : Array Value) (below : List Frame) (meth : Method) (c : Code) (H : Heap) (locs : List Loc) (Q : State → Prop) (ls : Array Slot), p.tables.exec = Jvm.exec → c.code = code → (a → W p l e R s m args below meth c H locs 229 11478 Q (F0 m pc2 ls (st2.map (qv E)))) → (b' → W p l e R s m args below meth c H locs 229 11478 Q (F0 m pc3 ls (st2.map (qv E)))) → W p l e R s m args below meth c H locs 229 11478 Q (F0 m pc ls (st.map (qv E)))) (kt : a → G σ τ pc2 lv st2) (kf : b' → G σ τ pc3 lv st2) : G σ τ pc lv st := by
  obtain ⟨p, e, s, m, below, meth, c, ⟨hx, hb, hr, hml, ho, hts, hX, hbl, hlk, hgv⟩, hsz, hW1, hW2, hE, hL, rfl⟩ := C
  intro H locs ls h1 h2 hS hl
  exact h _ _ _ _ _ _ _ _ _ _ _ _ _ hx hb (fun q => kt q H locs ls h1 h2 hS hl) (fun q => kf q H locs ls h1 h2 hS hl)
theorem Lx.sto {lv2 : List (Option qV)} {st2 : List qV} {pc2 : Nat} (C : Lx E l b L xs o1 u D ca G) (h : ∀ (p : Program) (e : Env) (R : Room) (s : State) (m : MethodId) (args : Array Value) (below : List Frame) (meth : Method) (c : Code) (H : Heap) (locs : List Loc) (Q : State → Prop) (ls : Array Slot), p.tables.exec = Jvm.exec → c.code = code → qLs E ls 4 lv → (∀ ls, qLs E ls 4 lv2 → W p l e R s m args below meth c H locs 229 11478 Q (F0 m pc2 ls (st2.map (qv E)))) → W p l e R s m args below meth c H locs 229 11478 Q (F0 m pc ls (st.map (qv E)))) (k : G σ τ pc2 lv2 st2) : G σ τ pc lv st := by
  obtain ⟨p, e, s, m, below, meth, c, ⟨hx, hb, hr, hml, ho, hts, hX, hbl, hlk, hgv⟩, hsz, hW1, hW2, hE, hL, rfl⟩ := C
  intro H locs ls h1 h2 hS hl
  exact h _ _ _ _ _ _ _ _ _ _ _ _ _ hx hb hl (fun ls2 h3 => k H locs ls2 h1 h2 hS h3)
theorem l_iconst {z : Int} (C : Lx E l b L xs o1 u D ca G) (hd : decode code pc = .ok (.iconst z, 1)) (k : G σ τ (pc + 1) lv (qi z :: st)) : G σ τ pc lv st := C.go (fun _ _ _ _ _ _ _ _ _ _ _ _ _ hx hb _ _ _ k => lv_iconst hx hb hd rfl k) k
theorem l_bipush {z : Int} (C : Lx E l b L xs o1 u D ca G) (hd : decode code pc = .ok (.bipush z, 2)) (k : G σ τ (pc + 2) lv (qi z :: st)) (hv : (Int8.ofInt z).toInt32 = Int32.ofInt z := by decide) : G σ τ pc lv st := C.go (fun _ _ _ _ _ _ _ _ _ _ _ _ _ hx hb _ _ _ k => lv_bipush hx hb hd hv k) k
theorem l_iload_n {i : Fin 4} {z : Int} (C : Lx E l b L xs o1 u D ca G) (hd : decode code pc = .ok (.iload_n i, 1)) (hl : lv[(i : Nat)]? = some (some (qi z))) (k : G σ τ (pc + 1) lv (qi z :: st)) : G σ τ pc lv st := C.go (fun _ _ _ _ _ _ _ _ _ _ _ _ _ hx hb h _ _ k => lv_iload_n hx hb hd rfl (h.at hl) k) k
theorem l_aload_n {i : Fin 4} {q : Nat} {z : Int} (C : Lx E l b L xs o1 u D ca G) (hd : decode code pc = .ok (.aload_n i, 1)) (hl : lv[(i : Nat)]? = some (some (qr q z))) (k : G σ τ (pc + 1) lv (qr q z :: st)) : G σ τ pc lv st := C.go (fun _ _ _ _ _ _ _ _ _ _ _ _ _ hx hb h _ _ k => by
  obtain ⟨x, hx2⟩ := qv_ref E q z
  have h2 := h.at hl
  simp only [List.map_cons] at k
  rw [hx2] at h2 k
  exact lv_aload_n hx hb hd rfl h2 k) k
theorem l_istore_n {i : Fin 4} {z : Int} {lv2 : List (Option qV)} (C : Lx E l b L xs o1 u D ca G) (hd : decode code pc = .ok (.istore_n i, 1)) (hl : qSet lv i (some (qi z)) = some lv2) (ho : qOk lv i = true) (hn : (i : Nat) < 4) (k : G σ τ (pc + 1) lv2 st) : G σ τ pc lv (qi z :: st) := C.sto (fun _ _ _ _ _ _ _ _ _ _ _ _ _ hx hb h k => lv_istore_n hx hb hd rfl h hn rfl (fun ls h2 => k ls (qLs.set1 (v := qi z) hl ho h2))) k
theorem l_astore_n {i : Fin 4} {q : Nat} {z : Int} {lv2 : List (Option qV)} (C : Lx E l b L xs o1 u D ca G) (hd : decode code pc = .ok (.astore_n i, 1)) (hl : qSet lv i (some (qr q z)) = some lv2) (ho : qOk lv i = true) (hn : (i : Nat) < 4) (k : G σ τ (pc + 1) lv2 st) : G σ τ pc lv (qr q z :: st) := C.sto (fun _ _ _ _ _ _ _ _ _ _ _ _ _ hx hb h k => by
  obtain ⟨x, hx2⟩ := qv_ref E q z
  simp only [List.map_cons]
  rw [hx2]
  refine lv_astore_n hx hb hd rfl h hn rfl (fun ls h2 => k ls (qLs.set1 (v := qr q z) hl ho ?_))
  rw [hx2]
  exact h2) k
theorem l_iinc {i : Nat} {d z : Int} {lv2 : List (Option qV)} (C : Lx E l b L xs o1 u D ca G) (hd : decode code pc = .ok (.iinc i d, 3)) (h0 : lv[i]? = some (some (qi z))) (hl : qSet lv i (some (qi (z + d))) = some lv2) (ho : qOk lv i = true) (hn : i < 4) (k : G σ τ (pc + 3) lv2 st) : G σ τ pc lv st := C.sto (fun _ _ _ _ _ _ _ _ _ _ _ _ _ hx hb h k => by
  obtain ⟨j, hj⟩ := qAs_at (E := E) h0
  exact lv_iinc hx hb hd h hj (z_add z d) hn rfl (fun ls h2 => k ls (qLs.set1 (v := qi (z + d)) hl ho h2))) k
theorem l_iadd {a b2 : Int} (C : Lx E l b L xs o1 u D ca G) (hd : decode code pc = .ok (.iadd, 1)) (k : G σ τ (pc + 1) lv (qi (a + b2) :: st)) : G σ τ pc lv (qi b2 :: qi a :: st) := C.go (fun _ _ _ _ _ _ _ _ _ _ _ _ _ hx hb _ _ _ k => lv_iadd hx hb hd (by rw [z_add]; exact k)) k
theorem l_isub {a b2 : Int} (C : Lx E l b L xs o1 u D ca G) (hd : decode code pc = .ok (.isub, 1)) (k : G σ τ (pc + 1) lv (qi (a - b2) :: st)) : G σ τ pc lv (qi b2 :: qi a :: st) := C.go (fun _ _ _ _ _ _ _ _ _ _ _ _ _ hx hb _ _ _ k => lv_isub hx hb hd (by rw [z_sub]; exact k)) k
theorem l_iand {a b2 : Int} (w : Int) (C : Lx E l b L xs o1 u D ca G) (hd : decode code pc = .ok (.iand, 1)) (hw : Int32.ofInt a &&& Int32.ofInt b2 = Int32.ofInt w) (k : G σ τ (pc + 1) lv (qi w :: st)) : G σ τ pc lv (qi b2 :: qi a :: st) := C.go (fun _ _ _ _ _ _ _ _ _ _ _ _ _ hx hb _ _ _ k => lv_iand hx hb hd (by rw [hw]; exact k)) k
theorem l_goto {off : Int} (tgt : Nat) (C : Lx E l b L xs o1 u D ca G) (hd : decode code pc = .ok (.goto off, 3)) (ht : (pc : Int) + off = (tgt : Int)) (k : G σ τ tgt lv st) : G σ τ pc lv st := C.go (fun _ _ _ _ _ _ _ _ _ _ _ _ _ hx hb _ _ _ k => lv_goto hx hb hd ht k) k
theorem l_if_eq {a off : Int} (tgt : Nat) (C : Lx E l b L xs o1 u D ca G) (hd : decode code pc = .ok (.ifCond .eq off, 3)) (ht : (pc : Int) + off = (tgt : Int)) (ha : InI a) (kt : a = 0 → G σ τ tgt lv st) (kf : ¬ a = 0 → G σ τ (pc + 3) lv st) : G σ τ pc lv (qi a :: st) := C.br (fun _ _ _ _ _ _ _ _ _ _ _ _ _ hx hb kt kf => lv_if_eq hx hb hd ht (fun h => kt ((z_eq ha (by decide : InI 0)).mp h)) (fun h => kf (fun q => h ((z_eq ha (by decide : InI 0)).mpr q)))) kt kf
theorem l_ic_gt {a b2 off : Int} (tgt : Nat) (C : Lx E l b L xs o1 u D ca G) (hd : decode code pc = .ok (.if_icmp .gt off, 3)) (ht : (pc : Int) + off = (tgt : Int)) (ha : InI a) (hb' : InI b2) (kt : b2 < a → G σ τ tgt lv st) (kf : ¬ b2 < a → G σ τ (pc + 3) lv st) : G σ τ pc lv (qi b2 :: qi a :: st) := C.br (fun _ _ _ _ _ _ _ _ _ _ _ _ _ hx hb kt kf => lv_icmp_gt hx hb hd ht (fun h => kt ((z_lt hb' ha).mp h)) (fun h => kf (fun q => h ((z_lt hb' ha).mpr q)))) kt kf
theorem l_tabOut {a dflt lo hi : Int} {offs : Array Int} {len : Nat} (tgt : Nat) (C : Lx E l b L xs o1 u D ca G) (hd : decode code pc = .ok (.tableswitch dflt lo hi offs, len)) (ht : (pc : Int) + dflt = (tgt : Int)) (ha : InI a) (h : a < lo ∨ hi < a) (k : G σ τ tgt lv st) : G σ τ pc lv (qi a :: st) := C.go (fun _ _ _ _ _ _ _ _ _ _ _ _ _ hx hb _ _ _ k => lv_tableOut hx hb hd (by rw [z_toInt ha]; exact h) ht k) k
theorem l_tabIn {a dflt lo hi : Int} {offs : Array Int} {len : Nat} {off : Int} (tgt : Nat) (C : Lx E l b L xs o1 u D ca G) (hd : decode code pc = .ok (.tableswitch dflt lo hi offs, len)) (ha : InI a) (h1 : ¬ a < lo) (h2 : ¬ hi < a) (ho : offs[(a - lo).toNat]? = some off) (ht : (pc : Int) + off = (tgt : Int)) (k : G σ τ tgt lv st) : G σ τ pc lv (qi a :: st) := C.go (fun _ _ _ _ _ _ _ _ _ _ _ _ _ hx hb _ _ _ k => lv_tableIn hx hb hd (by rw [z_toInt ha]; exact h1) (by rw [z_toInt ha]; exact h2) (by rw [z_toInt ha]; exact ho) ht k) k
theorem l_same {z off : Int} (tgt : Nat) (C : Lx E l b L xs o1 u D ca G) (hd : decode code pc = .ok (.if_icmp .eq off, 3)) (ht : (pc : Int) + off = (tgt : Int)) (k : G σ τ tgt lv st) : G σ τ pc lv (qi z :: qi z :: st) := C.br (a := True) (b' := False) (pc3 := pc) (st2 := st) (fun _ _ _ _ _ _ _ _ _ _ _ _ _ hx hb kt _ => lv_icmp_eq hx hb hd ht (fun _ => kt trivial) (fun h => absurd rfl h)) (fun _ => k) (fun h => h.elim)
theorem l_v {a b2 : Int} (h : a = b2) (k : G σ τ pc lv (qi b2 :: st)) : G σ τ pc lv (qi a :: st) := h ▸ k
theorem ii (x : Int32) : InI x.toInt := ⟨Int32.le_toInt x, Int32.toInt_lt x⟩
theorem l_sld {z : Int} (C : Lx E l b L xs o1 u D ca G) (hd : decode code pc = .ok (.iaload, 1)) (hz : 0 ≤ z ∧ z < L) (kk : G σ τ (pc + 1) lv (qi (xs z.toNat).toInt :: st)) : G σ τ pc lv (qi z :: qr 99 0 :: st) := by
  obtain ⟨p, e, s, m, below, meth, c, ⟨hx, hb, hr, hml, ho, hts, hX, hbl, hlk, hgv⟩, hsz, hW1, hW2, rfl, hL, rfl⟩ := C
  intro H locs ls h1 h2 hS hl
  refine va_sld hx hb hX hbl (show ¬ lA s b by unfold lA; omega) hS (i := Int32.ofInt z) (z_in hz.1 hz.2 (by omega)) hd ?_
  have := kk H locs ls h1 h2 hS hl
  rw [z_nat hz.1 (by omega)]
  have e : Int32.ofInt (xs z.toNat).toInt = xs z.toNat := Int32.ofInt_toInt _
  simp only [List.map_cons, qv, e] at this
  exact this
theorem l_slen (C : Lx E l b L xs o1 u D ca G) (hd : decode code pc = .ok (.arraylength, 1)) (kk : G σ τ (pc + 1) lv (qi (L : Int) :: st)) : G σ τ pc lv (qr 99 0 :: st) := by
  obtain ⟨p, e, s, m, below, meth, c, ⟨hx, hb, hr, hml, ho, hts, hX, hbl, hlk, hgv⟩, hsz, hW1, hW2, rfl, hL, rfl⟩ := C
  intro H locs ls h1 h2 hS hl
  exact va_slen hx hb hX hbl (show ¬ lA s b by unfold lA; omega) hS hd (kk H locs ls h1 h2 hS hl)
theorem l_ret (C : Lx E l b L xs o1 u D ca G) (hd : decode code pc = .ok (.ireturn, 1)) : G σ τ pc lv [qi 1] := by
  obtain ⟨p, e, s, m, below, meth, c, ⟨hx, hb, hr, hml, ho, hts, hX, hbl, hlk, hgv⟩, hsz, hW1, hW2, hE, hL, rfl⟩ := C
  intro H locs ls h1 h2 hS hl
  refine va_forget (fun q hq => hS.2.2 q hq) ?_
  refine W.widen (k := 600000) (n := 7302250) (by decide) (by decide) ?_
  exact lw_ret hx hb hr hlk hd
end
section
variable {p : Program} {l : Launch} {e : Env} {R : Room} {s : State} {m : MethodId} {args : Array Value} {below : List Frame} {meth : Method} {c : Code} {H : Heap} {locs : List Loc} {cells slots : Nat} {Q : State → Prop} {pc : Nat} {ls : Array Slot} {rest st0 : List Value} {a : Array Value} {A : Nat → Prop}
theorem l_run {E : qE} {Ret : Option qV → qSt → Prop} (hr : va_Run p l e R s m args below meth c H locs cells slots 0 0 (F0 m pc ls st0) rest (qQc E Ret a) (eA E)) (hA : ∀ q, eA E q → A q) (hS : va_S A s.heap H locs)
    (kk : ∀ (r : Option qV) (σ' : qSt) (H1 : Heap) (locs1 : List Loc), Ret r σ' → va_P (eD E) clz (qBlk E σ') H1 → (∀ q, q < H.size → ¬ eA E q → H1[q]? = H[q]?) → va_S A s.heap H1 locs1 → W p l e R s m args below meth c H1 locs1 cells slots Q (F0 m (pc + 3) ls ((r.map (qv E)).toList ++ rest))) : W p l e R s m args below meth c H locs cells slots Q (F0 m pc ls st0) := by
  intro T hT X
  obtain ⟨v, st₀, t, T', L, h0, X', hL, e1, e2, ⟨⟨r, σ', hv, hp, hb⟩, hz, hk⟩, st⟩ := hr T hT X
  cases hv
  rw [h0] at hz hk
  obtain ⟨t2, a1, b1⟩ := kk r σ' T'.heap (locs ++ L) hp (by rw [e1]; exact hb) (fun q h1 h2 => by rw [e1]; exact hk q h1 h2)
    ⟨Nat.le_trans hS.1 (by rw [e1]; exact hz), fun q h1 h2 => by rw [e1, hk q (Nat.lt_of_lt_of_le h1 hS.1) (fun z => h2 (hA q z))]; exact hS.2.1 q h1 h2, fun q hq => by
      rcases List.mem_append.mp hq with h | h
      · exact hS.2.2 q h
      · exact hA _ (hL q h)⟩ T' rfl X'
  exact ⟨t2, st t2 a1, b1⟩
theorem l_goodIn {ws2 : List Cond} (h2 : ∀ w ∈ ws2, w ∈ qTbl) : GoodIn lw_tbl ws2 := fun w hw => ⟨tbl_in (h2 w hw), good_of_word (List.mem_filter.mp (h2 w hw)).2⟩
end
theorem qBlk_kept {E : qE} {σ : qSt} {H H1 : Heap} {D : va_G} (h : va_P D clz (qBlk E σ) H) (ho : ∀ q, q < H.size → eo E ≤ q → q < eo E + qN (eT E) → H1[q]? = H[q]?) : va_P D clz (qBlk E σ) H1 := by
  refine h.kept (fun k x hx => ?_)
  have hl : k < qN (eT E) := by
    have := (List.getElem?_eq_some_iff.mp hx).1
    simpa [qBlk] using this
  have hlt := (h k x hx).lt
  simp only [qBlk, List.getElem?_map, List.getElem?_range hl, Option.map_some] at hx
  cases hx
  exact ho _ hlt (by omega) (by omega)
section
variable {E : qE} {l : Launch} {b L : Nat} {xs : Nat → Int32} {o1 u : Nat} {D : va_G} {ca : Nat → ClassId} {G : qSt → qSt → Nat → List (Option qV) → List qV → Prop} {σ τ : qSt} {pc : Nat} {lv : List (Option qV)} {st : List qV}
theorem l_callD {ix ar nL2 : Nat} {y : MethodName} {b2 : ByteArray} {As stv : List qV} {P : Int → qSt → Prop} (C : Lx E l b L xs o1 u D ca G) (hd : decode code pc = .ok (.invokevirtual ix, 3)) (hm : qMv RL ix y b2 nL2 (some .int) ar) (hy : RX10 = y.cls) (M : CM (E1 o1 u D ca) l y b2 nL2 (some .int) 20 (qr 0 0 :: As) σ (Ri P)) (hst : stv = As.reverse ++ qr 0 0 :: st) (har : As.length = ar) (hAs : ∀ E' : qE, As.map (qv E') = As.map (qv (E1 o1 u D ca))) (hW : ∀ E' : qE, ((st.map (qv E')).map fun v => v.category).sum ≤ 8) (kk : ∀ (z : Int) (σ' : qSt), P z σ' → G σ' τ (pc + 3) lv (qi z :: st)) : G σ τ pc lv stv := by
  obtain ⟨p, e, s, m, below, meth, c, ⟨hx, hb, hr, hml, ho, hts, hX, hbl, hlk, hgv⟩, hsz, hW1, hW2, hE, hL, rfl⟩ := C
  intro H locs ls h1 h2 hS hl
  subst hst
  subst hE
  have hg := qBlk_get (E := E1 o1 u D ca) (σ := σ) tD_ok (k := 0) (i := 0) (Nat.le_of_ble_eq_true rfl)
  obtain ⟨m1, m2, m3, m4, m5, m6, m7, m8, m9⟩ := hm
  have htq : ∀ w ∈ qTbl, w.before #[Value.ref b] s = true := fun w h => hts w (tbl_in h)
  have hws : ∀ w ∈ (Cond.code y b2 nL2 (some .int) :: qTbl), w ∈ qTbl := fun w h => by
    rcases List.mem_cons.mp h with rfl | h
    · exact m5
    · exact h
  have hrun := va_runV (p := p) (l := l) (e := e) (m := m) (args := #[Value.ref b]) (below := below) (meth := meth) (c := c) (locs := locs) (R := room_1) (cells := 229) (slots := 11478) (As := As.map (qv (E1 o1 u D ca))) (rest := st.map (qv (EL o1 b D ca))) (g := F0 m pc ls ((As.reverse ++ qr 0 0 :: st).map (qv (EL o1 b D ca)))) (b := o1 + 0) (C := RX10) (n := ar) (H := H) (s := s) ⟨hx, hb, hml, ho, hts⟩ M
    ⟨callB_of ar hts (l_goodIn hws) rfl rfl rfl (htq _ m4) (htq _ m1) ⟨m6, m7, m8⟩ (by show 20 + 1 ≤ 2048 ∧ 8 + (nL2 + 11) + 40 * 20 ≤ 84000; omega), htq _ m2, by rw [hy]; exact htq _ m3⟩
    ⟨qPc_blind _ _ σ, va_recv (D := D) (ci := 10) hW1.1 h1 rfl hg, fun U hU hWU => ⟨rfl, by rw [hU]; exact (hW1.kept (fun q g1 g2 => hS.2.1 q g1 (by unfold lA; omega))).warm hWU, by rw [hU]; exact h1⟩⟩
    rfl (by simpa using har) hl.1 (by rw [← hAs (EL o1 b D ca)]; simp; rfl) (lv_room (hW _)) hd ⟨by decide, by decide⟩
  refine l_run (A := lA s) hrun (fun q hq => by have := hq.1; show s.heap.size ≤ q; rw [hsz]; exact this) hS (fun r σ' H1 locs1 g1 g2 g3 g4 => ?_)
  obtain ⟨z, rfl, g5⟩ := g1
  exact kk z σ' g5 H1 locs1 ls g2 (qBlk_kept h2 (fun q q1 q2 q3 => g3 q q1 (fun hq => by have h5 : q < o1 + 213 := hq.2; have h6 : o1 + 213 ≤ q := q2; omega))) g4 hl
theorem l_callM {ix ar nL2 : Nat} {y : MethodName} {b2 : ByteArray} {As stv : List qV} {P : Int → qSt → Prop} (C : Lx E l b L xs o1 u D ca G) (hd : decode code pc = .ok (.invokevirtual ix, 3)) (hm : qMv RL ix y b2 nL2 (some .int) ar) (hy : RX11 = y.cls) (M : CM (E2 o1 u D ca) l y b2 nL2 (some .int) 20 (qr 0 0 :: As) τ (Ri P)) (hst : stv = As.reverse ++ qr 1 0 :: st) (har : As.length = ar) (hAs : ∀ E' : qE, As.map (qv E') = As.map (qv (E2 o1 u D ca))) (hW : ∀ E' : qE, ((st.map (qv E')).map fun v => v.category).sum ≤ 8) (kk : ∀ (z : Int) (τ' : qSt), P z τ' → G σ τ' (pc + 3) lv (qi z :: st)) : G σ τ pc lv stv := by
  obtain ⟨p, e, s, m, below, meth, c, ⟨hx, hb, hr, hml, ho, hts, hX, hbl, hlk, hgv⟩, hsz, hW1, hW2, hE, hL, rfl⟩ := C
  intro H locs ls h1 h2 hS hl
  subst hst
  subst hE
  have hg := qBlk_get (E := E2 o1 u D ca) (σ := τ) tM_ok (k := 0) (i := 0) (Nat.le_of_ble_eq_true rfl)
  obtain ⟨m1, m2, m3, m4, m5, m6, m7, m8, m9⟩ := hm
  have htq : ∀ w ∈ qTbl, w.before #[Value.ref b] s = true := fun w h => hts w (tbl_in h)
  have hws : ∀ w ∈ (Cond.code y b2 nL2 (some .int) :: qTbl), w ∈ qTbl := fun w h => by
    rcases List.mem_cons.mp h with rfl | h
    · exact m5
    · exact h
  have hrun := va_runV (p := p) (l := l) (e := e) (m := m) (args := #[Value.ref b]) (below := below) (meth := meth) (c := c) (locs := locs) (R := room_1) (cells := 229) (slots := 11478) (As := As.map (qv (E2 o1 u D ca))) (rest := st.map (qv (EL o1 b D ca))) (g := F0 m pc ls ((As.reverse ++ qr 1 0 :: st).map (qv (EL o1 b D ca)))) (b := o1 + 213 + 0) (C := RX11) (n := ar) (H := H) (s := s) ⟨hx, hb, hml, ho, hts⟩ M
    ⟨callB_of ar hts (l_goodIn hws) rfl rfl rfl (htq _ m4) (htq _ m1) ⟨m6, m7, m8⟩ (by show 20 + 1 ≤ 2048 ∧ 8 + (nL2 + 11) + 40 * 20 ≤ 84000; omega), htq _ m2, by rw [hy]; exact htq _ m3⟩
    ⟨qPc_blind _ _ τ, va_recv (D := D) (ci := 11) hW2.1 h2 rfl hg, fun U hU hWU => ⟨rfl, by rw [hU]; exact (hW2.kept (fun q g1 g2 => hS.2.1 q g1 (by unfold lA; omega))).warm hWU, by rw [hU]; exact h2⟩⟩
    rfl (by simpa using har) hl.1 (by rw [← hAs (EL o1 b D ca)]; simp; rfl) (lv_room (hW _)) hd ⟨by decide, by decide⟩
  refine l_run (A := lA s) hrun (fun q hq => by have h5 : o1 + 213 ≤ q := hq.1; show s.heap.size ≤ q; omega) hS (fun r τ' H1 locs1 g1 g2 g3 g4 => ?_)
  obtain ⟨z, rfl, g5⟩ := g1
  exact kk z τ' g5 H1 locs1 ls (qBlk_kept h1 (fun q q1 q2 q3 => g3 q q1 (fun hq => by have h5 : o1 + 213 ≤ q := hq.1; have h6 : q < o1 + 213 := q3; omega))) g2 g4 hl
end
