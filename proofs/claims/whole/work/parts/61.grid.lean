/-! rows of rows: nine rows of twenty-five ints, made at once -/
def gdC (cA : ClassId) (h i : Nat) : Cell := arrV cA 9 (fun j => if j < i then .ref (h + 1 + j) else .null)
def gdI (comp : ClassId) : Cell := arrV comp 25 (fun _ => .int 0)
theorem gdC_set (cA : ClassId) (h i : Nat) : (gdC cA h i).setSlot i (.ref (h + 1 + i)) = gdC cA h (i + 1) := by
  unfold gdC
  rw [arrV_store]
  congr 1
  funext j
  unfold updV
  by_cases e : j = i
  · subst e
    simp
  · rw [if_neg e]
    dsimp only
    by_cases e2 : j < i
    · rw [if_pos e2, if_pos (by omega)]
    · rw [if_neg e2, if_neg (by omega)]
def gdS (T : State) (cA comp : ClassId) : Nat → State
  | 0 => T.pushCell (gdC cA T.heap.size 0)
  | i + 1 => ((gdS T cA comp i).pushCell (gdI comp)).setCell T.heap.size (gdC cA T.heap.size (i + 1))
theorem gdC_len (cA : ClassId) (h i : Nat) : (gdC cA h i).slots.size = 9 := arrV_size _ _ _
theorem gdI_len (c : ClassId) : (gdI c).slots.size = 25 := arrV_size _ _ _
theorem gdS_h (T : State) (cA comp : ClassId) : ∀ i : Nat, (gdS T cA comp i).heap.size = T.heap.size + 1 + i ∧ (gdS T cA comp i).heap[T.heap.size]? = some (gdC cA T.heap.size i) ∧ (∀ q, q < T.heap.size → (gdS T cA comp i).heap[q]? = T.heap[q]?) ∧ (∀ j, j < i → (gdS T cA comp i).heap[T.heap.size + 1 + j]? = some (gdI comp)) ∧ (gdS T cA comp i).vm = T.vm ∧ (gdS T cA comp i).slotsUsed = T.slotsUsed + 9 + i * 25
  | 0 => ⟨by simp [gdS], by simp [gdS], fun q hq => State.heap_pushCell_of_lt _ _ hq, fun j hj => absurd hj (Nat.not_lt_zero j), rfl, by simp [gdS, gdC_len]⟩
  | i + 1 => by
    obtain ⟨a, b, d, f, u, w⟩ := gdS_h T cA comp i
    have hlt : T.heap.size < (gdS T cA comp i).heap.size := by omega
    have hb : ((gdS T cA comp i).pushCell (gdI comp)).heap[T.heap.size]? = some (gdC cA T.heap.size i) := by rw [State.heap_pushCell_of_lt (h := hlt)]; exact b
    refine ⟨by simp [gdS, State.setCell, a]; omega, State.heap_setCell_self hb, fun q hq => ?_, fun j hj => ?_, by simp [gdS, u], by simp [gdS, w, gdI_len, Nat.succ_mul]; omega⟩
    · show (((gdS T cA comp i).pushCell (gdI comp)).setCell T.heap.size _).heap[q]? = _
      have hq2 : q < (gdS T cA comp i).heap.size := by omega
      rw [State.heap_setCell_other (Nat.ne_of_gt hq), State.heap_pushCell_of_lt (h := hq2)]
      exact d q hq
    · show (((gdS T cA comp i).pushCell (gdI comp)).setCell T.heap.size _).heap[T.heap.size + 1 + j]? = _
      rw [State.heap_setCell_other (show T.heap.size ≠ T.heap.size + 1 + j by omega)]
      by_cases e : j < i
      · have hq2 : T.heap.size + 1 + j < (gdS T cA comp i).heap.size := by omega
        rw [State.heap_pushCell_of_lt (h := hq2)]
        exact f j e
      · rw [show j = i by omega, ← a]
        exact State.heap_pushCell_size _ _
theorem gdS_top (T : State) (f : JFrame) (cA comp : ClassId) : ∀ i : Nat, gdS (T.setTop f) cA comp i = (gdS T cA comp i).setTop f
  | 0 => rfl
  | i + 1 => by simp only [gdS, gdS_top T f cA comp i, State.heap_setTop, State.pushCell_setTop, State.setCell_setTop]
section
variable {p : Program} {l : Launch} {e : Env} {R : Room} {s : State} {m : MethodId} {args : Array Value} {below : List Frame} {meth : Method} {c : Code} {T : State} {locs : List Loc} {cells slots : Nat}
theorem gdS_st (X : Stand p l e R s m args below meth c T locs cells slots) (cA comp : ClassId) : ∀ i : Nat, ∃ L : List Loc, (∀ q ∈ L, q.base = T.heap.size) ∧ Stand p l e R s m args below meth c (gdS T cA comp i) (locs ++ L) (cells + 1 + i) (slots + 9 + i * 25)
  | 0 => by
    have h := X.pushed (gdC cA T.heap.size 0)
    rw [gdC_len] at h
    refine ⟨[], fun q h => by simp at h, ?_⟩
    simpa [gdS] using h
  | i + 1 => by
    obtain ⟨L, h1, Y⟩ := gdS_st X cA comp i
    obtain ⟨a, b, d, f, u, w⟩ := gdS_h T cA comp i
    have hlt : T.heap.size < (gdS T cA comp i).heap.size := by omega
    have hb : ((gdS T cA comp i).pushCell (gdI comp)).heap[T.heap.size]? = some (gdC cA T.heap.size i) := by rw [State.heap_pushCell_of_lt (h := hlt)]; exact b
    have h := (Y.pushed (gdI comp)).stored hb i (.ref (T.heap.size + 1 + i))
    rw [gdI_len, gdC_set, List.append_assoc] at h
    refine ⟨L ++ [⟨T.heap.size, i⟩], fun q hq => ?_, ?_⟩
    · rcases List.mem_append.mp hq with z | z
      · exact h1 q z
      · rw [List.mem_singleton.mp z]
    · rw [show cells + 1 + (i + 1) = cells + 1 + i + 1 by omega, show slots + 9 + (i + 1) * 25 = slots + 9 + i * 25 + 25 by omega]
      exact h
end
section
variable {E : CtlPost} {e : Env} {d : Bool} {acts : List Action} {s : State}
theorem gd_wp {c comp cc : ClassId} {k kc : Class} (hk : s.vm.classes[c]? = some k) (hkind : k.kind = .array comp (.array .int)) (hkc : s.vm.classes[comp]? = some kc) (hkindc : kc.kind = .array cc .int) (hl : 25 ≤ e.platform.arrayLengthLimit) (hh : 100 ≤ e.platform.maxHeapBytes) (hc : s.heap.size + 10 ≤ e.platform.maxCells) (hs : s.slotsUsed + 234 ≤ e.platform.maxSlots) {Q : Addr → Pre} (hq : ∀ d' acts', Q s.heap.size d' acts' (gdS s c comp 9)) : wp (multianewarray.make c [9, 25]) Q E e d acts s := by
  rw [multianewarray.make]
  simp only [wp_bind', W.ite, show ¬ ((9 : Int32) < 0) by decide, if_false, wp_pure', W.theClass, hk, hkind, Option.some.injEq, exists_eq_left']
  have e9 : (9 : Int32).toNatClampNeg = 9 := by decide
  rw [e9]
  refine W.newArray_of hk hkind (by omega) (by show ¬ 9 * 4 > _; omega) (by omega) (by omega) rfl (fun acts1 => ?_)
  rw [if_neg (by decide)]
  simp only [wp_pure', wp_bind']
  rw [Std.Legacy.Range.forIn_eq_forIn_range']
  have hsz : ([:9] : Std.Legacy.Range).size = 9 := by simp [Std.Legacy.Range.size]
  rw [hsz]
  refine wp_forIn_inv (fun rest s' => ∃ i, i ≤ 9 ∧ rest = List.range' i (9 - i) ∧ s' = gdS s c comp i) _ _ ⟨0, by omega, rfl, ?_⟩ ?_ ?_
  · show s.pushCell _ = s.pushCell _
    rw [arrV_new]
    rfl
  · rintro x rest s' d' acts' Q' ⟨i, hi, hr, rfl⟩ hnext
    have hlt : i < 9 := by
      rcases Nat.lt_or_ge i 9 with h | h
      · exact h
      · rw [show 9 - i = 0 by omega] at hr; simp at hr
    rw [show 9 - i = (9 - (i + 1)) + 1 by omega, List.range'_succ] at hr
    obtain ⟨rfl, hr2⟩ := List.cons.inj hr
    obtain ⟨f1, f2, f3, f4, f5, f6⟩ := gdS_h s c comp x
    simp only [wp_bind']
    rw [multianewarray.make]
    simp only [wp_bind', W.ite, show ¬ ((25 : Int32) < 0) by decide, if_false, wp_pure', W.theClass, f5, hkc, hkindc, Option.some.injEq, exists_eq_left']
    have e25 : (25 : Int32).toNatClampNeg = 25 := by decide
    rw [e25]
    refine W.newArray_of (by rw [f5]; exact hkc) hkindc (by omega) (by show ¬ 25 * 4 > _; omega) (by omega) (by omega) rfl (fun acts2 => ?_)
    have hlt0 : s.heap.size < (gdS s c comp x).heap.size := by omega
    have hb : ((gdS s c comp x).pushCell (gdI comp)).heap[s.heap.size]? = some (gdC c s.heap.size x) := by rw [State.heap_pushCell_of_lt (h := hlt0)]; exact f2
    have hpc : (gdS s c comp x).pushCell { cls := comp, slots := Array.replicate 25 (defaultValue .int) } = (gdS s c comp x).pushCell (gdI comp) := by rw [arrV_new]; rfl
    rw [hpc]
    simp only [wp_bind', W.writeLoc, wp_pure']
    refine ⟨gdC c s.heap.size x, hb, by unfold gdC arrV; simp, by rw [gdC_len]; exact hlt, ?_, hnext _ _ _ ⟨x + 1, by omega, hr2, ?_⟩⟩
    · have h5 : ((gdS s c comp x).pushCell (gdI comp)).vm = s.vm := f5
      simp [State.fitsSlot, State.slotType?, gdC, arrV, f5, hk, hkind, fits]
    · rw [f1, gdC_set]
      rfl
  · rintro s' d' acts' ⟨i, hi, hr, rfl⟩
    have : i = 9 := by
      rcases Nat.lt_or_ge i 9 with h | h
      · rw [show 9 - i = (9 - (i + 1)) + 1 by omega, List.range'_succ] at hr; cases hr
      · omega
    subst this
    simp only [wp_pure']
    exact hq _ _
end
section
variable {p : Program} {l : Launch} {e : Env} {R : Room} {s : State} {m : MethodId} {args : Array Value} {below : List Frame} {meth : Method} {c : Code} {H : Heap} {locs : List Loc} {cells slots : Nat} {Q : State → Prop} {pc : Nat} {ls : Array Slot} {rest : List Value} {cc : ByteArray}
theorem w_grid {own : String} {index : Nat} (hexec : p.tables.exec = Jvm.exec) (hb : c.code = cc) (hown : s.vm.findClass own = some m.cls) (hclink : (Cond.classLink own index "[[I").before args s = true) (hover : (Cond.arrayOver (.array .int)).before args s = true) (harr : (Cond.arrayClass .int).before args s = true) (hd : decode cc pc = .ok (.multianewarray index 2, 4)) (hcells : cells + 10 ≤ R.cells) (hslots : slots + 234 ≤ R.slots)
    (kk : ∀ (H1 : Heap) (L : List Loc) (cA comp : ClassId), s.vm.findClass "[[I" = some cA → s.vm.findClass "[I" = some comp → H1.size = H.size + 10 → (∀ q, q < H.size → H1[q]? = H[q]?) → H1[H.size]? = some (gdC cA H.size 9) → (∀ j, j < 9 → H1[H.size + 1 + j]? = some (gdI comp)) → (∀ q ∈ L, q.base = H.size) → W p l e R s m args below meth c H1 (locs ++ L) (cells + 10) (slots + 234) Q (F0 m (pc + 4) ls (.ref H.size :: rest))) : W p l e R s m args below meth c H locs cells slots Q (F0 m pc ls (.int 25 :: .int 9 :: rest)) := by
  intro T hT X
  subst hT
  subst hb
  have hpl : e.platform.magicAccessors = ({} : Platform).magicAccessors := by rw [X.admits.platform]
  obtain ⟨comp, cA, kA, hcomp, -, hkA, hkindA, hnameA⟩ := arrayOverA_spec hover
  obtain ⟨comp2, kC, cc2, hcomp2, hkC, hkindC⟩ := Cond.arrayClass_spec harr
  have ecomp : comp2 = comp := Option.some.inj (hcomp2.symm.trans hcomp)
  subst ecomp
  obtain ⟨c0, hfc0, hcl⟩ := Cond.classLink_spec hown hclink e.platform hpl
  have ec0 : cA = c0 := Option.some.inj (hnameA.symm.trans hfc0)
  subst ec0
  obtain ⟨hg1, hwarm1, hready1⟩ := State.classEntry (e := e) X.warmed hcl
  generalize T.vm.noted m.cls index (.cls cA) = vm1 at hg1 hwarm1 hready1
  obtain ⟨kA1, hkA1, heA⟩ := hwarm1.alike.2.2 _ _ hkA
  obtain ⟨kC1, hkC1, heC⟩ := hwarm1.alike.2.2 _ _ hkC
  have hkindA1 : kA1.kind = .array comp2 (.array .int) := by rw [heA]; exact hkindA
  have hkindC1 : kC1.kind = .array cc2 .int := by rw [heC]; exact hkindC
  have X1 := X.noted hwarm1
  obtain ⟨hr1, hr2⟩ := X.roomAbove hcells hslots
  obtain ⟨L, hL, XF⟩ := gdS_st X1 cA comp2 9
  obtain ⟨a1, a2, a3, a4, a5, a6⟩ := gdS_h (T.setVm vm1) cA comp2 9
  rw [show cells + 1 + 9 = cells + 10 by omega, show slots + 9 + 9 * 25 = slots + 234 by omega] at XF
  obtain ⟨t, b1, b2⟩ := kk _ L cA comp2 hnameA hcomp (by rw [a1]; show T.heap.size + 1 + 9 = _; omega) a3 a2 a4 hL (gdS (T.setVm vm1) cA comp2 9) rfl XF
  refine ⟨t, ?_, b2⟩
  have hl : 25 ≤ e.platform.arrayLengthLimit := by rw [Launch.admits_arrayLengthLimit X.admits]; omega
  have hh : 100 ≤ e.platform.maxHeapBytes := by rw [Launch.admits_maxHeapBytes X.admits]; omega
  jvm_step X.here [hexec, hd]
  simp only [multianewarray.sem, wp_bind', W.resolveClassAt_links (State.method?_setTop (F0 m pc ls (.int 25 :: .int 9 :: rest)) X.here.top) hg1]
  rw [W.popN, if_neg (by decide)]
  refine ⟨F0 m pc ls (.int 25 :: .int 9 :: rest), State.topJava?_setTop' (s := T.setVm vm1) _ X.here.top, [.int 9, .int 25], rest, rfl, rfl, ?_⟩
  simp only [List.mapM_cons, List.mapM_nil, wp_bind', wp_pure']
  refine gd_wp (k := kA1) (kc := kC1) (by exact hkA1) hkindA1 (by exact hkC1) hkindC1 hl hh (by exact hr1) (by exact hr2) (fun d' acts' => ?_)
  have eS : ∀ f : JFrame, ((T.setTop (F0 m pc ls (.int 25 :: .int 9 :: rest))).setVm vm1).setTop f = (T.setVm vm1).setTop f := fun f => by
    show ((T.setVm vm1).setTop _).setTop f = _
    rw [State.setTop_setTop]
  rw [eS, gdS_top]
  simp only [wp_bind', W.mark, W.pushRef, State.topJava?_setTop' _ XF.here.top, Option.some.injEq, exists_eq_left', State.setTop_setTop, State.heap_setTop]
  intro acts
  simp [jvm, XF.here.top]
  exact b1
end
section
variable {E : qE} {l : Launch} {own : String} {cc : ByteArray} {nL n mc ms : Nat} {σ : qSt} {B N1 : Nat} {G : List va_E → Nat → Nat → Nat → List (Option qV) → List qV → Prop} {pre : List va_E} {N sl : Nat} {pc : Nat} {lv : List (Option qV)} {st : List qV}
theorem k_grid {k ix : Nat} {i : Int} (C : Kx E l own cc nL n mc ms σ B N1 G) (hd : decode cc pc = .ok (.multianewarray ix 2, 4)) (hlk2 : Cond.classLink own ix "[[I" ∈ qTbl) (hac : Cond.arrayClass .int ∈ qTbl) (h9 : (k == 99) = false) (hq : qad (eT E) k i.toNat = N) (hcs : N + 10 - (B + 1) ≤ mc ∧ sl + 234 ≤ ms) (hF : gE (gRf E 6 9 (fun j => some (eo E + (N + 1 + j)))) (gF E σ N)) (hF2 : ∀ j, j < 9 → gF E σ (N + 1 + j) = gAr E 25 (fun _ => 0)) (kk : G pre (N + 10) (sl + 234) (pc + 4) lv (qr k i :: st)) : G pre N sl pc lv (qi 25 :: qi 9 :: st) := by
  obtain ⟨p, e, s, m, args, below, meth, cd, ws, ⟨hx, hb, hml, ho, hw⟩, hin, hlk, hrt, hnm, hT, hK, hA, rfl⟩ := C
  intro H locs ls hP hS hl
  have hsz := hP.1
  have hle := hS.1
  have e0 : N + 10 - (B + 1) = N - (B + 1) + 10 := by omega
  rw [e0] at hcs
  have hc6 : s.vm.findClass "[[I" = some (eca E 6) := (hK.1.2 6 _ rfl).2
  have hc0 : s.vm.findClass "[I" = some (eca E 0) := (hK.1.2 0 _ rfl).2
  refine w_grid (own := own) (index := ix) hx hb ho (hw _ (hin _ hlk2)) hK.2.2.1 (hw _ (hin _ hac)) hd hcs.1 hcs.2 (fun H1 L cA comp f1 f2 z1 o1 g1 g2 hL => ?_)
  have ecA : cA = eca E 6 := Option.some.inj (f1.symm.trans hc6)
  have eco : comp = eca E 0 := Option.some.inj (f2.symm.trans hc0)
  subst ecA
  subst eco
  have hp2 : gP E σ B pre (N + 10) H1 := by
    obtain ⟨y1, y2, y3⟩ := hP
    refine ⟨by omega, by omega, fun q x hx => ?_⟩
    by_cases hk : B + q < N
    · rw [gW_get (by omega)] at hx
      cases hx
      exact (y3 q _ (gW_get hk)).kept (o1 _ (by show eo E + (B + q) < _; omega))
    · by_cases hk2 : B + q < N + 10
      · rw [gW_get hk2, gC_f (by omega)] at hx
        cases hx
        by_cases hk3 : B + q = N
        · rw [hk3]
          refine hF _ _ _ ?_
          show H1[eo E + N]? = some (vp_cell (eca E 6) (9, .inr (.inr (.inr (.inr (fun j => some (eo E + (N + 1 + j))))))))
          rw [← hsz, g1]
          congr 1
          show arrV (eca E 6) 9 (fun j => if j < 9 then Value.ref (H.size + 1 + j) else Value.null) = arrV (eca E 6) 9 (fun j => va_rf (some (eo E + (N + 1 + j))))
          refine arrV_cg (fun j hj => ?_)
          rw [if_pos hj]
          show Value.ref (H.size + 1 + j) = Value.ref (eo E + (N + 1 + j))
          rw [show H.size + 1 + j = eo E + (N + 1 + j) by omega]
        · obtain ⟨j, hj⟩ : ∃ j, B + q = N + 1 + j := ⟨B + q - (N + 1), by omega⟩
          rw [hj, hF2 j (by omega)]
          show H1[eo E + (N + 1 + j)]? = some (vp_cell (eca E 0) (25, .inl fun _ : Nat => Int32.ofInt 0))
          rw [show eo E + (N + 1 + j) = H.size + 1 + j by omega, g2 j (by omega)]
          rfl
      · rw [gW_no (by omega)] at hx
        cases hx
  have hS1 : va_S (gA E B) s.heap H1 (locs ++ L) := ⟨by omega, fun q h1 h2 => (o1 q (by omega)).trans (hS.2.1 q h1 h2), fun q hq => by
    rcases List.mem_append.mp hq with h | h
    · exact hS.2.2 q h
    · rw [hL q h, hsz]
      have := hP.2.1
      show eo E + B ≤ eo E + N
      omega⟩
  have := kk H1 _ ls hp2 hS1 hl
  simp only [List.map_cons, qv_a h9 hq] at this
  rw [e0] at this
  rw [hsz]
  exact this
end
