/-! THE LAW: what stands at its entry -/
theorem ao_5 : Cond.arrayOver (.object RX5) ∈ lw_tbl := List.mem_of_getElem? (i := 68) (by decide +kernel)
theorem ao_9 : Cond.arrayOver (.object RX9) ∈ lw_tbl := List.mem_of_getElem? (i := 70) (by decide +kernel)
theorem ao_8 : Cond.arrayOver (.object RX8) ∈ lw_tbl := List.mem_of_getElem? (i := 72) (by decide +kernel)
theorem ao_0 : Cond.arrayOver (.object RX0) ∈ lw_tbl := List.mem_of_getElem? (i := 219) (by decide +kernel)
theorem ao_g : Cond.arrayOver (.array .int) ∈ lw_tbl := List.mem_of_getElem? (i := 182) (by decide +kernel)
theorem un_lay : Cond.laysStatic RX10 "UNDER" "[I" ∈ lw_tbl := List.mem_of_getElem? (i := 441) (by decide +kernel)
theorem un_lnk : Cond.fieldLinkNest RX9 37 RX10 "UNDER" "[I" RX10 ∈ lw_tbl := List.mem_of_getElem? (i := 440) (by decide +kernel)
theorem ns_0 : Cond.methodLinkNest RX10 43 yX7_init RX10 ∈ lw_tbl := List.mem_of_getElem? (i := 133) (by decide +kernel)
theorem ns_1 : Cond.methodLinkNest RX10 50 yX2_init RX10 ∈ lw_tbl := List.mem_of_getElem? (i := 177) (by decide +kernel)
theorem ns_2 : Cond.methodLinkNest RX10 57 yX6_init RX10 ∈ lw_tbl := List.mem_of_getElem? (i := 204) (by decide +kernel)
theorem ns_3 : Cond.methodLinkNest RX3 24 yX0_init RX10 ∈ lw_tbl := List.mem_of_getElem? (i := 221) (by decide +kernel)
theorem ns_4 : Cond.methodLinkNest RX10 83 yX5_init RX10 ∈ lw_tbl := List.mem_of_getElem? (i := 261) (by decide +kernel)
theorem ns_5 : Cond.methodLinkNest RX10 84 yX9_init RX10 ∈ lw_tbl := List.mem_of_getElem? (i := 284) (by decide +kernel)
theorem ns_6 : Cond.methodLinkNest RX10 85 yX8_init RX10 ∈ lw_tbl := List.mem_of_getElem? (i := 327) (by decide +kernel)
theorem ns_all : ∀ (a : String) (i : Nat) (x : MethodName) (h : String), (a, i, x, h) ∈ nstL → Cond.methodLinkNest a i x h ∈ lw_tbl := by
  intro a i x h hm
  unfold nstL at hm
  simp only [List.mem_cons, List.not_mem_nil, or_false, Prod.mk.injEq] at hm
  rcases hm with ⟨rfl, rfl, rfl, rfl⟩ | ⟨rfl, rfl, rfl, rfl⟩ | ⟨rfl, rfl, rfl, rfl⟩ | ⟨rfl, rfl, rfl, rfl⟩ | ⟨rfl, rfl, rfl, rfl⟩ | ⟨rfl, rfl, rfl, rfl⟩ | ⟨rfl, rfl, rfl, rfl⟩
  · exact ns_0
  · exact ns_1
  · exact ns_2
  · exact ns_3
  · exact ns_4
  · exact ns_5
  · exact ns_6
theorem gW_blk {E : qE} {σ : qSt} {n : Nat} (h : qN (eT E) = n) : gW E σ 0 [] n = qBlk E σ := by
  unfold gW qBlk
  rw [h, Nat.sub_zero]
  refine List.map_congr_left (fun j _ => ?_)
  rw [gC_f (Nat.zero_le j), Nat.zero_add]
  rfl
theorem ao_arr {s : State} {args : Array Value} {C : String} (h : (Cond.arrayOver (.object C)).before args s = true) : ∃ cA : ClassId, ArrOfT s cA (.object C) ∧ va_RA s cA (.object C) := by
  obtain ⟨comp, c, k, h1, h2, h3, h4, h5⟩ := Cond.arrayOver_spec h
  exact ⟨c, fun N z => ⟨(fun k h => by cases h), k, h3, comp, h4⟩, k, comp, h3, h4, h1, h5⟩
theorem law_known {s : State} {args : Array Value} (hts : ∀ w ∈ lw_tbl, w.before args s = true) : ∃ D : va_G, ∀ (k : Nat) (q : vw_C), clz[k]? = some q → u_Kn s q.1 q.2.1 q.2.2 (D.1 k) (D.2 k) := by
  obtain ⟨c0, j0, g0⟩ := u_known (C := RX0) (T := TX0) (N := 5) (n := 5) hts (fun w h => tbl_in (qc_0.2.1 w h)) (hts _ (tbl_in nw_X3_9.2.2.1))
  obtain ⟨c1, j1, g1⟩ := u_known (C := RX1) (T := TX1) (N := 5) (n := 5) hts (fun w h => tbl_in (qc_1.2.1 w h)) (hts _ (tbl_in nw_X10_34.2.2.1))
  obtain ⟨c2, j2, g2⟩ := u_known (C := RX2) (T := TX2) (N := 5) (n := 5) hts (fun w h => tbl_in (qc_2.2.1 w h)) (hts _ (tbl_in nw_X10_48.2.2.1))
  obtain ⟨c3, j3, g3⟩ := u_known (C := RX3) (T := TX3) (N := 3) (n := 3) hts (fun w h => tbl_in (qc_3.2.1 w h)) (hts _ (tbl_in nw_X10_62.2.2.1))
  obtain ⟨c4, j4, g4⟩ := u_known (C := RX4) (T := TX4) (N := 6) (n := 6) hts (fun w h => tbl_in (qc_4.2.1 w h)) (hts _ (tbl_in nw_X10_27.2.2.1))
  obtain ⟨c5, j5, g5⟩ := u_known (C := RX5) (T := TX5) (N := 3) (n := 3) hts (fun w h => tbl_in (qc_5.2.1 w h)) (hts _ (tbl_in nw_X10_9.2.2.1))
  obtain ⟨c6, j6, g6⟩ := u_known (C := RX6) (T := TX6) (N := 1) (n := 1) hts (fun w h => tbl_in (qc_6.2.1 w h)) (hts _ (tbl_in nw_X10_55.2.2.1))
  obtain ⟨c7, j7, g7⟩ := u_known (C := RX7) (T := TX7) (N := 11) (n := 11) hts (fun w h => tbl_in (qc_7.2.1 w h)) (hts _ (tbl_in nw_X10_41.2.2.1))
  obtain ⟨c8, j8, g8⟩ := u_known (C := RX8) (T := TX8) (N := 3) (n := 3) hts (fun w h => tbl_in (qc_8.2.1 w h)) (hts _ (tbl_in nw_X10_21.2.2.1))
  obtain ⟨c9, j9, g9⟩ := u_known (C := RX9) (T := TX9) (N := 8) (n := 8) hts (fun w h => tbl_in (qc_9.2.1 w h)) (hts _ (tbl_in nw_X10_15.2.2.1))
  obtain ⟨c10, j10, g10⟩ := u_known (C := RX10) (T := TX10) (N := 13) (n := 13) hts (fun w h => tbl_in (qc_10.2.1 w h)) (hts _ (tbl_in nw_L_7.2.2.1))
  obtain ⟨c11, j11, g11⟩ := u_known (C := RX11) (T := TX11) (N := 21) (n := 21) hts (fun w h => tbl_in (qc_11.2.1 w h)) (hts _ (tbl_in nw_L_10.2.2.1))
  refine ⟨(fun k => [c0, c1, c2, c3, c4, c5, c6, c7, c8, c9, c10, c11].getD k c0, fun k => [j0, j1, j2, j3, j4, j5, j6, j7, j8, j9, j10, j11].getD k j0), fun k q hq => ?_⟩
  match k, hq with
  | 0, hq =>
    have hq2 : some (RX0, TX0, 5) = some q := hq
    cases hq2
    exact g0
  | 1, hq =>
    have hq2 : some (RX1, TX1, 5) = some q := hq
    cases hq2
    exact g1
  | 2, hq =>
    have hq2 : some (RX2, TX2, 5) = some q := hq
    cases hq2
    exact g2
  | 3, hq =>
    have hq2 : some (RX3, TX3, 3) = some q := hq
    cases hq2
    exact g3
  | 4, hq =>
    have hq2 : some (RX4, TX4, 6) = some q := hq
    cases hq2
    exact g4
  | 5, hq =>
    have hq2 : some (RX5, TX5, 3) = some q := hq
    cases hq2
    exact g5
  | 6, hq =>
    have hq2 : some (RX6, TX6, 1) = some q := hq
    cases hq2
    exact g6
  | 7, hq =>
    have hq2 : some (RX7, TX7, 11) = some q := hq
    cases hq2
    exact g7
  | 8, hq =>
    have hq2 : some (RX8, TX8, 3) = some q := hq
    cases hq2
    exact g8
  | 9, hq =>
    have hq2 : some (RX9, TX9, 8) = some q := hq
    cases hq2
    exact g9
  | 10, hq =>
    have hq2 : some (RX10, TX10, 13) = some q := hq
    cases hq2
    exact g10
  | 11, hq =>
    have hq2 : some (RX11, TX11, 21) = some q := hq
    cases hq2
    exact g11
  | k + 12, hq =>
    have hq2 : (none : Option vw_C) = some q := hq
    cases hq2
theorem law_arrays {s : State} {args : Array Value} (hts : ∀ w ∈ lw_tbl, w.before args s = true) : ∃ ca : Nat → ClassId, ∀ (k : Nat) (q : ClassId × FieldType), (qTys ca)[k]? = some q → ArrOfT s q.1 q.2 ∧ va_RA s q.1 q.2 := by
  obtain ⟨a0, k0, p0, f0, g0, h0⟩ := Cond.arrayClass_spec (hts _ (tbl_in ac_int))
  obtain ⟨a1, k1, p1, f1, g1, h1⟩ := Cond.arrayClass_spec (hts _ (tbl_in ac_long))
  obtain ⟨a2, r2⟩ := ao_arr (hts _ ao_5)
  obtain ⟨a3, r3⟩ := ao_arr (hts _ ao_9)
  obtain ⟨a4, r4⟩ := ao_arr (hts _ ao_8)
  obtain ⟨a5, r5⟩ := ao_arr (hts _ ao_0)
  obtain ⟨p6, a6, k6, e6, -, g6, h6, f6⟩ := arrayOverA_spec (hts _ ao_g)
  refine ⟨fun k => [a0, a1, a2, a3, a4, a5, a6].getD k a0, fun k q hq => ?_⟩
  match k, hq with
  | 0, hq => cases hq; exact ⟨fun N z => ⟨(fun k h => by cases h), k0, g0, p0, h0⟩, f0⟩
  | 1, hq => cases hq; exact ⟨fun N z => ⟨(fun k h => by cases h), k1, g1, p1, h1⟩, f1⟩
  | 2, hq => cases hq; exact r2
  | 3, hq => cases hq; exact r3
  | 4, hq => cases hq; exact r4
  | 5, hq => cases hq; exact r5
  | 6, hq => cases hq; exact ⟨fun N z => ⟨(fun k h => by cases h), k6, g6, p6, h6⟩, f6⟩
  | k + 7, hq => simp [qTys] at hq
theorem law_under {s : State} {b : Nat} (hts : ∀ w ∈ lw_tbl, w.before #[Value.ref b] s = true) (hgv : (Jvm.Cond.and given_1 narrow_1).before #[Value.ref b] s = true) : ∃ u : Nat, va_Z RX10 "UNDER" "[I" (.ref u) (lA s) s s.heap ∧ va_T .int u 4 qUnd (lA s) s s.heap := by
  have hs := flat_of_before _ hgv
  have hA : ∀ a : Nat, a < s.heap.size → ¬ lA s a := fun a h => by unfold lA; omega
  have harr : (Cond.arrayOf (.static "DubDesk" "UNDER" "[I") .int).before #[Value.ref b] s = true := hs _ (by decide +kernel)
  have hlen : (Cond.eq (.length (.static "DubDesk" "UNDER" "[I")) (.int 4)).before #[Value.ref b] s = true := hs _ (by decide +kernel)
  have h0 : (Cond.eq (.elem (.static "DubDesk" "UNDER" "[I") (.int 0)) (.int (-1))).before #[Value.ref b] s = true := hs _ (by decide +kernel)
  have h1 : (Cond.eq (.elem (.static "DubDesk" "UNDER" "[I") (.int 1)) (.int 0)).before #[Value.ref b] s = true := hs _ (by decide +kernel)
  have h2 : (Cond.eq (.elem (.static "DubDesk" "UNDER" "[I") (.int 2)) (.int 0)).before #[Value.ref b] s = true := hs _ (by decide +kernel)
  have h3 : (Cond.eq (.elem (.static "DubDesk" "UNDER" "[I") (.int 3)) (.int 1)).before #[Value.ref b] s = true := hs _ (by decide +kernel)
  obtain ⟨t, ht, hT⟩ := va_Tof (N := 4) (f := qUnd) (A := lA s) (by decide) harr (va_eqt hlen) (fun j hj => by
    rcases (by omega : j = 0 ∨ j = 1 ∨ j = 2 ∨ j = 3) with rfl | rfl | rfl | rfl
    · exact va_eqt h0
    · exact va_eqt h1
    · exact va_eqt h2
    · exact va_eqt h3) hA
  exact ⟨t, va_Zref (hts _ un_lay) (hts _ (tbl_in nw_L_7.2.2.2.1)) ht hA, hT⟩
set_option maxRecDepth 100000 in
/-- THE LAW, from its entry -/
theorem whole_start {p : Program} {e : Env} {s : State} {m : MethodId} {below : List Frame} {meth : Method} {c : Code} (l : Launch) {b L : Nat} {xs : Nat → Int32} (hL : L ≤ 3072) (C0 : lw_At p s m meth c b L xs) : W p l e room_1 s m #[Value.ref b] below meth c s.heap [] 0 0 (lw_Z below #[Value.ref b] s) (entryFrame m ([Value.ref b] : List Value).toArray 4) := by
  obtain ⟨hx, hb, hr, hml, hown, hts, hX, hbl, hlocks, hgv⟩ := id C0
  obtain ⟨D, hKn⟩ := law_known hts
  obtain ⟨ca, hKa⟩ := law_arrays hts
  obtain ⟨u, hZ, hT⟩ := law_under hts hgv
  have hK : va_K D clz (qTys ca) s := ⟨hKn, hKa⟩
  have hNw : va_Nw (.fieldLinkNest RX9 37 RX10 "UNDER" "[I" RX10) s := va_Nw.of rfl (hts _ un_lnk)
  have hg1 : gK (E1 s.heap.size u D ca) s := ⟨hK, ⟨va_AO.of (hts _ ao_5), va_AO.of (hts _ ao_9), va_AO.of (hts _ ao_8), va_AO.of (hts _ ao_0)⟩, hts _ ao_g, fun a i x h hm => va_Nw.of rfl (hts _ (ns_all a i x h hm))⟩
  have hg2 : gK (E2 s.heap.size u D ca) s := hg1
  have hW1 : qWok (E1 s.heap.size u D ca) s s.heap := ⟨hK, hZ.narrow (fun q h => h.1), hT.narrow (fun q h => h.1), hNw⟩
  have hW2 : qWok (E2 s.heap.size u D ca) s s.heap := ⟨hK, hZ.narrow (fun q h => by have h5 : s.heap.size + 213 ≤ q := h.1; show s.heap.size ≤ q; omega), hT.narrow (fun q h => by have h5 : s.heap.size + 213 ≤ q := h.1; show s.heap.size ≤ q; omega), hNw⟩
  have hl := lv_entry ([.ref b]) (n := 4) (Nat.le_of_ble_eq_true rfl)
  rw [lg_entry_eq]
  generalize (lg_sl ([.ref b]) ++ List.replicate (4 - (lg_sl ([.ref b])).length) Slot.unset).toArray = ls at hl ⊢
  have hl : lv_has ls 4 [(0, .ref b)] := hl
  refine w_new (E := E1 s.heap.size u D ca) (σ := s0D) (own := RL) (cc := code) (nL := 4) (ws := lw_tbl) (A := lA s) (N := 0) (N1 := 213) ⟨hx, hb, hml, hown, hts⟩ (fun w h => tbl_in h) hg1 rfl (fun q h => h) va_S.rf nw_L_7 df_10 (n_X10 _ l) ⟨by decide, by decide⟩ ⟨by decide, by decide⟩ hl.1 (Nat.le_of_ble_eq_true rfl) dL_law_0 dL_law_3 dL_law_4 (fun H1 locs1 s1 o1 hP1 _ hS1 => ?_)
  have s1 : H1.size = s.heap.size + 213 := s1
  rw [gW_blk (E := E1 s.heap.size u D ca) (n := 213) rfl] at hP1
  refine lv_astore_n (lv' := [(1, .ref (s.heap.size + 0)), (0, .ref b)]) hx hb dL_law_7 rfl hl (by decide) rfl (fun ls hl => ?_)
  refine w_new (E := E2 s.heap.size u D ca) (σ := s0M) (own := RL) (cc := code) (nL := 4) (ws := lw_tbl) (A := lA s) (N := 0) (N1 := 16) ⟨hx, hb, hml, hown, hts⟩ (fun w h => tbl_in h) hg2 s1 (fun q h => by have h5 : s.heap.size + 213 + 0 ≤ q := h; show s.heap.size ≤ q; omega) hS1 nw_L_10 df_11 (n_X11 _ l) ⟨by decide, by decide⟩ ⟨by decide, by decide⟩ hl.1 (Nat.le_of_ble_eq_true rfl) dL_law_8 dL_law_11 dL_law_12 (fun H2 locs2 s2 o2 hP2 _ hS2 => ?_)
  rw [gW_blk (E := E2 s.heap.size u D ca) (n := 16) rfl] at hP2
  have hP1 : va_P D clz (qBlk (E1 s.heap.size u D ca) s0D) H2 := qBlk_kept hP1 (fun q q1 q2 q3 => o2 q q1)
  refine lv_astore_n (lv' := [(2, .ref (s.heap.size + 213 + 0)), (1, .ref (s.heap.size + 0)), (0, .ref b)]) hx hb dL_law_15 rfl hl (by decide) rfl (fun ls hl => ?_)
  refine lv_iconst (v := Int32.ofInt 0) hx hb dL_law_16 rfl ?_
  refine lv_istore_n (lv' := [(3, .int (Int32.ofInt 0)), (2, .ref (s.heap.size + 213 + 0)), (1, .ref (s.heap.size + 0)), (0, .ref b)]) hx hb dL_law_17 rfl hl (by decide) rfl (fun ls hl => ?_)
  exact law_loop (E := EL s.heap.size b D ca) (l := l) (b := b) (L := L) (xs := xs) (o1 := s.heap.size) (u := u) (D := D) (ca := ca) hL ⟨p, e, s, m, below, meth, c, C0, rfl, hW1, hW2, rfl, hL, rfl⟩ (L + 1) 0 s0D s0M A0 (by omega) (by omega) A0_D A0_M A0_ok H2 locs2 ls hP1 hP2 hS2 (lv_sub hl [3, 2, 1, 0] rfl)
