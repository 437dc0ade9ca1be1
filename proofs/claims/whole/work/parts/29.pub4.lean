/-! the class's calls: cut, change, undo -/
theorem rel_rem2 {σ ρ τ : qSt} {A : aSt} {c : aCur} {d wh wa : Int} {row : List Int} (hR : RelD σ A) (hk : Kep σ ρ) (hτ : ∀ (a : Nat) (b x : Int), ¬ (a = 41 ∧ b = σ 38 0 1) → ¬ (a = 40 ∧ b = σ 38 0 1 ∧ x = 1) → a ≠ 81 → a ≠ 82 → τ a b x = pRem ρ d wh wa a b x) (hI : Iv1 τ) (hC : RCur τ c) (hw : d = 12 → τ 40 (σ 38 0 1) 1 = row.length) (hr : ∀ (j : Nat) (s : Int), row[j]? = some s → τ 41 (σ 38 0 1) j = s) : RelD τ (psh A (d, wh, wa, row) c) := by
  obtain ⟨⟨-, hp, -⟩, -, -, hH, hS, hf⟩ := hR
  obtain ⟨b1, b2, b3, b4, b5⟩ := hI
  obtain ⟨n1, n2, n3, n4, n5, n6, n7⟩ := pRem_n ρ d wh wa
  have k1 : ρ 38 0 1 = σ 38 0 1 := hk _ _ _ (by omega)
  have k2 : ρ 38 0 2 = σ 38 0 2 := hk _ _ _ (by omega)
  obtain ⟨q1, q2, q3, q4, q5⟩ := id hH
  have ho : ∀ (a : Nat) (b x : Int), a ≠ 41 → a ≠ 40 → a ≠ 81 → a ≠ 82 → τ a b x = pRem ρ d wh wa a b x := fun a b x z1 z2 z3 z4 => hτ a b x (by omega) (by omega) z3 z4
  refine ⟨⟨b1, fun j a b => ?_, b2, b3, b4, b5⟩, Or.inl (by rw [ho 15 0 9 (by omega) (by omega) (by omega) (by omega)]; exact n3), hC, ?_, hS.cg (fun b c => by rw [ho 205 _ _ (by omega) (by omega) (by omega) (by omega), pRem_o (by omega) (by omega) (by omega)]; exact hk _ _ _ (by omega)) (fun b c => by rw [ho 206 _ _ (by omega) (by omega) (by omega) (by omega), pRem_o (by omega) (by omega) (by omega)]; exact hk _ _ _ (by omega)), ?_⟩
  · rw [ho 16 _ _ (by omega) (by omega) (by omega) (by omega), ho 17 _ _ (by omega) (by omega) (by omega) (by omega), ho 18 _ _ (by omega) (by omega) (by omega) (by omega), pRem_o (by omega) (by omega) (by omega), pRem_o (by omega) (by omega) (by omega), pRem_o (by omega) (by omega) (by omega), hk 16 _ _ (by omega), hk 17 _ _ (by omega), hk 18 _ _ (by omega)]
    exact hp j a b
  · refine hH.push (by rw [ho 38 0 1 (by omega) (by omega) (by omega) (by omega), n1, k1]) (by rw [ho 38 0 2 (by omega) (by omega) (by omega) (by omega), n2, k2]) ?_ (fun p hp => ⟨fun x => ?_, fun x => ?_⟩)
    · rw [k1] at n4 n5 n6
      exact ⟨by rw [hτ _ _ _ (by omega) (by omega) (by omega) (by omega)]; exact n4, by rw [hτ _ _ _ (by omega) (by omega) (by omega) (by omega)]; exact n5, by rw [hτ _ _ _ (by omega) (by omega) (by omega) (by omega)]; exact n6, hw, fun _ => hr⟩
    · rw [hτ 40 p x (by omega) (by omega) (by omega) (by omega), n7 p x (by rw [k1]; exact hp)]; exact hk _ _ _ (by omega)
    · rw [hτ 41 p x (by omega) (by omega) (by omega) (by omega), pRem_o (by omega) (by omega) (by omega)]; exact hk _ _ _ (by omega)
  · show τ 0 0 12 = A.2.2.1
    rw [ho 0 0 12 (by omega) (by omega) (by omega) (by omega), pRem_o (by omega) (by omega) (by omega), hk _ _ _ (by omega), hf]
theorem cur_change {σ τ : qSt} {c : aCur} {x : Int} {row : List Int} (h : RCur σ c) (hx : 0 ≤ x) (ho : ∀ (a : Nat) (b z : Int), ¬ (15 ≤ a ∧ a ≤ 41) → a ≠ 80 → a < 205 → ¬ (a = 0 ∧ z = 12) → ¬ (a = 82 ∧ b = x) → ¬ (a = 81 ∧ b = x ∧ z = 2) → τ a b z = σ a b z) (h1 : τ 81 x 2 = row.length) (h2 : ∀ (j : Nat) (s : Int), row[j]? = some s → τ 82 x j = s) : RCur τ (sL c (mdf (fun y => (y.1, row)) (cL c) x.toNat)) := by
  obtain ⟨hL, hW, hT, hN, hA', hF, hRm, hO⟩ := h
  have h : ∀ (a : Nat) (b z : Int), ¬ (15 ≤ a ∧ a ≤ 41) → a ≠ 80 → a < 205 → ¬ (a = 0 ∧ z = 12) → a ≠ 81 → a ≠ 82 → τ a b z = σ a b z := fun a b z q1 q2 q3 q4 q5 q6 => ho a b z q1 q2 q3 q4 (by omega) (by omega)
  refine ⟨⟨?_, fun i z hz => ?_⟩, hW.cg (h _ _ _ (by omega) (by omega) (by omega) (by omega) (by omega) (by omega)) (fun a b c q1 q2 => h _ _ _ (by omega) (by omega) (by omega) (by omega) (by omega) (by omega)), hT.cg (h _ _ _ (by omega) (by omega) (by omega) (by omega) (by omega) (by omega)) (fun a c q1 q2 => h _ _ _ (by omega) (by omega) (by omega) (by omega) (by omega) (by omega)), hN.cg (fun c => h _ _ _ (by omega) (by omega) (by omega) (by omega) (by omega) (by omega)), hA'.cg (fun c => h _ _ _ (by omega) (by omega) (by omega) (by omega) (by omega) (by omega)), hF.cg (fun c => h _ _ _ (by omega) (by omega) (by omega) (by omega) (by omega) (by omega)), hRm.cg (fun c => h _ _ _ (by omega) (by omega) (by omega) (by omega) (by omega) (by omega)), hO.cg (h _ _ _ (by omega) (by omega) (by omega) (by omega) (by omega) (by omega)) (fun c => h _ _ _ (by omega) (by omega) (by omega) (by omega) (by omega) (by omega))⟩
  · show τ 0 0 10 = ((mdf (fun y => (y.1, row)) (cL c) x.toNat).length : Int)
    rw [mdf_len, ← hL.1, h _ _ _ (by omega) (by omega) (by omega) (by omega) (by omega) (by omega)]
  · have hz : (mdf (fun y => (y.1, row)) (cL c) x.toNat)[i]? = some z := hz
    rw [mdf_get] at hz
    by_cases e : i = x.toNat
    · subst e
      rw [if_pos rfl] at hz
      cases hy : (cL c)[x.toNat]? with
      | none => rw [hy] at hz; simp at hz
      | some y =>
        rw [hy] at hz
        simp at hz
        subst hz
        have r := (hL.2 _ _ hy).1
        rw [Int.toNat_of_nonneg hx] at r ⊢
        exact ⟨by rw [ho _ _ _ (by omega) (by omega) (by omega) (by omega) (by omega) (by omega)]; exact r, h1, h2⟩
    · rw [if_neg e] at hz
      obtain ⟨r1, r2, r3⟩ := hL.2 i z hz
      exact ⟨by rw [ho _ _ _ (by omega) (by omega) (by omega) (by omega) (by omega) (by omega)]; exact r1, by rw [ho _ _ _ (by omega) (by omega) (by omega) (by omega) (by omega) (by omega)]; exact r2, fun j s hs => by rw [ho _ _ _ (by omega) (by omega) (by omega) (by omega) (by omega) (by omega)]; exact r3 j s hs⟩
theorem Iv1.cg {σ τ : qSt} (h : Iv1 σ) (ho : ∀ (a : Nat) (b c : Int), a = 14 ∨ a = 107 ∨ a = 108 ∨ a = 109 ∨ a = 8 ∨ (a = 81 ∧ c = 1) → τ a b c = σ a b c) (hb : Bd τ) : Iv1 τ := by
  obtain ⟨-, b2, b3, b4, b5⟩ := h
  exact ⟨hb, fun l a b => by rw [ho _ _ _ (by omega)]; exact b2 l a b, fun k a b => by rw [ho _ _ _ (by omega)]; exact b3 k a b, fun w s x1 x2 x3 x4 => by rw [ho 107 _ _ (by omega), ho 108 _ _ (by omega), ho 109 _ _ (by omega)]; exact b4 w s x1 x2 x3 x4, fun t a b => by rw [ho _ _ _ (by omega)]; exact b5 t a b⟩
theorem row_len (A : aSt) (s : Int) (h : 0 ≤ szA A s) : ((rowA A s).length : Int) = szA A s := by unfold rowA; simp; omega
theorem row_get {A : aSt} {s : Int} {j : Nat} {v : Int} (h : (rowA A s)[j]? = some v) : (j : Int) < szA A s ∧ v = nuA A s j := by
  unfold rowA at h
  rw [List.getElem?_map] at h
  by_cases e : j < (szA A s).toNat
  · rw [List.getElem?_range e] at h
    simp at h
    exact ⟨by omega, h.symm⟩
  · rw [List.getElem?_eq_none (by simp; omega)] at h
    simp at h
theorem frs_get {l : aLn} {j : Nat} {v : Int} (h : l.2[j]? = some v) : (j : Int) < (l.2.length : Int) ∧ v = frAt l j := by
  have := (List.getElem?_eq_some_iff.mp h).1
  refine ⟨by omega, ?_⟩
  show v = l.2.getD j 0
  rw [getD_some h]
theorem rel_cut {σ : qSt} {A : aSt} {w : Int} (hR : RelD σ A) (hA : AOk A) (hw : 0 ≤ w ∧ w < nWd A) (hl : 0 < (wdAt A w).2.2.2.length) : RelD (qUp (qUp (qUp (qUp (pRem (qUp σ 105 w 7 (σ 105 w 7 - 1)) 4 w 0) 41 (σ 38 0 1) 0 (σ 106 w (σ 105 w 7 - 1))) 41 (σ 38 0 1) 1 (σ 107 w (σ 105 w 7 - 1))) 41 (σ 38 0 1) 2 (σ 108 w (σ 105 w 7 - 1))) 41 (σ 38 0 1) 3 (σ 109 w (σ 105 w 7 - 1))) (psh A (4, w, 0, lastSy (wdAt A w)) (sW A.1 (mdf (fun y => (y.1, y.2.1, y.2.2.1, y.2.2.2.dropLast)) (cW A.1) w.toNat))) := by
  obtain ⟨hb, e10, n10, m10, e11, n11, m11, e5, n5, m5, e4, n4, m4, h381, h382, h383, h384⟩ := dF hR hA
  obtain ⟨w1, w2, w3, w4, w5, w6, w7, w8, w9, w10, w11, w12⟩ := wd_f hR hA hw
  have ws := w12 (((wdAt A w).2.2.2.length : Int) - 1) (by omega) (by omega)
  have iv : Iv1 (qUp σ 105 w 7 (σ 105 w 7 - 1)) := Iv1.up hR.1.one (by omega) (by omega) (by omega) (by omega) (by omega)
  have bp : Bd (pRem (qUp σ 105 w 7 (σ 105 w 7 - 1)) 4 w 0) := pRem_b iv.1 (by rw [qUp_ne (by omega)]; omega) (by rw [qUp_ne (by omega)]; omega) (by omega) (by omega) (by omega)
  have hb6 := hb 106 w (σ 105 w 7 - 1) (by omega) (by omega)
  have hb7 := hb 107 w (σ 105 w 7 - 1) (by omega) (by omega)
  have hb8 := hb 108 w (σ 105 w 7 - 1) (by omega) (by omega)
  have hb9 := hb 109 w (σ 105 w 7 - 1) (by omega) (by omega)
  refine rel_rem2 (ρ := qUp σ 105 w 7 (σ 105 w 7 - 1)) hR (fun a b c h => qUp_ne (by omega)) (fun a b x q1 q2 q3 q4 => by rw [qUp_ne (by omega), qUp_ne (by omega), qUp_ne (by omega), qUp_ne (by omega)]) ?_ ?_ (fun q => absurd q (by decide)) (fun j s hj => ?_)
  · exact iv.cg (fun a b c q => by rw [qUp_ne (by omega), qUp_ne (by omega), qUp_ne (by omega), qUp_ne (by omega), pRem_o (by omega) (by omega) (by omega)]) ((((bp.up hb6).up hb7).up hb8).up hb9)
  · exact (cur_cut hR.2.2.1 hw.1 (wd_get hw) hl rfl).cg (fun a b x z1 z2 z3 z4 => by rw [qUp_ne (by omega), qUp_ne (by omega), qUp_ne (by omega), qUp_ne (by omega), pRem_o (by omega) (by omega) (by omega)])
  · rw [← w4] at ws
    have hj4 : j < 4 := by simpa using (List.getElem?_eq_some_iff.mp hj).1
    rcases (by omega : j = 0 ∨ j = 1 ∨ j = 2 ∨ j = 3) with rfl | rfl | rfl | rfl
    · simp [qUp]; rw [ws.1, w4]; exact Option.some.inj hj
    · simp [qUp]; rw [ws.2.1, w4]; exact Option.some.inj hj
    · simp [qUp]; rw [ws.2.2.1, w4]; exact Option.some.inj hj
    · simp [qUp]; rw [ws.2.2.2.1, w4]; exact Option.some.inj hj
theorem rel_chg {σ ρ : qSt} {A : aSt} {x s : Int} (hR : RelD σ A) (hA : AOk A) (hx : 0 ≤ x ∧ x < nLn A) (hs : 0 ≤ s ∧ s < 4) (hz : szA A s ≤ 24) (hρ : ∀ (a : Nat) (b c : Int), a ≠ 80 → a ≠ 37 → ρ a b c = σ a b c) (hbρ : Bd ρ) (hn : ∀ j, 0 ≤ j → j < szA A s → ρ 80 0 j = nuA A s j) :
    RelD (qUp (qCpy (qUp (qCpy (pRem ρ 12 x 0) 82 x 0 41 (σ 38 0 1) 0 (σ 81 x 2)) 40 (σ 38 0 1) 1 (σ 81 x 2)) 80 0 0 82 x 0 (szA A s)) 81 x 2 (szA A s)) (psh A (12, x, 0, (lnAt A x).2) (sL A.1 (mdf (fun y => (y.1, rowA A s)) (cL A.1) x.toNat))) := by
  obtain ⟨hb, e10, n10, m10, e11, n11, m11, e5, n5, m5, e4, n4, m4, h381, h382, h383, h384⟩ := dF hR hA
  have lf := ln_f hR hA hx
  have sf := sh_f hR hA hs
  have hb1 := hb 81 x 2 (by omega) (by omega)
  have bp : Bd (pRem ρ 12 x 0) := pRem_b hbρ (by rw [hρ _ _ _ (by omega) (by omega)]; omega) (by rw [hρ _ _ _ (by omega) (by omega)]; omega) (by omega) (by omega) (by omega)
  have eP : ∀ (a : Nat) (b c : Int), a ≠ 38 → a ≠ 40 → ¬ (a = 15 ∧ c = 9) → a ≠ 80 → a ≠ 37 → pRem ρ 12 x 0 a b c = σ a b c := fun a b c q1 q2 q3 q4 q5 => by rw [pRem_o q1 q2 q3, hρ a b c q4 q5]
  have e80 : ∀ c, pRem ρ 12 x 0 80 0 c = ρ 80 0 c := fun c => pRem_o (by omega) (by omega) (by omega)
  refine rel_rem2 (ρ := ρ) hR (fun a b c h => hρ a b c (by omega) (by omega)) (fun a b z q1 q2 q3 q4 => by rw [qUp_ne (by omega)]; unfold qCpy; rw [if_neg (by omega), qUp_ne (by omega), if_neg (by omega)]) ?_ ?_ (fun _ => ?_) (fun j v hj => ?_)
  · refine Iv1.cg hR.1.one (fun a b c q => ?_) ((Bd.cpy ((Bd.cpy bp (by omega) (by omega)).up hb1) (by omega) (by omega)).up (by omega))
    rw [qUp_ne (by omega)]
    unfold qCpy
    rw [if_neg (by omega), qUp_ne (by omega), if_neg (by omega), eP a b c (by omega) (by omega) (by omega) (by omega) (by omega)]
  · refine cur_change hR.2.2.1 hx.1 (fun a b z q1 q2 q3 q4 q5 q6 => ?_) (by rw [qUp_eq, row_len A s sf.2.2.1]) (fun j v hj => ?_)
    · rw [qUp_ne (by omega)]
      unfold qCpy
      rw [if_neg (by omega), qUp_ne (by omega), if_neg (by omega), eP a b z (by omega) (by omega) (by omega) (by omega) (by omega)]
    · obtain ⟨j1, j2⟩ := row_get hj
      rw [qUp_ne (by omega)]
      unfold qCpy
      rw [if_pos (by omega), qUp_ne (by omega), if_neg (by omega), show (0 : Int) + (j - 0) = j by omega, e80, hn j (by omega) j1, j2]
  · rw [qUp_ne (by omega)]
    unfold qCpy
    rw [if_neg (by omega), qUp_eq, lf.2.1]
  · obtain ⟨j1, j2⟩ := frs_get hj
    have lq := lf.2.2.2.2.2 j (by omega) j1
    rw [qUp_ne (by omega)]
    unfold qCpy
    rw [if_neg (by omega), qUp_ne (by omega), if_pos (by omega), show (0 : Int) + (j - 0) = j by omega, eP _ _ _ (by omega) (by omega) (by omega) (by omega) (by omega), lq.1, j2]
set_option maxRecDepth 20000 in
theorem o_cut (e : qR) (l : Launch) (σ : qSt) (w : Int) (A : aSt) (hR : RelD σ A) (hA : AOk A) (h_w : InI w)  : CM (ED e) l yX10_cut cX10_cut 3 (some .int) 20 [qr 0 0, qi w] σ (Ri fun z σ' => z = (oCut w A).1 ∧ RelD σ' (oCut w A).2) := by
  refine CM.mk tD_ok (by decide +kernel) (Nat.le_of_ble_eq_true rfl) (fun G C => ?_)
  show G σ 0 [some (qr 0 0), some (qi w), none] []
  obtain ⟨hb, e10, n10, m10, e11, n11, m11, e5, n5, m5, e4, n4, m4, h381, h382, h383, h384⟩ := dF hR hA
  refine r_aload_n C dX10_cut_0 rfl ?_
  refine r_iload_n C dX10_cut_1 rfl ?_
  refine r_cvi (c := 1) C dX10_cut_2 mv_X10_117 (c_X10_isWording e l _ _ hb (by omega)) (by decide) rfl rfl rfl rfl (by decide) rfl rfl (Nat.le_of_ble_eq_true rfl) (fun z2 σ2 h2 => ?_)
  obtain ⟨rfl, rfl⟩ := h2
  refine r_ifb_ne 15 C dX10_cut_5 (by decide) (fun h5 => ?_) (fun h5 => ?_)
  · have wf := wd_f hR hA (x := w) (by omega)
    refine r_aload_n C dX10_cut_15 rfl ?_
    refine r_get_r (c := 1) C dX10_cut_16 fl_X10_17 rfl rfl rfl (by decide) rfl ?_
    refine r_iload_n C dX10_cut_19 rfl ?_
    refine r_aald (c := 1) (N := 20) C dX10_cut_20 rfl (by decide) rfl (by decide) (by omega) rfl ?_
    refine r_astore_n C dX10_cut_21 rfl rfl (by decide) ?_
    refine r_aload_n C dX10_cut_22 rfl ?_
    refine r_get_i (c := 20) 7 C dX10_cut_23 fl_X10_128 rfl rfl rfl rfl (by omega) ?_
    have b23 := hb 105 w 7 (by omega) (by omega)
    refine r_if_gt 36 C dX10_cut_26 (by decide) (by omega) (fun h26 => ?_) (fun h26 => ?_)
    · refine r_aload_n C dX10_cut_36 rfl ?_
      refine r_dup C dX10_cut_37 ?_
      refine r_get_i (c := 20) 7 C dX10_cut_38 fl_X10_128 rfl rfl rfl rfl (by omega) ?_
      have b38 := hb 105 w 7 (by omega) (by omega)
      refine r_iconst C dX10_cut_41 ?_
      refine r_isub C dX10_cut_42 ?_
      refine r_put_i (c := 20) 7 C dX10_cut_43 fw_X10_128 rfl rfl rfl rfl (by omega) rfl rfl ?_
      refine r_aload_n C dX10_cut_46 rfl ?_
      refine r_iconst C dX10_cut_47 ?_
      refine r_iload_n C dX10_cut_48 rfl ?_
      refine r_iconst C dX10_cut_49 ?_
      refine r_cvr (c := 1) C dX10_cut_50 mv_X10_100 (c_X10_remember e l _ _ _ _ (by simp [qUp]; omega) (by simp [qUp]; omega)) (by decide) rfl rfl rfl rfl (by decide) rfl rfl (Nat.le_of_ble_eq_true rfl) (fun k50 i50 σ50 h50 => ?_)
      obtain ⟨rfl, rfl, rfl⟩ := h50
      have e38 : qUp σ 105 w 7 (σ 105 w 7 - 1) 38 0 1 = σ 38 0 1 := qUp_ne (by omega)
      refine r_aload_n C dX10_cut_53 rfl ?_
      refine r_cvv (c := 20) C dX10_cut_54 mv_X10_136 (c_X0_keepSyllable e l _ _ _ (by omega) (by omega) (by simp [pRem, pApp, qUp]; omega)) (by decide) rfl rfl rfl rfl (by omega) rfl rfl (Nat.le_of_ble_eq_true rfl) (fun σ54 h54 => ?_)
      have ecut : qUp (qUp (qUp (qUp (pRem (qUp σ 105 w 7 (σ 105 w 7 - 1)) 4 w 0) 41 (σ 38 0 1) 0 (σ 106 w (σ 105 w 7 - 1))) 41 (σ 38 0 1) 1 (σ 107 w (σ 105 w 7 - 1))) 41 (σ 38 0 1) 2 (σ 108 w (σ 105 w 7 - 1))) 41 (σ 38 0 1) 3 (σ 109 w (σ 105 w 7 - 1)) = σ54 := by
        rw [h54]
        simp [pRem_o, qUp]
      have e105 : σ54 105 w 7 = σ 105 w 7 - 1 := by rw [← ecut, qUp_ne (by omega), qUp_ne (by omega), qUp_ne (by omega), qUp_ne (by omega), pRem_o (by omega) (by omega) (by omega), qUp_eq]
      refine r_aload_n C dX10_cut_57 rfl ?_
      refine r_get_i (c := 20) 7 C dX10_cut_58 fl_X10_128 rfl rfl rfl rfl (by omega) ?_
      refine r_iret C dX10_cut_61 ?_
      have e1 : oCut w A = (((wdAt A w).2.2.2.length : Int) - 1, psh A (4, w, 0, lastSy (wdAt A w)) (sW A.1 (mdf (fun y => (y.1, y.2.1, y.2.2.1, y.2.2.2.dropLast)) (cW A.1) w.toNat))) := by unfold oCut; repeat (first | rw [if_pos (by omega)] | rw [if_neg (by omega)])
      have e2 := rel_cut hR hA (w := w) (by omega) (by omega)
      exact ⟨_, rfl, by rw [e1]; show _ = _; omega, by rw [e1, ← ecut]; exact e2⟩
    · refine r_aload_n C dX10_cut_29 rfl ?_
      refine r_ldc C dX10_cut_30 kc_X10_135 ?_
      refine r_cvi (c := 1) C dX10_cut_32 mv_X10_91 (c_X10_finding e l _ _) (by decide) rfl rfl rfl rfl (by decide) rfl rfl (Nat.le_of_ble_eq_true rfl) (fun z32 σ32 h32 => ?_)
      obtain ⟨rfl, rfl⟩ := h32
      refine r_iret C dX10_cut_35 ?_
      have e1 : oCut w A = fnd A (-100006) := by unfold oCut; repeat (first | rw [if_pos (by omega)] | rw [if_neg (by omega)])
      exact ⟨_, rfl, by rw [e1]; rfl, by rw [e1]; exact rel_fnd hR _⟩
  · refine r_aload_n C dX10_cut_8 rfl ?_
    refine r_ldc C dX10_cut_9 kc_X10_90 ?_
    refine r_cvi (c := 1) C dX10_cut_11 mv_X10_91 (c_X10_finding e l _ _) (by decide) rfl rfl rfl rfl (by decide) rfl rfl (Nat.le_of_ble_eq_true rfl) (fun z11 σ11 h11 => ?_)
    obtain ⟨rfl, rfl⟩ := h11
    refine r_iret C dX10_cut_14 ?_
    have e1 : oCut w A = fnd A (-100001) := by unfold oCut; repeat (first | rw [if_pos (by omega)] | rw [if_neg (by omega)])
    exact ⟨_, rfl, by rw [e1]; rfl, by rw [e1]; exact rel_fnd hR _⟩
def chI (σ : qSt) (A : aSt) (s m : Int) (σ1 : qSt) : Prop := (∀ (a : Nat) (b c : Int), a ≠ 80 → σ1 a b c = σ a b c) ∧ Bd σ1 ∧ ∀ j, 0 ≤ j → j < m → σ1 80 0 j = nuA A s j
theorem ch_step {σ σ1 : qSt} {A : aSt} {s m : Int} (hR : RelD σ A) (hs : 0 ≤ s ∧ s < 4) (hm : 0 ≤ m ∧ m < 30) (h : chI σ A s m σ1) : chI σ A s (m + 1) (qUp σ1 80 0 m (σ1 206 s m % 4)) := by
  obtain ⟨i1, i2, i3⟩ := h
  refine ⟨fun a b c q => by rw [qUp_ne (by omega)]; exact i1 a b c q, i2.up (by omega), fun j q1 q2 => ?_⟩
  by_cases e : j = m
  · subst e
    rw [qUp_eq, i1 206 _ _ (by omega)]
    exact (hR.2.2.2.2.1 s hs.1 hs.2).2.2 j q1 hm.2
  · rw [qUp_ne (by omega)]
    exact i3 j q1 (by omega)
set_option maxRecDepth 20000 in
theorem lp_X10_change {G : qSt → Nat → List (Option qV) → List qV → Prop} {Ret : Option qV → qSt → Prop} (e : qR) (l : Launch) (σ : qSt) (x s : Int) (A : aSt) (hR : RelD σ A) (hA : AOk A) (hs : 0 ≤ s ∧ s < 4) (hz : szA A s ≤ 24) (C : Cx (ED e) l RX10 cX10_change 6 (some .int) 20 Ret G) (hN : ∀ y σ2, chI σ A s (szA A s) σ2 → G σ2 94 [some (qr 0 0), some (qi x), some (qi s), some (qr 205 s), some (qi y), none] []) : ∀ (k : Nat) (m : Int) (σ1 : qSt), m + (k : Int) = szA A s → 0 ≤ m → chI σ A s m σ1 → G σ1 63 [some (qr 0 0), some (qi x), some (qi s), some (qr 205 s), some (qi m), none] [] := by
  intro k
  induction k with
  | zero =>
    intro m σ1 hm hm0 hI
    have hb1 := hI.2.1
    have sf := sh_f hR hA hs
    have e2 : σ1 205 s 2 = szA A s := by rw [hI.1 _ _ _ (by omega)]; exact sf.2.1
    refine r_iload C dX10_change_63 rfl ?_
    refine r_aload_n C dX10_change_65 rfl ?_
    refine r_get_i (c := 4) 2 C dX10_change_66 fl_X10_236 rfl rfl rfl rfl (by omega) ?_
    have b66 := hb1 205 s 2 (by omega) (by omega)
    refine r_ic_ge 94 C dX10_change_69 (by decide) (by omega) (by omega) (fun h69 => ?_) (fun h69 => ?_)
    · rw [show m = szA A s by omega] at hI
      exact hN _ _ hI
    · exfalso; omega
  | succ k ih =>
    intro m σ1 hm hm0 hI
    have hb1 := hI.2.1
    have sf := sh_f hR hA hs
    have e2 : σ1 205 s 2 = szA A s := by rw [hI.1 _ _ _ (by omega)]; exact sf.2.1
    refine r_iload C dX10_change_63 rfl ?_
    refine r_aload_n C dX10_change_65 rfl ?_
    refine r_get_i (c := 4) 2 C dX10_change_66 fl_X10_236 rfl rfl rfl rfl (by omega) ?_
    have b66 := hb1 205 s 2 (by omega) (by omega)
    refine r_ic_ge 94 C dX10_change_69 (by decide) (by omega) (by omega) (fun h69 => ?_) (fun h69 => ?_)
    · exfalso; omega
    · refine r_aload_n C dX10_change_72 rfl ?_
      refine r_get_r (c := 1) C dX10_change_73 fl_X10_69 rfl rfl rfl (by decide) rfl ?_
      refine r_iload C dX10_change_76 rfl ?_
      refine r_aload_n C dX10_change_78 rfl ?_
      refine r_get_r (c := 4) C dX10_change_79 fl_X10_239 rfl rfl rfl (by omega) rfl ?_
      refine r_iload C dX10_change_82 rfl ?_
      refine r_iald (c := 4) (N := 30) C dX10_change_84 rfl rfl (by omega) (by omega) ?_
      refine r_iconst C dX10_change_85 ?_
      refine r_iand _ C dX10_change_86 (z_mask (σ1 206 s m) 2 4 rfl (by decide) (by decide)) ?_
      refine r_iast (c := 1) (N := 24) C dX10_change_87 rfl rfl (by decide) (by omega) ?_
      refine r_iinc C dX10_change_88 rfl rfl rfl (by decide) ?_
      refine r_goto 63 C dX10_change_91 (by decide) ?_
      exact ih _ _ (by omega) (by omega) (ch_step hR hs (by omega) hI)
set_option maxRecDepth 20000 in
theorem o_change (e : qR) (l : Launch) (σ : qSt) (x s : Int) (A : aSt) (hR : RelD σ A) (hA : AOk A) (h_x : InI x) (h_s : InI s)  : CM (ED e) l yX10_change cX10_change 6 (some .int) 20 [qr 0 0, qi x, qi s] σ (Ri fun z σ' => z = (oChange x s A).1 ∧ RelD σ' (oChange x s A).2) := by
  refine CM.mk tD_ok (by decide +kernel) (Nat.le_of_ble_eq_true rfl) (fun G C => ?_)
  show G σ 0 [some (qr 0 0), some (qi x), some (qi s), none, none, none] []
  obtain ⟨hb, e10, n10, m10, e11, n11, m11, e5, n5, m5, e4, n4, m4, h381, h382, h383, h384⟩ := dF hR hA
  refine r_aload_n C dX10_change_0 rfl ?_
  refine r_iload_n C dX10_change_1 rfl ?_
  refine r_cvi (c := 1) C dX10_change_2 mv_X10_104 (c_X10_isLine e l _ _ hb (by omega)) (by decide) rfl rfl rfl rfl (by decide) rfl rfl (Nat.le_of_ble_eq_true rfl) (fun z2 σ2 h2 => ?_)
  obtain ⟨rfl, rfl⟩ := h2
  refine r_ifb_eq 16 C dX10_change_5 (by decide) (fun h5 => ?_) (fun h5 => ?_)
  · refine r_aload_n C dX10_change_16 rfl ?_
    refine r_ldc C dX10_change_17 kc_X10_90 ?_
    refine r_cvi (c := 1) C dX10_change_19 mv_X10_91 (c_X10_finding e l _ _) (by decide) rfl rfl rfl rfl (by decide) rfl rfl (Nat.le_of_ble_eq_true rfl) (fun z19 σ19 h19 => ?_)
    obtain ⟨rfl, rfl⟩ := h19
    refine r_iret C dX10_change_22 ?_
    have e1 : oChange x s A = fnd A (-100001) := by unfold oChange; repeat (first | rw [if_pos (by omega)] | rw [if_neg (by omega)])
    exact ⟨_, rfl, by rw [e1]; rfl, by rw [e1]; exact rel_fnd hR _⟩
  · refine r_iload_n C dX10_change_8 rfl ?_
    refine r_iconst C dX10_change_9 ?_
    refine r_csi C dX10_change_10 ms_X10_86 (c_X10_within e l _ _ _ (by omega) (by omega)) (by decide) rfl rfl (Nat.le_of_ble_eq_true rfl) (fun z10 σ10 h10 => ?_)
    obtain ⟨rfl, rfl⟩ := h10
    refine r_ifb_ne 23 C dX10_change_13 (by decide) (fun h13 => ?_) (fun h13 => ?_)
    · have sf := sh_f hR hA (s := s) (by omega)
      refine r_aload_n C dX10_change_23 rfl ?_
      refine r_get_r (c := 1) C dX10_change_24 fl_X10_23 rfl rfl rfl (by decide) rfl ?_
      refine r_iload_n C dX10_change_27 rfl ?_
      refine r_aald (c := 1) (N := 4) C dX10_change_28 rfl (by decide) rfl (by decide) (by omega) rfl ?_
      refine r_astore_n C dX10_change_29 rfl rfl (by decide) ?_
      refine r_aload_n C dX10_change_30 rfl ?_
      refine r_cvi (c := 4) C dX10_change_31 mv_X10_231 (c_X8_isMissing e l _ _ hb (by omega)) (by decide) rfl rfl rfl rfl (by omega) rfl rfl (Nat.le_of_ble_eq_true rfl) (fun z31 σ31 h31 => ?_)
      obtain ⟨rfl, rfl⟩ := h31
      refine r_ifb_eq 44 C dX10_change_34 (by decide) (fun h34 => ?_) (fun h34 => ?_)
      · refine r_aload_n C dX10_change_44 rfl ?_
        refine r_get_i (c := 4) 2 C dX10_change_45 fl_X10_236 rfl rfl rfl rfl (by omega) ?_
        have b45 := hb 205 s 2 (by omega) (by omega)
        refine r_bipush C dX10_change_48 ?_
        refine r_ic_le 60 C dX10_change_50 (by decide) (by omega) (by omega) (fun h50 => ?_) (fun h50 => ?_)
        · refine r_iconst C dX10_change_60 ?_
          refine r_istore C dX10_change_61 rfl rfl (by decide) ?_
          refine lp_X10_change e l σ x s A hR hA (by omega) (by omega) C (fun y σ2 hI2 => ?_) (szA A s).toNat _ _ (by omega) (by omega) ⟨fun _ _ _ _ => rfl, hb, fun j q1 q2 => by omega⟩
          have lf := ln_f hR hA (x := x) (by omega)
          have hb2 := hI2.2.1
          have ex : szA A s = σ2 205 s 2 := by rw [hI2.1 _ _ _ (by omega)]; omega
          have ey : σ2 81 x 2 = σ 81 x 2 := hI2.1 _ _ _ (by omega)
          refine r_aload_n C dX10_change_94 rfl ?_
          refine r_get_r (c := 1) C dX10_change_95 fl_X10_11 rfl rfl rfl (by decide) rfl ?_
          refine r_iload_n C dX10_change_98 rfl ?_
          refine r_aald (c := 1) (N := 12) C dX10_change_99 rfl (by decide) rfl (by decide) (by omega) rfl ?_
          refine r_astore C dX10_change_100 rfl rfl (by decide) ?_
          refine r_aload_n C dX10_change_102 rfl ?_
          refine r_get_r (c := 1) C dX10_change_103 fl_X10_58 rfl rfl rfl (by decide) rfl ?_
          refine r_aload C dX10_change_106 rfl ?_
          refine r_get_r (c := 12) C dX10_change_108 fl_X10_111 rfl rfl rfl (by omega) rfl ?_
          refine r_aload C dX10_change_111 rfl ?_
          refine r_get_i (c := 12) 2 C dX10_change_113 fl_X10_108 rfl rfl rfl rfl (by omega) ?_
          have b113 := hb2 81 x 2 (by omega) (by omega)
          refine r_aload_n C dX10_change_116 rfl ?_
          refine r_get_r (c := 1) C dX10_change_117 fl_X10_69 rfl rfl rfl (by decide) rfl ?_
          refine r_aload_n C dX10_change_120 rfl ?_
          refine r_get_i (c := 4) 2 C dX10_change_121 fl_X10_236 rfl rfl rfl rfl (by omega) ?_
          have b121 := hb2 205 s 2 (by omega) (by omega)
          refine r_v (b := szA A s) ex.symm ?_
          refine r_cvi (c := 1) C dX10_change_124 mv_X10_242 (c_X6_countKept_n e l _ _ _ _ hb2 (by omega) (by omega) (by omega)) (by decide) rfl rfl rfl rfl (by decide) rfl rfl (Nat.le_of_ble_eq_true rfl) (fun z124 σ124 h124 => ?_)
          obtain ⟨hz, hak, hbk⟩ := h124
          have eg : ∀ (a : Nat) (b c : Int), a ≠ 80 → a ≠ 37 → σ124 a b c = σ a b c := fun a b c q1 q2 => by rw [hak a b c q2]; exact hI2.1 a b c q1
          have g38 : σ124 38 0 1 = σ 38 0 1 := eg _ _ _ (by omega) (by omega)
          have g39 : σ124 38 0 2 = σ 38 0 2 := eg _ _ _ (by omega) (by omega)
          refine r_istore C dX10_change_127 rfl rfl (by decide) ?_
          refine r_aload_n C dX10_change_129 rfl ?_
          refine r_bipush C dX10_change_130 ?_
          refine r_iload_n C dX10_change_132 rfl ?_
          refine r_iconst C dX10_change_133 ?_
          refine r_cvr (c := 1) C dX10_change_134 mv_X10_100 (c_X10_remember e l _ _ _ _ (by omega) (by omega)) (by decide) rfl rfl rfl rfl (by decide) rfl rfl (Nat.le_of_ble_eq_true rfl) (fun k134 i134 σ134 h134 => ?_)
          obtain ⟨rfl, rfl, h134⟩ := h134
          have g81 : σ134 81 x 2 = σ 81 x 2 := by rw [h134, pRem_o (by omega) (by omega) (by omega)]; exact eg _ _ _ (by omega) (by omega)
          refine r_aload C dX10_change_137 rfl ?_
          refine r_cvv (c := 20) C dX10_change_139 mv_X10_246 (c_X0_keepFrames e l _ _ _ (by omega) (by omega) (by omega)) (by decide) rfl rfl rfl rfl (by omega) rfl rfl (Nat.le_of_ble_eq_true rfl) (fun σ139 h139 => ?_)
          have ez : σ139 205 s 2 = szA A s := by
            rw [h139, qUp_ne (by omega)]
            unfold qCpy
            rw [if_neg (by omega), h134, pRem_o (by omega) (by omega) (by omega), eg _ _ _ (by omega) (by omega)]
            exact sf.2.1
          rw [g81, g38, h134] at h139
          refine r_aload C dX10_change_142 rfl ?_
          refine r_aload_n C dX10_change_144 rfl ?_
          refine r_get_r (c := 1) C dX10_change_145 fl_X10_69 rfl rfl rfl (by decide) rfl ?_
          refine r_aload_n C dX10_change_148 rfl ?_
          refine r_get_i (c := 4) 2 C dX10_change_149 fl_X10_236 rfl rfl rfl rfl (by omega) ?_
          refine r_v (b := szA A s) ez ?_
          refine r_cvv (c := 12) C dX10_change_152 mv_X10_250 (c_X5_takeFrames_n e l _ _ _ (by omega) (by omega)) (by decide) rfl rfl rfl rfl (by omega) rfl rfl (Nat.le_of_ble_eq_true rfl) (fun σ152 h152 => ?_)
          refine r_iload C dX10_change_155 rfl ?_
          refine r_iret C dX10_change_157 ?_
          have e1 : oChange x s A = (lcs (frAt (lnAt A x)) (nuA A s) (lnAt A x).2.length (szA A s).toNat, psh A (12, x, 0, (lnAt A x).2) (sL A.1 (mdf (fun y => (y.1, rowA A s)) (cL A.1) x.toNat))) := by unfold oChange; rw [if_neg (by omega), if_neg (by omega), if_neg (by omega)]
          exact ⟨_, rfl, by rw [e1, hz, ey, lf.2.1, Int.toNat_natCast]; exact lcs_cg (n := (lnAt A x).2.length) (m := (szA A s).toNat) (fun i q => by rw [hI2.1 _ _ _ (by omega)]; exact (lf.2.2.2.2.2 i (by omega) (by omega)).1) (fun i q => hI2.2.2 i (by omega) (by omega)) _ _ _ (Nat.le_refl _) (Nat.le_refl _) (Nat.le_refl _), by rw [e1, h152, h139]; exact rel_chg (ρ := σ124) hR hA (by omega) (by omega) (by omega) eg hbk (fun j j1 j2 => by rw [hak 80 0 j (by omega)]; exact hI2.2.2 j j1 j2)⟩
        · refine r_aload_n C dX10_change_53 rfl ?_
          refine r_ldc C dX10_change_54 kc_X10_127 ?_
          refine r_cvi (c := 1) C dX10_change_56 mv_X10_91 (c_X10_finding e l _ _) (by decide) rfl rfl rfl rfl (by decide) rfl rfl (Nat.le_of_ble_eq_true rfl) (fun z56 σ56 h56 => ?_)
          obtain ⟨rfl, rfl⟩ := h56
          refine r_iret C dX10_change_59 ?_
          have e1 : oChange x s A = fnd A (-100003) := by unfold oChange; repeat (first | rw [if_pos (by omega)] | rw [if_neg (by omega)])
          exact ⟨_, rfl, by rw [e1]; rfl, by rw [e1]; exact rel_fnd hR _⟩
      · refine r_aload_n C dX10_change_37 rfl ?_
        refine r_ldc C dX10_change_38 kc_X10_235 ?_
        refine r_cvi (c := 1) C dX10_change_40 mv_X10_91 (c_X10_finding e l _ _) (by decide) rfl rfl rfl rfl (by decide) rfl rfl (Nat.le_of_ble_eq_true rfl) (fun z40 σ40 h40 => ?_)
        obtain ⟨rfl, rfl⟩ := h40
        refine r_iret C dX10_change_43 ?_
        have e1 : oChange x s A = fnd A (-100002) := by unfold oChange; repeat (first | rw [if_pos (by omega)] | rw [if_neg (by omega)])
        exact ⟨_, rfl, by rw [e1]; rfl, by rw [e1]; exact rel_fnd hR _⟩
    · refine r_aload_n C dX10_change_16 rfl ?_
      refine r_ldc C dX10_change_17 kc_X10_90 ?_
      refine r_cvi (c := 1) C dX10_change_19 mv_X10_91 (c_X10_finding e l _ _) (by decide) rfl rfl rfl rfl (by decide) rfl rfl (Nat.le_of_ble_eq_true rfl) (fun z19 σ19 h19 => ?_)
      obtain ⟨rfl, rfl⟩ := h19
      refine r_iret C dX10_change_22 ?_
      have e1 : oChange x s A = fnd A (-100001) := by unfold oChange; repeat (first | rw [if_pos (by omega)] | rw [if_neg (by omega)])
      exact ⟨_, rfl, by rw [e1]; rfl, by rw [e1]; exact rel_fnd hR _⟩
