set_option maxRecDepth 20000 in
theorem tl_X11_keep {G : qSt → Nat → List (Option qV) → List qV → Prop} {Ret : Option qV → qSt → Prop} (e : qR) (l : Launch) (σ : qSt) (hk : 0 ≤ σ 0 0 4 ∧ σ 0 0 4 < 20) (C : Cx (EM e) l RX11 cX11_keep 2 none 3 Ret G) (o1 : Option qV) (hR : Ret none (kp2 σ)) : G σ 80 [some (qr 0 0), o1] [] := by
  refine r_iconst C dX11_keep_80 ?_
  refine r_istore_n C dX11_keep_81 rfl rfl (by decide) ?_
  refine lp_X11_keep3 e l σ hk C (fun y => ?_) 365 0 _ (by omega) (by omega) (cpy_0 _ _ _ _ _ _ _).symm
  obtain ⟨σ2, hσ2⟩ : ∃ s, s = qCpy σ 1 0 0 3 0 (σ 0 0 4 * 365) 365 := ⟨_, rfl⟩
  rw [← hσ2]
  have kσ2 : σ2 0 0 4 = σ 0 0 4 := by rw [hσ2]; unfold qCpy; rw [if_neg (by omega)]
  refine r_iconst C dX11_keep_116 ?_
  refine r_istore_n C dX11_keep_117 rfl rfl (by decide) ?_
  refine lp_X11_keep4 e l σ2 (by omega) C (fun y => ?_) 12 0 _ (by omega) (by omega) (cpy_0 _ _ _ _ _ _ _).symm
  obtain ⟨σ3, hσ3⟩ : ∃ s, s = qCpy σ2 2 0 0 4 0 (σ2 0 0 4 * 12) 12 := ⟨_, rfl⟩
  rw [← hσ3]
  have kσ3 : σ3 0 0 4 = σ2 0 0 4 := by rw [hσ3]; unfold qCpy; rw [if_neg (by omega)]
  refine r_aload_n C dX11_keep_150 rfl ?_
  refine r_dup C dX11_keep_151 ?_
  refine r_get_i (c := 1) 4 C dX11_keep_152 fl_X11_64 rfl rfl rfl rfl (by decide) ?_
  refine r_iconst C dX11_keep_155 ?_
  refine r_iadd C dX11_keep_156 ?_
  refine r_put_i (c := 1) 4 C dX11_keep_157 fw_X11_64 rfl rfl rfl rfl (by decide) rfl rfl ?_
  refine r_vret C dX11_keep_160 ?_
  have e9 : kp2 σ = qUp σ3 0 0 4 (σ3 0 0 4 + 1) := by unfold kp2; rw [kσ3, kσ2, hσ3, kσ2, hσ2]
  rw [← e9]
  exact hR
set_option maxRecDepth 20000 in
theorem c_X11_keep (e : qR) (l : Launch) (σ : qSt) (hk : 0 ≤ σ 0 0 4 ∧ σ 0 0 4 ≤ 20) : CM (EM e) l yX11_keep cX11_keep 2 none 3 [qr 0 0] σ (Rv fun σ' => σ' = kpS σ) := by
  refine CM.mk tM_ok (by decide +kernel) (Nat.le_of_ble_eq_true rfl) (fun G C => ?_)
  show G σ 0 [some (qr 0 0), none] []
  refine r_aload_n C dX11_keep_0 rfl ?_
  refine r_get_i (c := 1) 4 C dX11_keep_1 fl_X11_64 rfl rfl rfl rfl (by decide) ?_
  refine r_bipush C dX11_keep_4 ?_
  refine r_ic_ne 80 C dX11_keep_6 (by decide) (by omega) (by omega) (fun h6 => ?_) (fun h6 => ?_)
  · exact tl_X11_keep e l σ (by omega) C _ ⟨rfl, by unfold kpS; rw [if_neg (by omega)]⟩
  · refine r_iconst C dX11_keep_9 ?_
    refine r_istore_n C dX11_keep_10 rfl rfl (by decide) ?_
    refine lp_X11_keep1 e l σ C (fun y => ?_) 6935 0 _ (by omega) (by omega) (cpy_0 _ _ _ _ _ _ _).symm
    obtain ⟨σ2, hσ2⟩ : ∃ s, s = qCpy σ 3 0 365 3 0 0 6935 := ⟨_, rfl⟩
    rw [← hσ2]
    have kσ2 : σ2 0 0 4 = σ 0 0 4 := by rw [hσ2]; unfold qCpy; rw [if_neg (by omega)]
    refine r_iconst C dX11_keep_40 ?_
    refine r_istore_n C dX11_keep_41 rfl rfl (by decide) ?_
    refine lp_X11_keep2 e l σ2 C (fun y => ?_) 228 0 _ (by omega) (by omega) (cpy_0 _ _ _ _ _ _ _).symm
    obtain ⟨σ3, hσ3⟩ : ∃ s, s = qCpy σ2 4 0 12 4 0 0 228 := ⟨_, rfl⟩
    rw [← hσ3]
    have kσ3 : σ3 0 0 4 = σ2 0 0 4 := by rw [hσ3]; unfold qCpy; rw [if_neg (by omega)]
    refine r_aload_n C dX11_keep_70 rfl ?_
    refine r_dup C dX11_keep_71 ?_
    refine r_get_i (c := 1) 4 C dX11_keep_72 fl_X11_64 rfl rfl rfl rfl (by decide) ?_
    refine r_iconst C dX11_keep_75 ?_
    refine r_isub C dX11_keep_76 ?_
    refine r_put_i (c := 1) 4 C dX11_keep_77 fw_X11_64 rfl rfl rfl rfl (by decide) rfl rfl ?_
    have e9 : qUp σ3 0 0 4 (σ3 0 0 4 - 1) = kp1 σ := by unfold kp1; rw [kσ3, kσ2, hσ3, hσ2]
    rw [e9]
    exact tl_X11_keep e l _ (by rw [← e9, qUp_eq]; omega) C _ ⟨rfl, by unfold kpS; rw [if_pos (by omega)]⟩
set_option maxRecDepth 20000 in
theorem lp_X11_undo1 {G : qSt → Nat → List (Option qV) → List qV → Prop} {Ret : Option qV → qSt → Prop} (e : qR) (l : Launch) (σ : qSt) (hk : 0 ≤ σ 0 0 4 ∧ σ 0 0 4 < 20) (C : Cx (EM e) l RX11 cX11_undo 2 (some .int) 20 Ret G) (hN : ∀ y, G (qCpy σ 3 0 (σ 0 0 4 * 365) 1 0 0 365) 60 [some (qr 0 0), some (qi y)] []) : ∀ (k : Nat) (m : Int) (σ1 : qSt), m + (k : Int) = 365 → 0 ≤ m → σ1 = qCpy σ 3 0 (σ 0 0 4 * 365) 1 0 0 m → G σ1 26 [some (qr 0 0), some (qi m)] [] := by
  intro k
  induction k with
  | zero =>
    intro m σ1 hm hm0 hI
    have k0 : σ1 0 0 4 = σ 0 0 4 := by subst hI; unfold qCpy; rw [if_neg (by omega)]
    refine r_iload_n C dX11_undo_26 rfl ?_
    refine r_sipush C dX11_undo_27 ?_
    refine r_ic_ge 60 C dX11_undo_30 (by decide) (by omega) (by omega) (fun h30 => ?_) (fun h30 => ?_)
    · subst hI
      rw [show m = 365 by omega]
      exact hN _
    · exfalso; omega
  | succ k ih =>
    intro m σ1 hm hm0 hI
    have k0 : σ1 0 0 4 = σ 0 0 4 := by subst hI; unfold qCpy; rw [if_neg (by omega)]
    refine r_iload_n C dX11_undo_26 rfl ?_
    refine r_sipush C dX11_undo_27 ?_
    refine r_ic_ge 60 C dX11_undo_30 (by decide) (by omega) (by omega) (fun h30 => ?_) (fun h30 => ?_)
    · exfalso; omega
    · refine r_aload_n C dX11_undo_33 rfl ?_
      refine r_get_r (c := 1) C dX11_undo_34 fl_X11_9 rfl rfl rfl (by decide) rfl ?_
      refine r_iload_n C dX11_undo_37 rfl ?_
      refine r_aload_n C dX11_undo_38 rfl ?_
      refine r_get_r (c := 1) C dX11_undo_39 fl_X11_17 rfl rfl rfl (by decide) rfl ?_
      refine r_aload_n C dX11_undo_42 rfl ?_
      refine r_get_i (c := 1) 4 C dX11_undo_43 fl_X11_64 rfl rfl rfl rfl (by decide) ?_
      refine r_sipush C dX11_undo_46 ?_
      refine r_imul C dX11_undo_49 ?_
      refine r_iload_n C dX11_undo_50 rfl ?_
      refine r_iadd C dX11_undo_51 ?_
      refine r_iald (c := 1) (N := 7300) C dX11_undo_52 rfl rfl (by decide) (by omega) ?_
      refine r_iast (c := 1) (N := 365) C dX11_undo_53 rfl rfl (by decide) (by omega) ?_
      refine r_iinc C dX11_undo_54 rfl rfl rfl (by decide) ?_
      refine r_goto 26 C dX11_undo_57 (by decide) ?_
      exact ih _ _ (by omega) (by omega) (by rw [k0]; subst hI; exact cpy_step hm0 (by omega) (by unfold qCpy; rw [if_neg (by omega)]))
set_option maxRecDepth 20000 in
theorem lp_X11_undo2 {G : qSt → Nat → List (Option qV) → List qV → Prop} {Ret : Option qV → qSt → Prop} (e : qR) (l : Launch) (σ : qSt) (hk : 0 ≤ σ 0 0 4 ∧ σ 0 0 4 < 20) (C : Cx (EM e) l RX11 cX11_undo 2 (some .int) 20 Ret G) (hN : ∀ y, G (qCpy σ 4 0 (σ 0 0 4 * 12) 2 0 0 12) 94 [some (qr 0 0), some (qi y)] []) : ∀ (k : Nat) (m : Int) (σ1 : qSt), m + (k : Int) = 12 → 0 ≤ m → σ1 = qCpy σ 4 0 (σ 0 0 4 * 12) 2 0 0 m → G σ1 62 [some (qr 0 0), some (qi m)] [] := by
  intro k
  induction k with
  | zero =>
    intro m σ1 hm hm0 hI
    have k0 : σ1 0 0 4 = σ 0 0 4 := by subst hI; unfold qCpy; rw [if_neg (by omega)]
    refine r_iload_n C dX11_undo_62 rfl ?_
    refine r_bipush C dX11_undo_63 ?_
    refine r_ic_ge 94 C dX11_undo_65 (by decide) (by omega) (by omega) (fun h65 => ?_) (fun h65 => ?_)
    · subst hI
      rw [show m = 12 by omega]
      exact hN _
    · exfalso; omega
  | succ k ih =>
    intro m σ1 hm hm0 hI
    have k0 : σ1 0 0 4 = σ 0 0 4 := by subst hI; unfold qCpy; rw [if_neg (by omega)]
    refine r_iload_n C dX11_undo_62 rfl ?_
    refine r_bipush C dX11_undo_63 ?_
    refine r_ic_ge 94 C dX11_undo_65 (by decide) (by omega) (by omega) (fun h65 => ?_) (fun h65 => ?_)
    · exfalso; omega
    · refine r_aload_n C dX11_undo_68 rfl ?_
      refine r_get_r (c := 1) C dX11_undo_69 fl_X11_13 rfl rfl rfl (by decide) rfl ?_
      refine r_iload_n C dX11_undo_72 rfl ?_
      refine r_aload_n C dX11_undo_73 rfl ?_
      refine r_get_r (c := 1) C dX11_undo_74 fl_X11_20 rfl rfl rfl (by decide) rfl ?_
      refine r_aload_n C dX11_undo_77 rfl ?_
      refine r_get_i (c := 1) 4 C dX11_undo_78 fl_X11_64 rfl rfl rfl rfl (by decide) ?_
      refine r_bipush C dX11_undo_81 ?_
      refine r_imul C dX11_undo_83 ?_
      refine r_iload_n C dX11_undo_84 rfl ?_
      refine r_iadd C dX11_undo_85 ?_
      refine r_lald (c := 1) (N := 240) C dX11_undo_86 rfl rfl (by decide) (by omega) ?_
      refine r_last (c := 1) (N := 12) C dX11_undo_87 rfl rfl (by decide) (by omega) ?_
      refine r_iinc C dX11_undo_88 rfl rfl rfl (by decide) ?_
      refine r_goto 62 C dX11_undo_91 (by decide) ?_
      exact ih _ _ (by omega) (by omega) (by rw [k0]; subst hI; exact cpy_step hm0 (by omega) (by unfold qCpy; rw [if_neg (by omega)]))
/-! the reference's acts and the mathematical state -/
theorem mF {σ : qSt} {A : aSt} (hR : RelM σ A) (hA : AOk A) : Bm σ ∧ σ 1 0 0 = nLn A ∧ 0 ≤ nLn A ∧ nLn A ≤ 12 ∧ σ 1 0 1 = nWd A ∧ 0 ≤ nWd A ∧ nWd A ≤ 20 ∧ σ 1 0 2 = nTx A ∧ 0 ≤ nTx A ∧ nTx A ≤ 40 ∧ σ 1 0 3 = nLp A ∧ 0 ≤ nLp A ∧ nLp A ≤ 7 ∧ 0 ≤ σ 0 0 4 ∧ σ 0 0 4 ≤ 20 := by
  obtain ⟨hb, -, ⟨hL, hW, hT, -, -, -, -, hO⟩, hk, -⟩ := hR
  obtain ⟨⟨gL, gW, gT, -, -, -, -, gO⟩, hk2, -⟩ := hA
  have a1 := gL.1
  have a2 := gW.1
  have a3 := gT.1
  have a4 := gO.1
  refine ⟨hb, hL.1, Int.natCast_nonneg _, ?_, hW.1, Int.natCast_nonneg _, ?_, hT.1, Int.natCast_nonneg _, ?_, hO.1, Int.natCast_nonneg _, ?_, by omega, by omega⟩
  · show ((cL A.1).length : Int) ≤ 12; omega
  · show ((cW A.1).length : Int) ≤ 20; omega
  · show ((cT A.1).length : Int) ≤ 40; omega
  · show ((cO A.1).length : Int) ≤ 7; omega
theorem ln_m {σ : qSt} {A : aSt} (hR : RelM σ A) (hA : AOk A) {x : Int} (hx : 0 ≤ x ∧ x < nLn A) : σ 1 0 (4 + x) = (lnAt A x).1 ∧ σ 1 0 (16 + x) = ((lnAt A x).2.length : Int) ∧ ((lnAt A x).2.length : Int) ≤ 24 ∧ 0 ≤ (lnAt A x).1 ∧ (lnAt A x).1 < 6 ∧ ∀ q, 0 ≤ q → q < ((lnAt A x).2.length : Int) → dg (σ 2 0 x) q = frAt (lnAt A x) q ∧ 0 ≤ frAt (lnAt A x) q ∧ frAt (lnAt A x) q < 4 := by
  have hg := ln_get hx
  obtain ⟨r1, r2, r3⟩ := hR.2.2.1.1.2 _ _ hg
  obtain ⟨g1, g2, g3, g4⟩ := hA.1.1.2 _ _ hg
  rw [Int.toNat_of_nonneg hx.1] at r1 r2 r3
  refine ⟨r1, r2, by omega, g1, g2, fun q q1 q2 => ?_⟩
  have hq : (lnAt A x).2[q.toNat]? = some (frAt (lnAt A x) q) := get_of_lt _ _ (by omega)
  have a := r3 _ _ hq
  have b := g4 _ _ hq
  rw [Int.toNat_of_nonneg q1] at a
  exact ⟨a, b⟩
theorem wd_m {σ : qSt} {A : aSt} (hR : RelM σ A) (hA : AOk A) {x : Int} (hx : 0 ≤ x ∧ x < nWd A) : σ 1 0 (28 + x) = (wdAt A x).1 ∧ σ 1 0 (48 + x) = (wdAt A x).2.1 ∧ σ 1 0 (68 + x) = (wdAt A x).2.2.1 ∧ σ 1 0 (88 + x) = ((wdAt A x).2.2.2.length : Int) ∧ ((wdAt A x).2.2.2.length : Int) ≤ 8 ∧ 0 ≤ (wdAt A x).1 ∧ (wdAt A x).1 < nLn A ∧ 0 ≤ (wdAt A x).2.1 ∧ (wdAt A x).2.1 < 4 ∧ 0 ≤ (wdAt A x).2.2.1 ∧ (wdAt A x).2.2.1 ≤ 100 ∧ ∀ s, 0 ≤ s → s < ((wdAt A x).2.2.2.length : Int) → σ 1 0 (108 + 8 * x + s) = pkS (syAt (wdAt A x) s) ∧ 0 ≤ (syAt (wdAt A x) s).1 ∧ (syAt (wdAt A x) s).1 < 4 ∧ 1 ≤ (syAt (wdAt A x) s).2.1 ∧ (syAt (wdAt A x) s).2.1 ≤ (syAt (wdAt A x) s).2.2.1 ∧ (syAt (wdAt A x) s).2.2.1 ≤ 6 ∧ 0 ≤ (syAt (wdAt A x) s).2.2.2 ∧ (syAt (wdAt A x) s).2.2.2 < 32 := by
  have hg := wd_get hx
  obtain ⟨r1, r2, r3, r4, r5⟩ := hR.2.2.1.2.1.2 _ _ hg
  obtain ⟨g1, g2, g3, g4, g5, g6, g7, g8⟩ := hA.1.2.1.2 _ _ hg
  rw [Int.toNat_of_nonneg hx.1] at r1 r2 r3 r4 r5
  refine ⟨r1, r2, r3, r4, by omega, g1, g2, g3, g4, g5, g6, fun s s1 s2 => ?_⟩
  have hq : (wdAt A x).2.2.2[s.toNat]? = some (syAt (wdAt A x) s) := get_of_lt _ _ (by omega)
  have a := r5 _ _ hq
  have b := g8 _ _ hq
  rw [Int.toNat_of_nonneg s1] at a
  exact ⟨a, by omega, by omega, by omega, by omega, by omega, by omega, by omega⟩
/-- work of the reference's own, and a finding -/
theorem rel_mscr {σ τ : qSt} {A : aSt} (hR : RelM σ A) (h : ∀ (a : Nat) (b c : Int), a < 8 → ¬ (a = 0 ∧ 12 ≤ c) → τ a b c = σ a b c) (hb : Bm τ) : RelM τ A := by
  obtain ⟨-, hl, hN, hk, hP, hS, hf⟩ := hR
  have e1 : τ 1 0 = σ 1 0 := by funext j; exact h _ _ _ (by omega) (by omega)
  have e2 : τ 2 0 = σ 2 0 := by funext j; exact h _ _ _ (by omega) (by omega)
  refine ⟨hb, fun k j q => by rw [h _ _ _ (by omega) (by omega)]; exact hl k j q, by rw [e1, e2]; exact hN, by rw [h _ _ _ (by omega) (by omega)]; exact hk, fun k c hc => ?_, fun s a b => ?_, by rw [h _ _ _ (by omega) (by omega)]; exact hf⟩
  · have := hP k c hc
    simp only [fun b c => h 3 b c (by omega) (by omega), fun b c => h 4 b c (by omega) (by omega)]
    exact this
  · rw [h 5 _ _ (by omega) (by omega), h 6 _ _ (by omega) (by omega)]
    obtain ⟨x, y, z⟩ := hS s a b
    exact ⟨x, y, fun j u v => by rw [h 7 _ _ (by omega) (by omega)]; exact z j u v⟩
theorem rel_mfnd {σ : qSt} {A : aSt} (hR : RelM σ A) (z : Int) : RelM (qUp σ 0 0 5 (σ 0 0 5 + 1)) (fnd A z).2 := by
  obtain ⟨hb, hl, hN, hk, hP, hS, hf⟩ := hR
  have e : ∀ (a : Nat) (b c : Int), ¬ (a = 0 ∧ c = 5) → qUp σ 0 0 5 (σ 0 0 5 + 1) a b c = σ a b c := fun a b c q => qUp_ne (by omega)
  have e1 : (qUp σ 0 0 5 (σ 0 0 5 + 1)) 1 0 = σ 1 0 := by funext j; exact e _ _ _ (by omega)
  have e2 : (qUp σ 0 0 5 (σ 0 0 5 + 1)) 2 0 = σ 2 0 := by funext j; exact e _ _ _ (by omega)
  refine ⟨hb.ul (by omega), hl.up (by omega), by rw [e1, e2]; exact hN, by rw [e _ _ _ (by omega)]; exact hk, fun k c hc => ?_, fun s a b => ?_, ?_⟩
  · have := hP k c hc
    simp only [fun b c => e 3 b c (by omega), fun b c => e 4 b c (by omega)]
    exact this
  · rw [e 5 _ _ (by omega), e 6 _ _ (by omega)]
    obtain ⟨x, y, z⟩ := hS s a b
    exact ⟨x, y, fun j u v => by rw [e 7 _ _ (by omega)]; exact z j u v⟩
  · show qUp σ 0 0 5 (σ 0 0 5 + 1) 0 0 5 = A.2.2.1 + 1
    rw [qUp_eq, hf]
theorem rel_mpsh {σ σ1 τ : qSt} {A : aSt} {a : aAct} {c : aCur} (hR : RelM σ A) (hA : AOk A) (hk : kpQ σ σ1) (hτ : ∀ (x : Nat) (b z : Int), x ≠ 1 → x ≠ 2 → τ x b z = σ1 x b z) (hb : Bm τ) (hl : Bl τ) (hN : RN (τ 1 0) (τ 2 0) c) (hu : undoA a c = A.1) : RelM τ (psh A a c) := by
  obtain ⟨-, -, hN0, hk0, hP, hS, hf⟩ := hR
  obtain ⟨k1, k2, k3, k4, k5, k6, -, -⟩ := hk
  have hl20 := hA.2.1
  have hlen : (((a :: A.2.1).take 20).length : Int) = σ1 0 0 4 := by rw [List.length_take, List.length_cons, k2, hk0]; omega
  have e34 : ∀ (x : Nat) (z : Int), x = 3 ∨ x = 4 → τ x 0 z = σ1 x 0 z := fun x z q => hτ x 0 z (by omega) (by omega)
  refine ⟨hb, hl, hN, ?_, ?_, fun s s1 s2 => ?_, ?_⟩
  · show τ 0 0 4 = (((a :: A.2.1).take 20).length : Int)
    rw [hlen, hτ _ _ _ (by omega) (by omega)]
  · show RPa τ (((a :: A.2.1).take 20).length : Int) (undoN c ((a :: A.2.1).take 20))
    rw [hlen]
    intro k d hd
    have hkl := lt_of_get hd
    rw [undoN_len, List.length_take, List.length_cons] at hkl
    rw [undoN_take, List.getElem?_take_of_lt (by omega)] at hd
    simp only [undoN, hu] at hd
    cases k with
    | zero =>
      simp at hd
      subst hd
      refine RN.cg hA.1 (fun j j1 j2 => ?_) (fun j j1 j2 => ?_) hN0
      · show τ 3 0 ((σ1 0 0 4 - 1 - ((0 : Nat) : Int)) * 365 + j) = _
        rw [e34 _ _ (by omega), show (σ1 0 0 4 - 1 - ((0 : Nat) : Int)) * 365 + j = (σ1 0 0 4 - 1) * 365 + j by omega]
        exact k5 j j1 j2
      · show τ 4 0 ((σ1 0 0 4 - 1 - ((0 : Nat) : Int)) * 12 + j) = _
        rw [e34 _ _ (by omega), show (σ1 0 0 4 - 1 - ((0 : Nat) : Int)) * 12 + j = (σ1 0 0 4 - 1) * 12 + j by omega]
        exact k6 j j1 j2
    | succ k =>
      have hd' : (undoN A.1 A.2.1)[k]? = some d := by simpa using hd
      have hg : Good d := by
        have : ∀ (l : List aAct) (c0 : aCur), Chain c0 l → ∀ (k : Nat) (d : aCur), (undoN c0 l)[k]? = some d → Good d := by
          intro l
          induction l with
          | nil => intro c0 _ k d h; simp [undoN] at h
          | cons a r ih =>
            intro c0 hc k d h
            cases k with
            | zero => simp [undoN] at h; rw [← h]; exact hc.2.1
            | succ k => exact ih _ hc.2.2 k d (by simpa [undoN] using h)
        exact this _ _ hA.2.2.1 k d hd'
      refine RN.cg hg (fun j j1 j2 => ?_) (fun j j1 j2 => ?_) (hP k d hd')
      · show τ 3 0 ((σ1 0 0 4 - 1 - ((k + 1 : Nat) : Int)) * 365 + j) = σ 3 0 (((A.2.1.length : Int) - 1 - k) * 365 + j)
        rw [e34 _ _ (by omega), k3 _ (by omega) (by omega), ← hk0]
        congr 1
        push_cast
        omega
      · show τ 4 0 ((σ1 0 0 4 - 1 - ((k + 1 : Nat) : Int)) * 12 + j) = σ 4 0 (((A.2.1.length : Int) - 1 - k) * 12 + j)
        rw [e34 _ _ (by omega), k4 _ (by omega) (by omega), ← hk0]
        congr 1
        push_cast
        omega
  · rw [hτ 5 _ _ (by omega) (by omega), hτ 6 _ _ (by omega) (by omega), k1 5 _ _ (by omega) (by omega) (by omega), k1 6 _ _ (by omega) (by omega) (by omega)]
    obtain ⟨x, y, z⟩ := hS s s1 s2
    exact ⟨x, y, fun j u v => by rw [hτ 7 _ _ (by omega) (by omega), k1 7 _ _ (by omega) (by omega) (by omega)]; exact z j u v⟩
  · show τ 0 0 5 = A.2.2.1
    rw [hτ _ _ _ (by omega) (by omega), k1 _ _ _ (by omega) (by omega) (by omega), hf]
