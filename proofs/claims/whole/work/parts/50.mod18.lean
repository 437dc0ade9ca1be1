set_option maxRecDepth 20000 in
theorem lp_X11_flL {G : qSt → Nat → List (Option qV) → List qV → Prop} {Ret : Option qV → qSt → Prop} (e : qR) (l : Launch) (σ : qSt) (q : Int) (A : aSt) (hR : RelM σ A) (hA : AOk A) (hq : 0 ≤ q ∧ q < nLp A) (C : Cx (EM e) l RX11 cX11_findLoops 4 none 4 Ret G) (hN : ∀ σ2 y o3, flL σ A q (cL A.1).length σ2 → G σ2 137 [some (qr 0 0), some (qi q), some (qi y), o3] []) : ∀ (k : Nat) (m : Nat) (σ1 : qSt) (o3 : Option qV), (m : Int) + (k : Int) = nLn A → flL σ A q m σ1 → G σ1 50 [some (qr 0 0), some (qi q), some (qi (m : Int)), o3] [] := by
  intro k
  induction k with
  | zero =>
    intro m σ1 o3 hm hI
    have hR1 : RelM σ1 A := rel_mscr hR (fun a b c q1 q2 => hI.1.1 a b c (by omega)) hI.1.2.1
    obtain ⟨hb, e0, n0, m0, e1w, n1, m1, e2t, n2, m2, e3l, n3, m3, hk0, hk20⟩ := mF hR1 hA
    have lq := lp_m hR1 hA (q := q) (by omega)
    have ar : 0 ≤ aol ((cO A.1).getD q.toNat 0) (whA A) m ∧ aol ((cO A.1).getD q.toNat 0) (whA A) m < 256 := aol_r2 m (fun l u => (wh_m hR1 hA (l := (l : Int)) (by omega)).2.2)
    have dr := doa_r (acts := aol ((cO A.1).getD q.toNat 0) (whA A) m) (fr := cF A.1) 8 (fun w u => by have := hA.1.2.2.2.2.2.1 w (by omega) (by omega); omega)
    have i11 := hI.2.2.1
    have i12 := hI.2.2.2
    refine r_iload_n C dX11_findLoops_50 rfl ?_
    refine r_aload_n C dX11_findLoops_51 rfl ?_
    refine r_get_r (c := 1) C dX11_findLoops_52 fl_X11_9 rfl rfl rfl (by decide) rfl ?_
    refine r_iconst C dX11_findLoops_55 ?_
    refine r_iald (c := 1) (N := 365) C dX11_findLoops_56 rfl rfl (by decide) (by omega) ?_
    refine r_ic_ge 137 C dX11_findLoops_57 (by decide) (by omega) (by omega) (fun h57 => ?_) (fun h57 => ?_)
    · rw [show m = (cL A.1).length by have u : nLn A = ((cL A.1).length : Int) := rfl; omega] at hI
      exact hN _ _ _ hI
    · exfalso; omega
  | succ k ih =>
    intro m σ1 o3 hm hI
    have hR1 : RelM σ1 A := rel_mscr hR (fun a b c q1 q2 => hI.1.1 a b c (by omega)) hI.1.2.1
    obtain ⟨hb, e0, n0, m0, e1w, n1, m1, e2t, n2, m2, e3l, n3, m3, hk0, hk20⟩ := mF hR1 hA
    have lq := lp_m hR1 hA (q := q) (by omega)
    have ar : 0 ≤ aol ((cO A.1).getD q.toNat 0) (whA A) m ∧ aol ((cO A.1).getD q.toNat 0) (whA A) m < 256 := aol_r2 m (fun l u => (wh_m hR1 hA (l := (l : Int)) (by omega)).2.2)
    have dr := doa_r (acts := aol ((cO A.1).getD q.toNat 0) (whA A) m) (fr := cF A.1) 8 (fun w u => by have := hA.1.2.2.2.2.2.1 w (by omega) (by omega); omega)
    have i11 := hI.2.2.1
    have i12 := hI.2.2.2
    refine r_iload_n C dX11_findLoops_50 rfl ?_
    refine r_aload_n C dX11_findLoops_51 rfl ?_
    refine r_get_r (c := 1) C dX11_findLoops_52 fl_X11_9 rfl rfl rfl (by decide) rfl ?_
    refine r_iconst C dX11_findLoops_55 ?_
    refine r_iald (c := 1) (N := 365) C dX11_findLoops_56 rfl rfl (by decide) (by omega) ?_
    refine r_ic_ge 137 C dX11_findLoops_57 (by decide) (by omega) (by omega) (fun h57 => ?_) (fun h57 => ?_)
    · exfalso; omega
    · have lm := ln_m hR1 hA (x := (m : Int)) (by omega)
      have wh := wh_m hR1 hA (l := (m : Int)) (by omega)
      refine r_aload_n C dX11_findLoops_60 rfl ?_
      refine r_get_r (c := 1) C dX11_findLoops_61 fl_X11_9 rfl rfl rfl (by decide) rfl ?_
      refine r_sipush C dX11_findLoops_64 ?_
      refine r_aload_n C dX11_findLoops_67 rfl ?_
      refine r_get_r (c := 1) C dX11_findLoops_68 fl_X11_9 rfl rfl rfl (by decide) rfl ?_
      refine r_iconst C dX11_findLoops_71 ?_
      refine r_iload_n C dX11_findLoops_72 rfl ?_
      refine r_iadd C dX11_findLoops_73 ?_
      refine r_iald (c := 1) (N := 365) C dX11_findLoops_74 rfl rfl (by decide) (by omega) ?_
      refine r_v (b := (lnAt A m).1) lm.1 ?_
      refine r_iadd C dX11_findLoops_75 ?_
      refine r_iald (c := 1) (N := 365) C dX11_findLoops_76 rfl rfl (by decide) (by omega) ?_
      refine r_v (b := whA A m) wh.1 ?_
      refine r_istore_n C dX11_findLoops_77 rfl rfl (by decide) ?_
      refine r_aload_n C dX11_findLoops_78 rfl ?_
      refine r_get_r (c := 1) C dX11_findLoops_79 fl_X11_9 rfl rfl rfl (by decide) rfl ?_
      refine r_sipush C dX11_findLoops_82 ?_
      refine r_iload_n C dX11_findLoops_85 rfl ?_
      refine r_iadd C dX11_findLoops_86 ?_
      refine r_iald (c := 1) (N := 365) C dX11_findLoops_87 rfl rfl (by decide) (by omega) ?_
      refine r_v (b := ((cO A.1).getD q.toNat 0)) lq.1 ?_
      refine r_iload_n C dX11_findLoops_88 rfl ?_
      refine r_ishr (((cO A.1).getD q.toNat 0) / 2 ^ m) C dX11_findLoops_89 (by have u := z_shr (a := ((cO A.1).getD q.toNat 0)) (b := (m : Int)) (by omega) (by omega); rw [Int.toNat_natCast] at u; exact u) ?_
      refine r_iconst C dX11_findLoops_90 ?_
      refine r_iand (((cO A.1).getD q.toNat 0) / 2 ^ m % 2) C dX11_findLoops_91 z_bit ?_
      refine r_iconst C dX11_findLoops_92 ?_
      refine r_ic_ne 131 C dX11_findLoops_93 (by decide) (by omega) (by omega) (fun h93 => ?_) (fun h93 => ?_)
      · refine r_iinc C dX11_findLoops_131 rfl rfl rfl (by decide) ?_
        refine r_goto 50 C dX11_findLoops_134 (by decide) ?_
        have ea : aol ((cO A.1).getD q.toNat 0) (whA A) (m + 1) = aol ((cO A.1).getD q.toNat 0) (whA A) m := by simp only [aol]; rw [if_neg (by omega)]
        exact ih (m + 1) _ _ (by push_cast; omega) (fl_keep hI ea)
      · refine r_iload_n C dX11_findLoops_96 rfl ?_
        refine r_if_lt 131 C dX11_findLoops_97 (by decide) (by omega) (fun h97 => ?_) (fun h97 => ?_)
        · refine r_iinc C dX11_findLoops_131 rfl rfl rfl (by decide) ?_
          refine r_goto 50 C dX11_findLoops_134 (by decide) ?_
          have ea : aol ((cO A.1).getD q.toNat 0) (whA A) (m + 1) = aol ((cO A.1).getD q.toNat 0) (whA A) m := by simp only [aol]; rw [if_neg (by omega)]
          exact ih (m + 1) _ _ (by push_cast; omega) (fl_keep hI ea)
        · have ef := hR1.2.2.1.2.2.2.2.2.1 (whA A m) (by omega) (by omega)
          have gf := hA.1.2.2.2.2.2.1 (whA A m) (by omega) (by omega)
          refine r_aload_n C dX11_findLoops_100 rfl ?_
          refine r_get_r (c := 1) C dX11_findLoops_101 fl_X11_41 rfl rfl rfl (by decide) rfl ?_
          refine r_iload_n C dX11_findLoops_104 rfl ?_
          refine r_dup2 C dX11_findLoops_105 ?_
          refine r_iald (c := 1) (N := 7) C dX11_findLoops_106 rfl rfl (by decide) (by omega) ?_
          refine r_iconst C dX11_findLoops_107 ?_
          refine r_iload_n C dX11_findLoops_108 rfl ?_
          refine r_ishl _ C dX11_findLoops_109 (z_shl1 (by omega)) ?_
          refine r_ior _ C dX11_findLoops_110 (bor_v (by omega) (by have := p2_r (b := whA A m) (by omega); omega)) ?_
          refine r_iast (c := 1) (N := 7) C dX11_findLoops_111 rfl rfl (by decide) (by omega) ?_
          refine r_aload_n C dX11_findLoops_112 rfl ?_
          refine r_get_r (c := 1) C dX11_findLoops_113 fl_X11_44 rfl rfl rfl (by decide) rfl ?_
          refine r_iload_n C dX11_findLoops_116 rfl ?_
          refine r_dup2 C dX11_findLoops_117 ?_
          refine r_iald (c := 1) (N := 7) C dX11_findLoops_118 rfl rfl (by decide) (by omega) ?_
          refine r_v (b := (σ1 12 0 q)) (by simp [qUp, qCpy]) ?_
          refine r_aload_n C dX11_findLoops_119 rfl ?_
          refine r_get_r (c := 1) C dX11_findLoops_120 fl_X11_9 rfl rfl rfl (by decide) rfl ?_
          refine r_sipush C dX11_findLoops_123 ?_
          refine r_iload_n C dX11_findLoops_126 rfl ?_
          refine r_iadd C dX11_findLoops_127 ?_
          refine r_iald (c := 1) (N := 365) C dX11_findLoops_128 rfl rfl (by decide) (by omega) ?_
          refine r_v (b := (σ1 1 0 (346 + (whA A m)))) (by simp [qUp, qCpy]) ?_
          refine r_v (b := cF A.1 (whA A m)) ef ?_
          refine r_iand _ C dX11_findLoops_129 (band_v (by omega) (by omega)) ?_
          refine r_iast (c := 1) (N := 7) C dX11_findLoops_130 rfl rfl (by decide) (by omega) ?_
          refine r_iinc C dX11_findLoops_131 rfl rfl rfl (by decide) ?_
          refine r_goto 50 C dX11_findLoops_134 (by decide) ?_
          have ea : aol ((cO A.1).getD q.toNat 0) (whA A) (m + 1) = bor (aol ((cO A.1).getD q.toNat 0) (whA A) m) (2 ^ (whA A m).toNat) := by simp only [aol]; rw [if_pos (by omega)]
          exact ih (m + 1) _ _ (by push_cast; omega) (fl_set (by omega) hI (by omega) rfl ar.1 ea (bor_r (by omega) (by have := p2_r (b := whA A m) (by omega); omega)).2 (band_r (by omega) (by omega)))
theorem fl_0 {σ σ1 : qSt} {A : aSt} {q : Int} (hq : 0 ≤ q) (h : flI σ A q σ1) : flL σ A q 0 (qUp (qUp (qUp σ1 11 0 q 0) 12 0 q 15) 13 0 q (5 * pop12 ((cO A.1).getD q.toNat 0))) := by
  obtain ⟨a1, a2, a3⟩ := h
  have hp : -2000000 ≤ 5 * pop12 ((cO A.1).getD q.toNat 0) ∧ 5 * pop12 ((cO A.1).getD q.toNat 0) ≤ 2000000 := by unfold pop12; omega
  refine ⟨⟨fun x y z u => by rw [qUp_ne (by omega), qUp_ne (by omega), qUp_ne (by omega)]; exact a1 x y z u, ((a2.up (by omega)).up (by omega)).up hp, fun j j1 j2 => ?_⟩, ?_, ?_, ?_⟩
  · rw [qUp_ne (by omega), qUp_ne (by omega), qUp_ne (by omega), qUp_ne (by omega), qUp_ne (by omega), qUp_ne (by omega), qUp_ne (by omega), qUp_ne (by omega), qUp_ne (by omega)]
    exact a3 j j1 j2
  · rw [qUp_eq]; rfl
  · rw [qUp_ne (by omega), qUp_ne (by omega), qUp_eq]; rfl
  · rw [qUp_ne (by omega), qUp_eq]
    exact (doa_0 (cF A.1) 8).symm
set_option maxRecDepth 20000 in
theorem lp_X11_flO {G : qSt → Nat → List (Option qV) → List qV → Prop} {Ret : Option qV → qSt → Prop} (e : qR) (l : Launch) (σ : qSt) (A : aSt) (hR : RelM σ A) (hA : AOk A) (C : Cx (EM e) l RX11 cX11_findLoops 4 none 4 Ret G) (hN : ∀ σ2, flI σ A (nLp A) σ2 → Ret none σ2) : ∀ (k : Nat) (q : Int) (σ1 : qSt) (o2 o3 : Option qV), q + (k : Int) = nLp A → 0 ≤ q → flI σ A q σ1 → G σ1 2 [some (qr 0 0), some (qi q), o2, o3] [] := by
  intro k
  induction k with
  | zero =>
    intro q σ1 o2 o3 hm hq0 hI
    have hR1 : RelM σ1 A := rel_mscr hR (fun a b c q1 q2 => hI.1 a b c (by omega)) hI.2.1
    obtain ⟨hb, e0, n0, m0, e1w, n1, m1, e2t, n2, m2, e3l, n3, m3, hk0, hk20⟩ := mF hR1 hA
    refine r_iload_n C dX11_findLoops_2 rfl ?_
    refine r_aload_n C dX11_findLoops_3 rfl ?_
    refine r_get_r (c := 1) C dX11_findLoops_4 fl_X11_9 rfl rfl rfl (by decide) rfl ?_
    refine r_iconst C dX11_findLoops_7 ?_
    refine r_iald (c := 1) (N := 365) C dX11_findLoops_8 rfl rfl (by decide) (by omega) ?_
    refine r_ic_ge 143 C dX11_findLoops_9 (by decide) (by omega) (by omega) (fun h9 => ?_) (fun h9 => ?_)
    · refine r_vret C dX11_findLoops_143 ?_
      rw [show q = nLp A by omega] at hI
      exact hN _ hI
    · exfalso; omega
  | succ k ih =>
    intro q σ1 o2 o3 hm hq0 hI
    have hR1 : RelM σ1 A := rel_mscr hR (fun a b c q1 q2 => hI.1 a b c (by omega)) hI.2.1
    obtain ⟨hb, e0, n0, m0, e1w, n1, m1, e2t, n2, m2, e3l, n3, m3, hk0, hk20⟩ := mF hR1 hA
    refine r_iload_n C dX11_findLoops_2 rfl ?_
    refine r_aload_n C dX11_findLoops_3 rfl ?_
    refine r_get_r (c := 1) C dX11_findLoops_4 fl_X11_9 rfl rfl rfl (by decide) rfl ?_
    refine r_iconst C dX11_findLoops_7 ?_
    refine r_iald (c := 1) (N := 365) C dX11_findLoops_8 rfl rfl (by decide) (by omega) ?_
    refine r_ic_ge 143 C dX11_findLoops_9 (by decide) (by omega) (by omega) (fun h9 => ?_) (fun h9 => ?_)
    · exfalso; omega
    · have lq := lp_m hR1 hA (q := q) (by omega)
      refine r_aload_n C dX11_findLoops_12 rfl ?_
      refine r_get_r (c := 1) C dX11_findLoops_13 fl_X11_41 rfl rfl rfl (by decide) rfl ?_
      refine r_iload_n C dX11_findLoops_16 rfl ?_
      refine r_iconst C dX11_findLoops_17 ?_
      refine r_iast (c := 1) (N := 7) C dX11_findLoops_18 rfl rfl (by decide) (by omega) ?_
      refine r_aload_n C dX11_findLoops_19 rfl ?_
      refine r_get_r (c := 1) C dX11_findLoops_20 fl_X11_44 rfl rfl rfl (by decide) rfl ?_
      refine r_iload_n C dX11_findLoops_23 rfl ?_
      refine r_bipush C dX11_findLoops_24 ?_
      refine r_iast (c := 1) (N := 7) C dX11_findLoops_26 rfl rfl (by decide) (by omega) ?_
      refine r_aload_n C dX11_findLoops_27 rfl ?_
      refine r_get_r (c := 1) C dX11_findLoops_28 fl_X11_47 rfl rfl rfl (by decide) rfl ?_
      refine r_iload_n C dX11_findLoops_31 rfl ?_
      refine r_iconst C dX11_findLoops_32 ?_
      refine r_aload_n C dX11_findLoops_33 rfl ?_
      refine r_get_r (c := 1) C dX11_findLoops_34 fl_X11_9 rfl rfl rfl (by decide) rfl ?_
      refine r_sipush C dX11_findLoops_37 ?_
      refine r_iload_n C dX11_findLoops_40 rfl ?_
      refine r_iadd C dX11_findLoops_41 ?_
      refine r_iald (c := 1) (N := 365) C dX11_findLoops_42 rfl rfl (by decide) (by omega) ?_
      refine r_v (b := (σ1 1 0 (358 + q))) (by simp [qUp, qCpy]) ?_
      refine r_v (b := ((cO A.1).getD q.toNat 0)) lq.1 ?_
      refine r_csi C dX11_findLoops_43 ms_X11_156 (c_X11_many e l _ _ (by omega)) (by decide) rfl rfl (Nat.le_of_ble_eq_true rfl) (fun z43 σ43 h43 => ?_)
      obtain ⟨rfl, rfl⟩ := h43
      refine r_imul C dX11_findLoops_46 ?_
      refine r_iast (c := 1) (N := 7) C dX11_findLoops_47 rfl rfl (by decide) (by omega) ?_
      refine r_iconst C dX11_findLoops_48 ?_
      refine r_istore_n C dX11_findLoops_49 rfl rfl (by decide) ?_
      refine lp_X11_flL e l σ q A hR hA (by omega) C (fun σ2 y o3 hI2 => ?_) (cL A.1).length 0 _ _ (by show (0 : Int) + ((cL A.1).length : Int) = ((cL A.1).length : Int); omega) (fl_0 (by omega) hI)
      refine r_iinc C dX11_findLoops_137 rfl rfl rfl (by decide) ?_
      refine r_goto 2 C dX11_findLoops_140 (by decide) ?_
      exact ih _ _ _ _ (by omega) (by omega) (fl_end (by omega) hI2)
set_option maxRecDepth 20000 in
theorem c_X11_findLoops (e : qR) (l : Launch) (σ : qSt) (A : aSt) (hR : RelM σ A) (hA : AOk A) : CM (EM e) l yX11_findLoops cX11_findLoops 4 none 4 [qr 0 0] σ (Rv fun σ' => flI σ A (nLp A) σ') := by
  refine CM.mk tM_ok (by decide +kernel) (Nat.le_of_ble_eq_true rfl) (fun G C => ?_)
  show G σ 0 [some (qr 0 0), none, none, none] []
  have n3 : 0 ≤ nLp A := Int.natCast_nonneg _
  refine r_iconst C dX11_findLoops_0 ?_
  refine r_istore_n C dX11_findLoops_1 rfl rfl (by decide) ?_
  exact lp_X11_flO e l σ A hR hA C (fun σ2 h2 => ⟨rfl, h2⟩) (nLp A).toNat 0 _ _ _ (by omega) (by omega) ⟨fun _ _ _ _ => rfl, hR.1, fun j j1 j2 => by omega⟩
