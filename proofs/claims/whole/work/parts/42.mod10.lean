/-! the reference's fit: its loops -/
theorem fI_rel {σ σ1 : qSt} {A : aSt} {w i f : Int} (hR : RelM σ A) (h : fI σ A w i f σ1) : RelM σ1 A := rel_mscr hR (fun a b c q1 q2 => h.1 a b c (by omega)) h.2.1
theorem dpv_low {A : aSt} {w s p v : Int} {T : Int → Int → Int} (hs : s < mA A w) (hp : p < nA A w) (hv : min v 1000000 = min (pfA A w p + T s (p + 1)) (mnL (cst A w T s p) (loA A w s) (min (hiA A w s) (nA A w - p)).toNat)) : min v 1000000 = dpv A w T s p := by
  unfold dpv
  rw [if_neg (by omega), if_neg (by omega), hv, Int.add_comm]
theorem dpv_end {A : aSt} {w s v x : Int} {T : Int → Int → Int} (hs : s < mA A w) (hx : 1 ≤ x) (hv : min v 1000000 = min 1000000 (mnL (cst A w T s (nA A w)) (loA A w s) (min x (nA A w - nA A w)).toNat)) : min v 1000000 = dpv A w T s (nA A w) := by
  unfold dpv
  rw [if_neg (by omega), if_pos rfl, hv, show (min x (nA A w - nA A w)).toNat = 0 by omega]
  rfl
set_option maxRecDepth 20000 in
theorem lp_X11_fitF {G : qSt → Nat → List (Option qV) → List qV → Prop} {Ret : Option qV → qSt → Prop} (e : qR) (l : Launch) (σ : qSt) (w i : Int) (A : aSt) (hR : RelM σ A) (hA : AOk A) (hw : 0 ≤ w ∧ w < nWd A) (hi : 0 ≤ i ∧ i ≤ mA A w) (C : Cx (EM e) l RX11 cX11_fit 8 (some .int) 8 Ret G) (hN : ∀ σ2 f o6 o7, fI σ A w i (-1) σ2 → G σ2 172 [some (qr 0 0), some (qi w), some (qi (nA A w)), some (qi (mA A w)), some (qi i), some (qi f), o6, o7] []) : ∀ (k : Nat) (f : Int) (σ1 : qSt) (o6 o7 : Option qV), f + 1 = (k : Int) → f ≤ nA A w → fI σ A w i f σ1 → G σ1 39 [some (qr 0 0), some (qi w), some (qi (nA A w)), some (qi (mA A w)), some (qi i), some (qi f), o6, o7] [] := by
  intro k
  induction k with
  | zero =>
    intro f σ1 o6 o7 hm hf hI
    have hR1 := fI_rel hR hI
    have wl := wl_m hR1 hA hw
    have hb1 := hI.2.1
    have nn : 0 ≤ nA A w ∧ nA A w ≤ 24 := by omega
    have mm : 0 ≤ mA A w ∧ mA A w ≤ 8 := by omega
    refine r_iload C dX11_fit_39 rfl ?_
    refine r_if_lt 172 C dX11_fit_41 (by decide) (by omega) (fun h41 => ?_) (fun h41 => ?_)
    · rw [show f = -1 by omega] at hI
      exact hN _ _ _ _ hI
    · exfalso; omega
  | succ k ih =>
    intro f σ1 o6 o7 hm hf hI
    have hR1 := fI_rel hR hI
    have wl := wl_m hR1 hA hw
    have hb1 := hI.2.1
    have nn : 0 ≤ nA A w ∧ nA A w ≤ 24 := by omega
    have mm : 0 ≤ mA A w ∧ mA A w ≤ 8 := by omega
    refine r_iload C dX11_fit_39 rfl ?_
    refine r_if_lt 172 C dX11_fit_41 (by decide) (by omega) (fun h41 => ?_) (fun h41 => ?_)
    · exfalso; omega
    · refine r_iload C dX11_fit_44 rfl ?_
      refine r_iload_n C dX11_fit_46 rfl ?_
      refine r_ic_ge 71 C dX11_fit_47 (by decide) (by omega) (by omega) (fun h47 => ?_) (fun h47 => ?_)
      · refine r_iload C dX11_fit_71 rfl ?_
        refine r_iload_n C dX11_fit_73 rfl ?_
        refine r_ic_ne 81 C dX11_fit_74 (by decide) (by omega) (by omega) (fun h74 => ?_) (fun h74 => ?_)
        · refine r_ldc C dX11_fit_81 kc_X11_103 ?_
          refine r_istore C dX11_fit_83 rfl rfl (by decide) ?_
          refine r_iload C dX11_fit_85 rfl ?_
          refine r_iload_n C dX11_fit_87 rfl ?_
          refine r_ic_ge 101 C dX11_fit_88 (by decide) (by omega) (by omega) (fun h88 => ?_) (fun h88 => ?_)
          · refine r_iconst C dX11_fit_101 ?_
            refine r_istore C dX11_fit_102 rfl rfl (by decide) ?_
            refine r_iload C dX11_fit_104 rfl ?_
            refine r_iload_n C dX11_fit_106 rfl ?_
            refine r_ic_ge 146 C dX11_fit_107 (by decide) (by omega) (by omega) (fun h107 => ?_) (fun h107 => ?_)
            · refine r_aload_n C dX11_fit_146 rfl ?_
              refine r_get_r (c := 1) C dX11_fit_147 fl_X11_32 rfl rfl rfl (by decide) rfl ?_
              refine r_bipush C dX11_fit_150 ?_
              refine r_iload C dX11_fit_152 rfl ?_
              refine r_imul C dX11_fit_154 ?_
              refine r_iload C dX11_fit_155 rfl ?_
              refine r_iadd C dX11_fit_157 ?_
              refine r_iload C dX11_fit_158 rfl ?_
              refine r_ldc C dX11_fit_160 kc_X11_103 ?_
              refine r_csi C dX11_fit_162 ms_X11_111 (c_min (EM e) tM_ok l _ _ _ (by omega) (by omega)) (by decide) rfl rfl (Nat.le_of_ble_eq_true rfl) (fun z162 σ162 h162 => ?_)
              obtain ⟨rfl, rfl⟩ := h162
              refine r_iast (c := 1) (N := 225) C dX11_fit_165 rfl rfl (by decide) (by omega) ?_
              refine r_iinc C dX11_fit_166 rfl rfl rfl (by decide) ?_
              refine r_goto 39 C dX11_fit_169 (by decide) ?_
              exact ih _ _ _ _ (by omega) (by omega) (fI_step (by omega) (by omega) (by omega) (by omega) hI (by first | exact hdp | (exfalso; omega) | (unfold dpv; rw [if_pos (by omega), if_neg (by omega)]; show min (pfA A w f + tM8 σ1 i (f + 1)) 1000000 = _; omega) | (unfold dpv; rw [if_pos (by omega), if_pos (by omega)]; rfl)))
            · exfalso; omega
          · refine r_aload_n C dX11_fit_91 rfl ?_
            refine r_iload_n C dX11_fit_92 rfl ?_
            refine r_iload C dX11_fit_93 rfl ?_
            refine r_cvi (c := 1) C dX11_fit_95 mv_X11_100 (c_X11_leastOf e l _ _ _ A hR1 hA hw (by omega)) (by decide) rfl rfl rfl rfl (by decide) rfl rfl (Nat.le_of_ble_eq_true rfl) (fun z95 σ95 h95 => ?_)
            obtain ⟨rfl, rfl⟩ := h95
            refine r_goto 102 C dX11_fit_98 (by decide) ?_
            refine r_istore C dX11_fit_102 rfl rfl (by decide) ?_
            have hii : 0 ≤ i ∧ i < mA A w := by omega
            have hr := hi_r hR1 hA hw hii
            have rT : ∀ p, 0 ≤ p → p ≤ nA A w → 0 ≤ σ1 8 0 (25 * (i + 1) + p) := fun p p1 p2 => (hI.2.2 (i + 1) p p1 p2 (by omega)).2.1
            refine lp_X11_fitL e l σ1 w i f 1000000 A hR1 hA hw hii (by omega) rT C (fun v x hv hvr => ?_) (hiA A w i + 1 - loA A w i).toNat _ _ (by omega) (by omega) (by rw [mnL_none _ (by omega)] <;> (try (show min _ _ = min _ _; omega))) (by omega)
            have hfn : f = nA A w := by omega
            have hdp : min v 1000000 = dpv A w (tM8 σ1) i f := by rw [hfn] at hv ⊢; exact dpv_end (by omega) (x := hiA A w i) (by omega) hv
            refine r_aload_n C dX11_fit_146 rfl ?_
            refine r_get_r (c := 1) C dX11_fit_147 fl_X11_32 rfl rfl rfl (by decide) rfl ?_
            refine r_bipush C dX11_fit_150 ?_
            refine r_iload C dX11_fit_152 rfl ?_
            refine r_imul C dX11_fit_154 ?_
            refine r_iload C dX11_fit_155 rfl ?_
            refine r_iadd C dX11_fit_157 ?_
            refine r_iload C dX11_fit_158 rfl ?_
            refine r_ldc C dX11_fit_160 kc_X11_103 ?_
            refine r_csi C dX11_fit_162 ms_X11_111 (c_min (EM e) tM_ok l _ _ _ (by omega) (by omega)) (by decide) rfl rfl (Nat.le_of_ble_eq_true rfl) (fun z162 σ162 h162 => ?_)
            obtain ⟨rfl, rfl⟩ := h162
            refine r_iast (c := 1) (N := 225) C dX11_fit_165 rfl rfl (by decide) (by omega) ?_
            refine r_iinc C dX11_fit_166 rfl rfl rfl (by decide) ?_
            refine r_goto 39 C dX11_fit_169 (by decide) ?_
            exact ih _ _ _ _ (by omega) (by omega) (fI_step (by omega) (by omega) (by omega) (by omega) hI (by first | exact hdp | (exfalso; omega) | (unfold dpv; rw [if_pos (by omega), if_neg (by omega)]; show min (pfA A w f + tM8 σ1 i (f + 1)) 1000000 = _; omega) | (unfold dpv; rw [if_pos (by omega), if_pos (by omega)]; rfl)))
        · refine r_iconst C dX11_fit_77 ?_
          refine r_goto 83 C dX11_fit_78 (by decide) ?_
          refine r_istore C dX11_fit_83 rfl rfl (by decide) ?_
          refine r_iload C dX11_fit_85 rfl ?_
          refine r_iload_n C dX11_fit_87 rfl ?_
          refine r_ic_ge 101 C dX11_fit_88 (by decide) (by omega) (by omega) (fun h88 => ?_) (fun h88 => ?_)
          · refine r_iconst C dX11_fit_101 ?_
            refine r_istore C dX11_fit_102 rfl rfl (by decide) ?_
            refine r_iload C dX11_fit_104 rfl ?_
            refine r_iload_n C dX11_fit_106 rfl ?_
            refine r_ic_ge 146 C dX11_fit_107 (by decide) (by omega) (by omega) (fun h107 => ?_) (fun h107 => ?_)
            · refine r_aload_n C dX11_fit_146 rfl ?_
              refine r_get_r (c := 1) C dX11_fit_147 fl_X11_32 rfl rfl rfl (by decide) rfl ?_
              refine r_bipush C dX11_fit_150 ?_
              refine r_iload C dX11_fit_152 rfl ?_
              refine r_imul C dX11_fit_154 ?_
              refine r_iload C dX11_fit_155 rfl ?_
              refine r_iadd C dX11_fit_157 ?_
              refine r_iload C dX11_fit_158 rfl ?_
              refine r_ldc C dX11_fit_160 kc_X11_103 ?_
              refine r_csi C dX11_fit_162 ms_X11_111 (c_min (EM e) tM_ok l _ _ _ (by omega) (by omega)) (by decide) rfl rfl (Nat.le_of_ble_eq_true rfl) (fun z162 σ162 h162 => ?_)
              obtain ⟨rfl, rfl⟩ := h162
              refine r_iast (c := 1) (N := 225) C dX11_fit_165 rfl rfl (by decide) (by omega) ?_
              refine r_iinc C dX11_fit_166 rfl rfl rfl (by decide) ?_
              refine r_goto 39 C dX11_fit_169 (by decide) ?_
              exact ih _ _ _ _ (by omega) (by omega) (fI_step (by omega) (by omega) (by omega) (by omega) hI (by first | exact hdp | (exfalso; omega) | (unfold dpv; rw [if_pos (by omega), if_neg (by omega)]; show min (pfA A w f + tM8 σ1 i (f + 1)) 1000000 = _; omega) | (unfold dpv; rw [if_pos (by omega), if_pos (by omega)]; rfl)))
            · exfalso; omega
          · refine r_aload_n C dX11_fit_91 rfl ?_
            refine r_iload_n C dX11_fit_92 rfl ?_
            refine r_iload C dX11_fit_93 rfl ?_
            refine r_cvi (c := 1) C dX11_fit_95 mv_X11_100 (c_X11_leastOf e l _ _ _ A hR1 hA hw (by omega)) (by decide) rfl rfl rfl rfl (by decide) rfl rfl (Nat.le_of_ble_eq_true rfl) (fun z95 σ95 h95 => ?_)
            obtain ⟨rfl, rfl⟩ := h95
            refine r_goto 102 C dX11_fit_98 (by decide) ?_
            refine r_istore C dX11_fit_102 rfl rfl (by decide) ?_
            have hii : 0 ≤ i ∧ i < mA A w := by omega
            have hr := hi_r hR1 hA hw hii
            have rT : ∀ p, 0 ≤ p → p ≤ nA A w → 0 ≤ σ1 8 0 (25 * (i + 1) + p) := fun p p1 p2 => (hI.2.2 (i + 1) p p1 p2 (by omega)).2.1
            refine lp_X11_fitL e l σ1 w i f 1000000 A hR1 hA hw hii (by omega) rT C (fun v x hv hvr => ?_) (hiA A w i + 1 - loA A w i).toNat _ _ (by omega) (by omega) (by rw [mnL_none _ (by omega)] <;> (try (show min _ _ = min _ _; omega))) (by omega)
            have hfn : f = nA A w := by omega
            have hdp : min v 1000000 = dpv A w (tM8 σ1) i f := by rw [hfn] at hv ⊢; exact dpv_end (by omega) (x := hiA A w i) (by omega) hv
            refine r_aload_n C dX11_fit_146 rfl ?_
            refine r_get_r (c := 1) C dX11_fit_147 fl_X11_32 rfl rfl rfl (by decide) rfl ?_
            refine r_bipush C dX11_fit_150 ?_
            refine r_iload C dX11_fit_152 rfl ?_
            refine r_imul C dX11_fit_154 ?_
            refine r_iload C dX11_fit_155 rfl ?_
            refine r_iadd C dX11_fit_157 ?_
            refine r_iload C dX11_fit_158 rfl ?_
            refine r_ldc C dX11_fit_160 kc_X11_103 ?_
            refine r_csi C dX11_fit_162 ms_X11_111 (c_min (EM e) tM_ok l _ _ _ (by omega) (by omega)) (by decide) rfl rfl (Nat.le_of_ble_eq_true rfl) (fun z162 σ162 h162 => ?_)
            obtain ⟨rfl, rfl⟩ := h162
            refine r_iast (c := 1) (N := 225) C dX11_fit_165 rfl rfl (by decide) (by omega) ?_
            refine r_iinc C dX11_fit_166 rfl rfl rfl (by decide) ?_
            refine r_goto 39 C dX11_fit_169 (by decide) ?_
            exact ih _ _ _ _ (by omega) (by omega) (fI_step (by omega) (by omega) (by omega) (by omega) hI (by first | exact hdp | (exfalso; omega) | (unfold dpv; rw [if_pos (by omega), if_neg (by omega)]; show min (pfA A w f + tM8 σ1 i (f + 1)) 1000000 = _; omega) | (unfold dpv; rw [if_pos (by omega), if_pos (by omega)]; rfl)))
      · refine r_aload_n C dX11_fit_50 rfl ?_
        refine r_iload_n C dX11_fit_51 rfl ?_
        refine r_iload C dX11_fit_52 rfl ?_
        refine r_cvi (c := 1) C dX11_fit_54 mv_X11_116 (c_X11_pauseOf e l _ _ _ A hR1 hA hw (by omega)) (by decide) rfl rfl rfl rfl (by decide) rfl rfl (Nat.le_of_ble_eq_true rfl) (fun z54 σ54 h54 => ?_)
        obtain ⟨rfl, rfl⟩ := h54
        have pr := pz_rng (frAt (wLn A w) f)
        have pe : pfA A w f = pz (frAt (wLn A w) f) := rfl
        refine r_aload_n C dX11_fit_57 rfl ?_
        refine r_iload C dX11_fit_58 rfl ?_
        refine r_iload C dX11_fit_60 rfl ?_
        refine r_iconst C dX11_fit_62 ?_
        refine r_iadd C dX11_fit_63 ?_
        refine r_cvi (c := 1) C dX11_fit_64 mv_X11_104 (c_X11_leastAt e l _ _ _ (by omega) (by omega)) (by decide) rfl rfl rfl rfl (by decide) rfl rfl (Nat.le_of_ble_eq_true rfl) (fun z64 σ64 h64 => ?_)
        obtain ⟨rfl, rfl⟩ := h64
        have rn := hI.2.2 i (f + 1) (by omega) (by omega) (by omega)
        have rn1 : 0 ≤ σ1 8 0 (25 * i + (f + 1)) := rn.2.1
        have rn2 : σ1 8 0 (25 * i + (f + 1)) ≤ 1000000 := rn.2.2.1
        have rn3 : i = mA A w → σ1 8 0 (25 * i + (f + 1)) ≤ 2 * (nA A w - (f + 1)) := rn.2.2.2
        have rn4 : tM8 σ1 i (f + 1) = σ1 8 0 (25 * i + (f + 1)) := rfl
        refine r_iadd C dX11_fit_67 ?_
        refine r_goto 83 C dX11_fit_68 (by decide) ?_
        refine r_istore C dX11_fit_83 rfl rfl (by decide) ?_
        refine r_iload C dX11_fit_85 rfl ?_
        refine r_iload_n C dX11_fit_87 rfl ?_
        refine r_ic_ge 101 C dX11_fit_88 (by decide) (by omega) (by omega) (fun h88 => ?_) (fun h88 => ?_)
        · refine r_iconst C dX11_fit_101 ?_
          refine r_istore C dX11_fit_102 rfl rfl (by decide) ?_
          refine r_iload C dX11_fit_104 rfl ?_
          refine r_iload_n C dX11_fit_106 rfl ?_
          refine r_ic_ge 146 C dX11_fit_107 (by decide) (by omega) (by omega) (fun h107 => ?_) (fun h107 => ?_)
          · refine r_aload_n C dX11_fit_146 rfl ?_
            refine r_get_r (c := 1) C dX11_fit_147 fl_X11_32 rfl rfl rfl (by decide) rfl ?_
            refine r_bipush C dX11_fit_150 ?_
            refine r_iload C dX11_fit_152 rfl ?_
            refine r_imul C dX11_fit_154 ?_
            refine r_iload C dX11_fit_155 rfl ?_
            refine r_iadd C dX11_fit_157 ?_
            refine r_iload C dX11_fit_158 rfl ?_
            refine r_ldc C dX11_fit_160 kc_X11_103 ?_
            refine r_csi C dX11_fit_162 ms_X11_111 (c_min (EM e) tM_ok l _ _ _ (by omega) (by omega)) (by decide) rfl rfl (Nat.le_of_ble_eq_true rfl) (fun z162 σ162 h162 => ?_)
            obtain ⟨rfl, rfl⟩ := h162
            refine r_iast (c := 1) (N := 225) C dX11_fit_165 rfl rfl (by decide) (by omega) ?_
            refine r_iinc C dX11_fit_166 rfl rfl rfl (by decide) ?_
            refine r_goto 39 C dX11_fit_169 (by decide) ?_
            exact ih _ _ _ _ (by omega) (by omega) (fI_step (by omega) (by omega) (by omega) (by omega) hI (by first | exact hdp | (exfalso; omega) | (unfold dpv; rw [if_pos (by omega), if_neg (by omega)]; show min (pfA A w f + tM8 σ1 i (f + 1)) 1000000 = _; omega) | (unfold dpv; rw [if_pos (by omega), if_pos (by omega)]; rfl)))
          · exfalso; omega
        · refine r_aload_n C dX11_fit_91 rfl ?_
          refine r_iload_n C dX11_fit_92 rfl ?_
          refine r_iload C dX11_fit_93 rfl ?_
          refine r_cvi (c := 1) C dX11_fit_95 mv_X11_100 (c_X11_leastOf e l _ _ _ A hR1 hA hw (by omega)) (by decide) rfl rfl rfl rfl (by decide) rfl rfl (Nat.le_of_ble_eq_true rfl) (fun z95 σ95 h95 => ?_)
          obtain ⟨rfl, rfl⟩ := h95
          refine r_goto 102 C dX11_fit_98 (by decide) ?_
          refine r_istore C dX11_fit_102 rfl rfl (by decide) ?_
          have hii : 0 ≤ i ∧ i < mA A w := by omega
          have hr := hi_r hR1 hA hw hii
          have rT : ∀ p, 0 ≤ p → p ≤ nA A w → 0 ≤ σ1 8 0 (25 * (i + 1) + p) := fun p p1 p2 => (hI.2.2 (i + 1) p p1 p2 (by omega)).2.1
          refine lp_X11_fitL e l σ1 w i f (pfA A w f + tM8 σ1 i (f + 1)) A hR1 hA hw hii (by omega) rT C (fun v x hv hvr => ?_) (hiA A w i + 1 - loA A w i).toNat _ _ (by omega) (by omega) (by rw [mnL_none _ (by omega)] <;> (try (show min _ _ = min _ _; omega))) (by omega)
          have hdp := dpv_low (by omega) (by omega) hv
          refine r_aload_n C dX11_fit_146 rfl ?_
          refine r_get_r (c := 1) C dX11_fit_147 fl_X11_32 rfl rfl rfl (by decide) rfl ?_
          refine r_bipush C dX11_fit_150 ?_
          refine r_iload C dX11_fit_152 rfl ?_
          refine r_imul C dX11_fit_154 ?_
          refine r_iload C dX11_fit_155 rfl ?_
          refine r_iadd C dX11_fit_157 ?_
          refine r_iload C dX11_fit_158 rfl ?_
          refine r_ldc C dX11_fit_160 kc_X11_103 ?_
          refine r_csi C dX11_fit_162 ms_X11_111 (c_min (EM e) tM_ok l _ _ _ (by omega) (by omega)) (by decide) rfl rfl (Nat.le_of_ble_eq_true rfl) (fun z162 σ162 h162 => ?_)
          obtain ⟨rfl, rfl⟩ := h162
          refine r_iast (c := 1) (N := 225) C dX11_fit_165 rfl rfl (by decide) (by omega) ?_
          refine r_iinc C dX11_fit_166 rfl rfl rfl (by decide) ?_
          refine r_goto 39 C dX11_fit_169 (by decide) ?_
          exact ih _ _ _ _ (by omega) (by omega) (fI_step (by omega) (by omega) (by omega) (by omega) hI (by first | exact hdp | (exfalso; omega) | (unfold dpv; rw [if_pos (by omega), if_neg (by omega)]; show min (pfA A w f + tM8 σ1 i (f + 1)) 1000000 = _; omega) | (unfold dpv; rw [if_pos (by omega), if_pos (by omega)]; rfl)))
set_option maxRecDepth 20000 in
theorem lp_X11_fitI {G : qSt → Nat → List (Option qV) → List qV → Prop} {Ret : Option qV → qSt → Prop} (e : qR) (l : Launch) (σ : qSt) (w : Int) (A : aSt) (hR : RelM σ A) (hA : AOk A) (hw : 0 ≤ w ∧ w < nWd A) (C : Cx (EM e) l RX11 cX11_fit 8 (some .int) 8 Ret G) (hN : ∀ σ2 i o5 o6 o7, fI σ A w (-1) (nA A w) σ2 → G σ2 178 [some (qr 0 0), some (qi w), some (qi (nA A w)), some (qi (mA A w)), some (qi i), o5, o6, o7] []) : ∀ (k : Nat) (i : Int) (σ1 : qSt) (o5 o6 o7 : Option qV), i + 1 = (k : Int) → i ≤ mA A w → fI σ A w i (nA A w) σ1 → G σ1 31 [some (qr 0 0), some (qi w), some (qi (nA A w)), some (qi (mA A w)), some (qi i), o5, o6, o7] [] := by
  intro k
  induction k with
  | zero =>
    intro i σ1 o5 o6 o7 hm hi hI
    have hR1 := fI_rel hR hI
    have wl := wl_m hR1 hA hw
    have hb1 := hI.2.1
    have nn : 0 ≤ nA A w ∧ nA A w ≤ 24 := by omega
    have mm : 0 ≤ mA A w ∧ mA A w ≤ 8 := by omega
    refine r_iload C dX11_fit_31 rfl ?_
    refine r_if_lt 178 C dX11_fit_33 (by decide) (by omega) (fun h33 => ?_) (fun h33 => ?_)
    · rw [show i = -1 by omega] at hI
      exact hN _ _ _ _ _ hI
    · exfalso; omega
  | succ k ih =>
    intro i σ1 o5 o6 o7 hm hi hI
    have hR1 := fI_rel hR hI
    have wl := wl_m hR1 hA hw
    have hb1 := hI.2.1
    have nn : 0 ≤ nA A w ∧ nA A w ≤ 24 := by omega
    have mm : 0 ≤ mA A w ∧ mA A w ≤ 8 := by omega
    refine r_iload C dX11_fit_31 rfl ?_
    refine r_if_lt 178 C dX11_fit_33 (by decide) (by omega) (fun h33 => ?_) (fun h33 => ?_)
    · exfalso; omega
    · refine r_iload_n C dX11_fit_36 rfl ?_
      refine r_istore C dX11_fit_37 rfl rfl (by decide) ?_
      refine lp_X11_fitF e l σ w i A hR hA hw (by omega) C (fun σ2 f o6 o7 hI2 => ?_) (nA A w + 1).toNat _ _ _ _ (by omega) (by omega) hI
      refine r_iinc C dX11_fit_172 rfl rfl rfl (by decide) ?_
      refine r_goto 31 C dX11_fit_175 (by decide) ?_
      exact ih _ _ _ _ _ (by omega) (by omega) (fI_row hI2)
