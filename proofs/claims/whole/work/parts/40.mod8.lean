/-! the reference's calls: the fit -/
theorem sy_m {σ : qSt} {A : aSt} (hR : RelM σ A) (hA : AOk A) {w i : Int} (hw : 0 ≤ w ∧ w < nWd A) (hi : 0 ≤ i ∧ i < mA A w) : w < 20 ∧ i < 8 ∧ σ 1 0 (108 + 8 * w + i) = (syAt (wdAt A w) i).1 + 4 * (syAt (wdAt A w) i).2.1 + 32 * (syAt (wdAt A w) i).2.2.1 + 256 * (syAt (wdAt A w) i).2.2.2 ∧ 0 ≤ (syAt (wdAt A w) i).1 ∧ (syAt (wdAt A w) i).1 < 4 ∧ 1 ≤ (syAt (wdAt A w) i).2.1 ∧ (syAt (wdAt A w) i).2.1 ≤ (syAt (wdAt A w) i).2.2.1 ∧ (syAt (wdAt A w) i).2.2.1 ≤ 6 ∧ 0 ≤ (syAt (wdAt A w) i).2.2.2 ∧ (syAt (wdAt A w) i).2.2.2 < 32 := by
  have wm := wd_m hR hA hw
  have hm : mA A w = ((wdAt A w).2.2.2.length : Int) := rfl
  have h := wm.2.2.2.2.2.2.2.2.2.2.2 i hi.1 (by omega)
  have hg := hA.1.2.1.1
  have hn : nWd A = ((cW A.1).length : Int) := rfl
  exact ⟨by omega, by omega, h⟩
theorem wl_m {σ : qSt} {A : aSt} (hR : RelM σ A) (hA : AOk A) {w : Int} (hw : 0 ≤ w ∧ w < nWd A) : w < 20 ∧ σ 1 0 (28 + w) = (wdAt A w).1 ∧ σ 1 0 (48 + w) = (wdAt A w).2.1 ∧ σ 1 0 (88 + w) = mA A w ∧ 0 ≤ mA A w ∧ mA A w ≤ 8 ∧ 0 ≤ (wdAt A w).1 ∧ (wdAt A w).1 < 12 ∧ 0 ≤ (wdAt A w).2.1 ∧ (wdAt A w).2.1 < 4 ∧ σ 1 0 (16 + (wdAt A w).1) = nA A w ∧ 0 ≤ nA A w ∧ nA A w ≤ 24 ∧ ∀ q, 0 ≤ q → q < nA A w → dg (σ 2 0 (wdAt A w).1) q = frAt (wLn A w) q ∧ 0 ≤ frAt (wLn A w) q ∧ frAt (wLn A w) q < 4 := by
  have wm := wd_m hR hA hw
  have hm : mA A w = ((wdAt A w).2.2.2.length : Int) := rfl
  have lm := ln_m hR hA (x := (wdAt A w).1) ⟨wm.2.2.2.2.2.1, wm.2.2.2.2.2.2.1⟩
  have hn : nA A w = ((lnAt A (wdAt A w).1).2.length : Int) := rfl
  have hg := hA.1.2.1.1
  have hg1 := hA.1.1.1
  have hnw : nWd A = ((cW A.1).length : Int) := rfl
  have hnl : nLn A = ((cL A.1).length : Int) := rfl
  exact ⟨by omega, wm.1, wm.2.1, wm.2.2.2.1, by omega, by omega, by omega, by omega, by omega, by omega, lm.2.1, by omega, by omega, lm.2.2.2.2.2⟩
set_option maxRecDepth 20000 in
theorem c_X11_leastOf (e : qR) (l : Launch) (σ : qSt) (w i : Int) (A : aSt) (hR : RelM σ A) (hA : AOk A) (hw : 0 ≤ w ∧ w < nWd A) (hi : 0 ≤ i ∧ i < mA A w) : CM (EM e) l yX11_leastOf cX11_leastOf 3 (some .int) 3 [qr 0 0, qi w, qi i] σ (Ri fun z σ' => z = loA A w i ∧ σ = σ') := by
  refine CM.mk tM_ok (by decide +kernel) (Nat.le_of_ble_eq_true rfl) (fun G C => ?_)
  show G σ 0 [some (qr 0 0), some (qi w), some (qi i)] []
  have sy := sy_m hR hA hw hi
  refine r_aload_n C dX11_leastOf_0 rfl ?_
  refine r_iload_n C dX11_leastOf_1 rfl ?_
  refine r_iload_n C dX11_leastOf_2 rfl ?_
  refine r_cvi (c := 1) C dX11_leastOf_3 mv_X11_97 (c_X11_syllableOf e l _ _ _ (by omega) (by omega)) (by decide) rfl rfl rfl rfl (by decide) rfl rfl (Nat.le_of_ble_eq_true rfl) (fun z3 σ3 h3 => ?_)
  obtain ⟨rfl, rfl⟩ := h3
  refine r_iconst C dX11_leastOf_6 ?_
  refine r_ishr (σ 1 0 (108 + 8 * w + i) / 4) C dX11_leastOf_7 (z_shrP _ 2 4 rfl (by omega) (by omega)) ?_
  refine r_bipush C dX11_leastOf_8 ?_
  refine r_iand (σ 1 0 (108 + 8 * w + i) / 4 % 8) C dX11_leastOf_10 (z_mask _ 3 8 rfl (by decide) (by decide)) ?_
  refine r_iret C dX11_leastOf_11 ?_
  exact ⟨_, rfl, by show _ = (syAt (wdAt A w) i).2.1; omega, rfl⟩
set_option maxRecDepth 20000 in
theorem c_X11_mostOf (e : qR) (l : Launch) (σ : qSt) (w i : Int) (A : aSt) (hR : RelM σ A) (hA : AOk A) (hw : 0 ≤ w ∧ w < nWd A) (hi : 0 ≤ i ∧ i < mA A w) : CM (EM e) l yX11_mostOf cX11_mostOf 4 (some .int) 4 [qr 0 0, qi w, qi i] σ (Ri fun z σ' => z = hiA A w i ∧ σ = σ') := by
  refine CM.mk tM_ok (by decide +kernel) (Nat.le_of_ble_eq_true rfl) (fun G C => ?_)
  show G σ 0 [some (qr 0 0), some (qi w), some (qi i), none] []
  have sy := sy_m hR hA hw hi
  have wl := wl_m hR hA hw
  refine r_aload_n C dX11_mostOf_0 rfl ?_
  refine r_get_r (c := 1) C dX11_mostOf_1 fl_X11_9 rfl rfl rfl (by decide) rfl ?_
  refine r_bipush C dX11_mostOf_4 ?_
  refine r_iload_n C dX11_mostOf_6 rfl ?_
  refine r_iadd C dX11_mostOf_7 ?_
  refine r_iald (c := 1) (N := 365) C dX11_mostOf_8 rfl rfl (by decide) (by omega) ?_
  refine r_istore_n C dX11_mostOf_9 rfl rfl (by decide) ?_
  refine r_iload_n C dX11_mostOf_10 rfl ?_
  refine r_iconst C dX11_mostOf_11 ?_
  refine r_ic_eq 20 C dX11_mostOf_12 (by decide) (by omega) (by omega) (fun h12 => ?_) (fun h12 => ?_)
  · refine r_aload_n C dX11_mostOf_20 rfl ?_
    refine r_iload_n C dX11_mostOf_21 rfl ?_
    refine r_iload_n C dX11_mostOf_22 rfl ?_
    refine r_cvi (c := 1) C dX11_mostOf_23 mv_X11_100 (c_X11_leastOf e l _ _ _ A hR hA hw hi) (by decide) rfl rfl rfl rfl (by decide) rfl rfl (Nat.le_of_ble_eq_true rfl) (fun z23 σ23 h23 => ?_)
    obtain ⟨rfl, rfl⟩ := h23
    refine r_goto 40 C dX11_mostOf_26 (by decide) ?_
    refine r_iret C dX11_mostOf_40 ?_
    first
    | exact ⟨_, rfl, by unfold hiA loA; rw [if_pos (by omega)], rfl⟩
    | exact ⟨_, rfl, by unfold hiA; rw [if_neg (by omega)]; omega, rfl⟩
  · refine r_iload_n C dX11_mostOf_15 rfl ?_
    refine r_iconst C dX11_mostOf_16 ?_
    refine r_ic_ne 29 C dX11_mostOf_17 (by decide) (by omega) (by omega) (fun h17 => ?_) (fun h17 => ?_)
    · refine r_aload_n C dX11_mostOf_29 rfl ?_
      refine r_iload_n C dX11_mostOf_30 rfl ?_
      refine r_iload_n C dX11_mostOf_31 rfl ?_
      refine r_cvi (c := 1) C dX11_mostOf_32 mv_X11_97 (c_X11_syllableOf e l _ _ _ (by omega) (by omega)) (by decide) rfl rfl rfl rfl (by decide) rfl rfl (Nat.le_of_ble_eq_true rfl) (fun z32 σ32 h32 => ?_)
      obtain ⟨rfl, rfl⟩ := h32
      refine r_iconst C dX11_mostOf_35 ?_
      refine r_ishr (σ 1 0 (108 + 8 * w + i) / 32) C dX11_mostOf_36 (z_shrP _ 5 32 rfl (by omega) (by omega)) ?_
      refine r_bipush C dX11_mostOf_37 ?_
      refine r_iand (σ 1 0 (108 + 8 * w + i) / 32 % 8) C dX11_mostOf_39 (z_mask _ 3 8 rfl (by decide) (by decide)) ?_
      refine r_iret C dX11_mostOf_40 ?_
      first
      | exact ⟨_, rfl, by unfold hiA loA; rw [if_pos (by omega)], rfl⟩
      | exact ⟨_, rfl, by unfold hiA; rw [if_neg (by omega)]; omega, rfl⟩
    · refine r_aload_n C dX11_mostOf_20 rfl ?_
      refine r_iload_n C dX11_mostOf_21 rfl ?_
      refine r_iload_n C dX11_mostOf_22 rfl ?_
      refine r_cvi (c := 1) C dX11_mostOf_23 mv_X11_100 (c_X11_leastOf e l _ _ _ A hR hA hw hi) (by decide) rfl rfl rfl rfl (by decide) rfl rfl (Nat.le_of_ble_eq_true rfl) (fun z23 σ23 h23 => ?_)
      obtain ⟨rfl, rfl⟩ := h23
      refine r_goto 40 C dX11_mostOf_26 (by decide) ?_
      refine r_iret C dX11_mostOf_40 ?_
      first
      | exact ⟨_, rfl, by unfold hiA loA; rw [if_pos (by omega)], rfl⟩
      | exact ⟨_, rfl, by unfold hiA; rw [if_neg (by omega)]; omega, rfl⟩
set_option maxRecDepth 20000 in
theorem c_X11_offOf (e : qR) (l : Launch) (σ : qSt) (w i f : Int) (A : aSt) (hR : RelM σ A) (hA : AOk A) (hw : 0 ≤ w ∧ w < nWd A) (hi : 0 ≤ i ∧ i < mA A w) (hf : 0 ≤ f ∧ f < nA A w) : CM (EM e) l yX11_offOf cX11_offOf 8 (some .int) 4 [qr 0 0, qi w, qi i, qi f] σ (Ri fun z σ' => z = ocA A w i f ∧ σ = σ') := by
  refine CM.mk tM_ok (by decide +kernel) (Nat.le_of_ble_eq_true rfl) (fun G C => ?_)
  show G σ 0 [some (qr 0 0), some (qi w), some (qi i), some (qi f), none, none, none, none] []
  have sy := sy_m hR hA hw hi
  have wl := wl_m hR hA hw
  refine r_aload_n C dX11_offOf_0 rfl ?_
  refine r_iload_n C dX11_offOf_1 rfl ?_
  refine r_iload_n C dX11_offOf_2 rfl ?_
  refine r_cvi (c := 1) C dX11_offOf_3 mv_X11_97 (c_X11_syllableOf e l _ _ _ (by omega) (by omega)) (by decide) rfl rfl rfl rfl (by decide) rfl rfl (Nat.le_of_ble_eq_true rfl) (fun z3 σ3 h3 => ?_)
  obtain ⟨rfl, rfl⟩ := h3
  refine r_iconst C dX11_offOf_6 ?_
  refine r_iand (σ 1 0 (108 + 8 * w + i) % 4) C dX11_offOf_7 (z_mask _ 2 4 rfl (by decide) (by decide)) ?_
  refine r_v (b := (syAt (wdAt A w) i).1) (by omega) ?_
  refine r_istore C dX11_offOf_8 rfl rfl (by decide) ?_
  refine r_aload_n C dX11_offOf_10 rfl ?_
  refine r_aload_n C dX11_offOf_11 rfl ?_
  refine r_get_r (c := 1) C dX11_offOf_12 fl_X11_9 rfl rfl rfl (by decide) rfl ?_
  refine r_bipush C dX11_offOf_15 ?_
  refine r_iload_n C dX11_offOf_17 rfl ?_
  refine r_iadd C dX11_offOf_18 ?_
  refine r_iald (c := 1) (N := 365) C dX11_offOf_19 rfl rfl (by decide) (by omega) ?_
  refine r_iload_n C dX11_offOf_20 rfl ?_
  refine r_cvi (c := 1) C dX11_offOf_21 mv_X11_93 (c_X11_shapeOf e l _ _ _ hR.2.1 (by omega) (by omega)) (by decide) rfl rfl rfl rfl (by decide) rfl rfl (Nat.le_of_ble_eq_true rfl) (fun z21 σ21 h21 => ?_)
  obtain ⟨hz21, rfl⟩ := h21
  obtain ⟨fr, hfr⟩ : ∃ v, v = z21 := ⟨_, rfl⟩
  rw [← hfr] at hz21 ⊢
  have fq := wl.2.2.2.2.2.2.2.2.2.2.2.2.2 f (by omega) (by omega)
  have efr : fr = frAt (wLn A w) f := by rw [hz21, wl.2.1]; exact fq.1
  refine r_istore C dX11_offOf_24 rfl rfl (by decide) ?_
  refine r_aload_n C dX11_offOf_26 rfl ?_
  refine r_get_r (c := 1) C dX11_offOf_27 fl_X11_9 rfl rfl rfl (by decide) rfl ?_
  refine r_bipush C dX11_offOf_30 ?_
  refine r_iload_n C dX11_offOf_32 rfl ?_
  refine r_iadd C dX11_offOf_33 ?_
  refine r_iald (c := 1) (N := 365) C dX11_offOf_34 rfl rfl (by decide) (by omega) ?_
  refine r_v (b := (wdAt A w).2.1) wl.2.2.1 ?_
  refine r_istore C dX11_offOf_35 rfl rfl (by decide) ?_
  refine r_iload C dX11_offOf_37 rfl ?_
  refine r_iload C dX11_offOf_39 rfl ?_
  refine r_ic_eq 50 C dX11_offOf_41 (by decide) (by omega) (by omega) (fun h41 => ?_) (fun h41 => ?_)
  · refine r_iconst C dX11_offOf_50 ?_
    refine r_iret C dX11_offOf_51 ?_
    exact ⟨_, rfl, by unfold ocA cOv; rw [← efr]; (repeat (first | rw [if_pos (by omega)] | rw [if_neg (by omega)])), rfl⟩
  · refine r_iload C dX11_offOf_44 rfl ?_
    refine r_iconst C dX11_offOf_46 ?_
    refine r_ic_ne 52 C dX11_offOf_47 (by decide) (by omega) (by omega) (fun h47 => ?_) (fun h47 => ?_)
    · refine r_iload C dX11_offOf_52 rfl ?_
      refine r_if_eq 62 C dX11_offOf_54 (by decide) (by omega) (fun h54 => ?_) (fun h54 => ?_)
      · refine r_iconst C dX11_offOf_62 ?_
        refine r_goto 67 C dX11_offOf_63 (by decide) ?_
        refine r_istore C dX11_offOf_67 rfl rfl (by decide) ?_
        refine r_iload C dX11_offOf_69 rfl ?_
        refine r_if_ne 78 C dX11_offOf_71 (by decide) (by decide) (fun _ => ?_) (fun h => absurd h (by decide))
        refine r_iload C dX11_offOf_78 rfl ?_
        refine r_iconst C dX11_offOf_80 ?_
        refine r_ic_ne 88 C dX11_offOf_81 (by decide) (by omega) (by omega) (fun h81 => ?_) (fun h81 => ?_)
        · refine r_iconst C dX11_offOf_88 ?_
          refine r_iret C dX11_offOf_89 ?_
          exact ⟨_, rfl, by unfold ocA cOv; rw [← efr]; (repeat (first | rw [if_pos (by omega)] | rw [if_neg (by omega)])), rfl⟩
        · refine r_iconst C dX11_offOf_84 ?_
          refine r_goto 89 C dX11_offOf_85 (by decide) ?_
          refine r_iret C dX11_offOf_89 ?_
          exact ⟨_, rfl, by unfold ocA cOv; rw [← efr]; (repeat (first | rw [if_pos (by omega)] | rw [if_neg (by omega)])), rfl⟩
      · refine r_iload C dX11_offOf_57 rfl ?_
        refine r_if_ne 66 C dX11_offOf_59 (by decide) (by omega) (fun h59 => ?_) (fun h59 => ?_)
        · refine r_iconst C dX11_offOf_66 ?_
          refine r_istore C dX11_offOf_67 rfl rfl (by decide) ?_
          refine r_iload C dX11_offOf_69 rfl ?_
          refine r_if_ne 78 C dX11_offOf_71 (by decide) (by decide) (fun h => absurd h (by decide)) (fun _ => ?_)
          refine r_iconst C dX11_offOf_74 ?_
          refine r_goto 89 C dX11_offOf_75 (by decide) ?_
          refine r_iret C dX11_offOf_89 ?_
          exact ⟨_, rfl, by unfold ocA cOv; rw [← efr]; (repeat (first | rw [if_pos (by omega)] | rw [if_neg (by omega)])), rfl⟩
        · refine r_iconst C dX11_offOf_62 ?_
          refine r_goto 67 C dX11_offOf_63 (by decide) ?_
          refine r_istore C dX11_offOf_67 rfl rfl (by decide) ?_
          refine r_iload C dX11_offOf_69 rfl ?_
          refine r_if_ne 78 C dX11_offOf_71 (by decide) (by decide) (fun _ => ?_) (fun h => absurd h (by decide))
          refine r_iload C dX11_offOf_78 rfl ?_
          refine r_iconst C dX11_offOf_80 ?_
          refine r_ic_ne 88 C dX11_offOf_81 (by decide) (by omega) (by omega) (fun h81 => ?_) (fun h81 => ?_)
          · refine r_iconst C dX11_offOf_88 ?_
            refine r_iret C dX11_offOf_89 ?_
            exact ⟨_, rfl, by unfold ocA cOv; rw [← efr]; (repeat (first | rw [if_pos (by omega)] | rw [if_neg (by omega)])), rfl⟩
          · refine r_iconst C dX11_offOf_84 ?_
            refine r_goto 89 C dX11_offOf_85 (by decide) ?_
            refine r_iret C dX11_offOf_89 ?_
            exact ⟨_, rfl, by unfold ocA cOv; rw [← efr]; (repeat (first | rw [if_pos (by omega)] | rw [if_neg (by omega)])), rfl⟩
    · refine r_iconst C dX11_offOf_50 ?_
      refine r_iret C dX11_offOf_51 ?_
      exact ⟨_, rfl, by unfold ocA cOv; rw [← efr]; (repeat (first | rw [if_pos (by omega)] | rw [if_neg (by omega)])), rfl⟩
set_option maxRecDepth 20000 in
theorem c_X11_pauseOf (e : qR) (l : Launch) (σ : qSt) (w f : Int) (A : aSt) (hR : RelM σ A) (hA : AOk A) (hw : 0 ≤ w ∧ w < nWd A) (hf : 0 ≤ f ∧ f < nA A w) : CM (EM e) l yX11_pauseOf cX11_pauseOf 3 (some .int) 4 [qr 0 0, qi w, qi f] σ (Ri fun z σ' => z = pfA A w f ∧ σ = σ') := by
  refine CM.mk tM_ok (by decide +kernel) (Nat.le_of_ble_eq_true rfl) (fun G C => ?_)
  show G σ 0 [some (qr 0 0), some (qi w), some (qi f)] []
  have wl := wl_m hR hA hw
  refine r_aload_n C dX11_pauseOf_0 rfl ?_
  refine r_aload_n C dX11_pauseOf_1 rfl ?_
  refine r_get_r (c := 1) C dX11_pauseOf_2 fl_X11_9 rfl rfl rfl (by decide) rfl ?_
  refine r_bipush C dX11_pauseOf_5 ?_
  refine r_iload_n C dX11_pauseOf_7 rfl ?_
  refine r_iadd C dX11_pauseOf_8 ?_
  refine r_iald (c := 1) (N := 365) C dX11_pauseOf_9 rfl rfl (by decide) (by omega) ?_
  refine r_iload_n C dX11_pauseOf_10 rfl ?_
  refine r_cvi (c := 1) C dX11_pauseOf_11 mv_X11_93 (c_X11_shapeOf e l _ _ _ hR.2.1 (by omega) (by omega)) (by decide) rfl rfl rfl rfl (by decide) rfl rfl (Nat.le_of_ble_eq_true rfl) (fun z11 σ11 h11 => ?_)
  obtain ⟨hz11, rfl⟩ := h11
  obtain ⟨fr, hfr⟩ : ∃ v, v = z11 := ⟨_, rfl⟩
  rw [← hfr] at hz11 ⊢
  have fq := wl.2.2.2.2.2.2.2.2.2.2.2.2.2 f (by omega) (by omega)
  have efr : fr = frAt (wLn A w) f := by rw [hz11, wl.2.1]; exact fq.1
  refine r_if_ne 21 C dX11_pauseOf_14 (by decide) (by omega) (fun h14 => ?_) (fun h14 => ?_)
  · refine r_iconst C dX11_pauseOf_21 ?_
    refine r_iret C dX11_pauseOf_22 ?_
    exact ⟨_, rfl, by unfold pfA pz; rw [← efr]; first | rw [if_pos (by omega)] | rw [if_neg (by omega)], rfl⟩
  · refine r_iconst C dX11_pauseOf_17 ?_
    refine r_goto 22 C dX11_pauseOf_18 (by decide) ?_
    refine r_iret C dX11_pauseOf_22 ?_
    exact ⟨_, rfl, by unfold pfA pz; rw [← efr]; first | rw [if_pos (by omega)] | rw [if_neg (by omega)], rfl⟩
set_option maxRecDepth 20000 in
theorem c_X11_leastAt (e : qR) (l : Launch) (σ : qSt) (i f : Int) (hi : 0 ≤ i ∧ i < 9) (hf : 0 ≤ f ∧ f < 25) : CM (EM e) l yX11_leastAt cX11_leastAt 3 (some .int) 2 [qr 0 0, qi i, qi f] σ (Ri fun z σ' => z = σ 8 0 (25 * i + f) ∧ σ = σ') := by
  refine CM.mk tM_ok (by decide +kernel) (Nat.le_of_ble_eq_true rfl) (fun G C => ?_)
  show G σ 0 [some (qr 0 0), some (qi i), some (qi f)] []
  refine r_aload_n C dX11_leastAt_0 rfl ?_
  refine r_get_r (c := 1) C dX11_leastAt_1 fl_X11_32 rfl rfl rfl (by decide) rfl ?_
  refine r_bipush C dX11_leastAt_4 ?_
  refine r_iload_n C dX11_leastAt_6 rfl ?_
  refine r_imul C dX11_leastAt_7 ?_
  refine r_iload_n C dX11_leastAt_8 rfl ?_
  refine r_iadd C dX11_leastAt_9 ?_
  refine r_iald (c := 1) (N := 225) C dX11_leastAt_10 rfl rfl (by decide) (by omega) ?_
  refine r_iret C dX11_leastAt_11 ?_
  exact ⟨_, rfl, rfl, rfl⟩
abbrev tM8 (σ : qSt) : Int → Int → Int := fun s p => σ 8 0 (25 * s + p)
def laA (A : aSt) (w : Int) (T : Int → Int → Int) (i f x : Int) : Int := if nA A w < f + x then 1000000 else min (sOc (ocA A w i) f x.toNat + T (i + 1) (f + x)) 1000000
set_option maxRecDepth 20000 in
theorem lp_X11_laid {G : qSt → Nat → List (Option qV) → List qV → Prop} {Ret : Option qV → qSt → Prop} (e : qR) (l : Launch) (σ : qSt) (w i f x : Int) (A : aSt) (hR : RelM σ A) (hA : AOk A) (hw : 0 ≤ w ∧ w < nWd A) (hi : 0 ≤ i ∧ i < mA A w) (hf : 0 ≤ f) (hx : 0 ≤ x ∧ f + x ≤ nA A w) (C : Cx (EM e) l RX11 cX11_laid 7 (some .int) 6 Ret G) (hN : Ret (some (qi (laA A w (tM8 σ) i f x))) σ) : ∀ (k : Nat) (m : Nat) (s : Int), (m : Int) + (k : Int) = x → s = sOc (ocA A w i) f m + tM8 σ (i + 1) (f + x) → G σ 43 [some (qr 0 0), some (qi w), some (qi i), some (qi f), some (qi x), some (qi s), some (qi (m : Int))] [] := by
  intro k
  induction k with
  | zero =>
    intro m s hm hs
    have wl := wl_m hR hA hw
    have b8 := hR.1 8 0 (25 * (i + 1) + (f + x)) (by omega) (by omega)
    have so := sOc_rng (oc := ocA A w i) (fun q => ocA_rng A w i q) f m
    have hs2 : s = sOc (ocA A w i) f m + σ 8 0 (25 * (i + 1) + (f + x)) := hs
    refine r_iload C dX11_laid_43 rfl ?_
    refine r_iload C dX11_laid_45 rfl ?_
    refine r_ic_ge 71 C dX11_laid_47 (by decide) (by omega) (by omega) (fun h47 => ?_) (fun h47 => ?_)
    · refine r_iload C dX11_laid_71 rfl ?_
      refine r_ldc C dX11_laid_73 kc_X11_103 ?_
      refine r_csi C dX11_laid_75 ms_X11_111 (c_min (EM e) tM_ok l _ _ _ (by omega) (by omega)) (by decide) rfl rfl (Nat.le_of_ble_eq_true rfl) (fun z75 σ75 h75 => ?_)
      obtain ⟨rfl, rfl⟩ := h75
      refine r_iret C dX11_laid_78 ?_
      unfold laA at hN
      rw [if_neg (by omega), show x.toNat = m by omega, ← hs] at hN
      exact hN
    · exfalso; omega
  | succ k ih =>
    intro m s hm hs
    have wl := wl_m hR hA hw
    have b8 := hR.1 8 0 (25 * (i + 1) + (f + x)) (by omega) (by omega)
    have so := sOc_rng (oc := ocA A w i) (fun q => ocA_rng A w i q) f m
    have hs2 : s = sOc (ocA A w i) f m + σ 8 0 (25 * (i + 1) + (f + x)) := hs
    refine r_iload C dX11_laid_43 rfl ?_
    refine r_iload C dX11_laid_45 rfl ?_
    refine r_ic_ge 71 C dX11_laid_47 (by decide) (by omega) (by omega) (fun h47 => ?_) (fun h47 => ?_)
    · exfalso; omega
    · refine r_iload C dX11_laid_50 rfl ?_
      refine r_aload_n C dX11_laid_52 rfl ?_
      refine r_iload_n C dX11_laid_53 rfl ?_
      refine r_iload_n C dX11_laid_54 rfl ?_
      refine r_iload_n C dX11_laid_55 rfl ?_
      refine r_iload C dX11_laid_56 rfl ?_
      refine r_iadd C dX11_laid_58 ?_
      refine r_cvi (c := 1) C dX11_laid_59 mv_X11_107 (c_X11_offOf e l _ _ _ _ A hR hA hw hi (by omega)) (by decide) rfl rfl rfl rfl (by decide) rfl rfl (Nat.le_of_ble_eq_true rfl) (fun z59 σ59 h59 => ?_)
      obtain ⟨rfl, rfl⟩ := h59
      refine r_iadd C dX11_laid_62 ?_
      refine r_istore C dX11_laid_63 rfl rfl (by decide) ?_
      refine r_iinc C dX11_laid_65 rfl rfl rfl (by decide) ?_
      refine r_goto 43 C dX11_laid_68 (by decide) ?_
      exact ih (m + 1) _ (by push_cast; omega) (by show _ = sOc (ocA A w i) f m + ocA A w i (f + m) + tM8 σ (i + 1) (f + x); omega)
set_option maxRecDepth 20000 in
theorem c_X11_laid (e : qR) (l : Launch) (σ : qSt) (w i f x : Int) (A : aSt) (hR : RelM σ A) (hA : AOk A) (hw : 0 ≤ w ∧ w < nWd A) (hi : 0 ≤ i ∧ i < mA A w) (hf : 0 ≤ f ∧ f ≤ nA A w) (hx : 0 ≤ x ∧ x ≤ 6) : CM (EM e) l yX11_laid cX11_laid 7 (some .int) 6 [qr 0 0, qi w, qi i, qi f, qi x] σ (Ri fun z σ' => z = laA A w (tM8 σ) i f x ∧ σ = σ') := by
  refine CM.mk tM_ok (by decide +kernel) (Nat.le_of_ble_eq_true rfl) (fun G C => ?_)
  show G σ 0 [some (qr 0 0), some (qi w), some (qi i), some (qi f), some (qi x), none, none] []
  have wl := wl_m hR hA hw
  refine r_iload_n C dX11_laid_0 rfl ?_
  refine r_iload C dX11_laid_1 rfl ?_
  refine r_iadd C dX11_laid_3 ?_
  refine r_aload_n C dX11_laid_4 rfl ?_
  refine r_get_r (c := 1) C dX11_laid_5 fl_X11_9 rfl rfl rfl (by decide) rfl ?_
  refine r_bipush C dX11_laid_8 ?_
  refine r_aload_n C dX11_laid_10 rfl ?_
  refine r_get_r (c := 1) C dX11_laid_11 fl_X11_9 rfl rfl rfl (by decide) rfl ?_
  refine r_bipush C dX11_laid_14 ?_
  refine r_iload_n C dX11_laid_16 rfl ?_
  refine r_iadd C dX11_laid_17 ?_
  refine r_iald (c := 1) (N := 365) C dX11_laid_18 rfl rfl (by decide) (by omega) ?_
  refine r_v (b := (wdAt A w).1) wl.2.1 ?_
  refine r_iadd C dX11_laid_19 ?_
  refine r_iald (c := 1) (N := 365) C dX11_laid_20 rfl rfl (by decide) (by omega) ?_
  refine r_v (b := nA A w) wl.2.2.2.2.2.2.2.2.2.2.1 ?_
  refine r_ic_le 27 C dX11_laid_21 (by decide) (by omega) (by omega) (fun h21 => ?_) (fun h21 => ?_)
  · refine r_aload_n C dX11_laid_27 rfl ?_
    refine r_iload_n C dX11_laid_28 rfl ?_
    refine r_iconst C dX11_laid_29 ?_
    refine r_iadd C dX11_laid_30 ?_
    refine r_iload_n C dX11_laid_31 rfl ?_
    refine r_iload C dX11_laid_32 rfl ?_
    refine r_iadd C dX11_laid_34 ?_
    refine r_cvi (c := 1) C dX11_laid_35 mv_X11_104 (c_X11_leastAt e l _ _ _ (by omega) (by omega)) (by decide) rfl rfl rfl rfl (by decide) rfl rfl (Nat.le_of_ble_eq_true rfl) (fun z35 σ35 h35 => ?_)
    obtain ⟨rfl, rfl⟩ := h35
    refine r_istore C dX11_laid_38 rfl rfl (by decide) ?_
    refine r_iconst C dX11_laid_40 ?_
    refine r_istore C dX11_laid_41 rfl rfl (by decide) ?_
    exact lp_X11_laid e l σ w i f x A hR hA hw hi hf.1 (by omega) C ⟨_, rfl, rfl, rfl⟩ x.toNat 0 _ (by omega) (by show _ = 0 + σ 8 0 (25 * (i + 1) + (f + x)); omega)
  · refine r_ldc C dX11_laid_24 kc_X11_103 ?_
    refine r_iret C dX11_laid_26 ?_
    exact ⟨_, rfl, by unfold laA; rw [if_pos (by omega)], rfl⟩
