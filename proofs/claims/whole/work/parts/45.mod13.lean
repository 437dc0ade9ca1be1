set_option maxRecDepth 20000 in
theorem m_cost (e : qR) (l : Launch) (σ : qSt) (w : Int) (A : aSt) (hR : RelM σ A) (hA : AOk A) (h_w : InI w)  : CM (EM e) l yX11_cost cX11_cost 3 (some .int) 20 [qr 0 0, qi w] σ (Ri fun z σ' => z = (oCost w A).1 ∧ RelM σ' (oCost w A).2) := by
  refine CM.mk tM_ok (by decide +kernel) (Nat.le_of_ble_eq_true rfl) (fun G C => ?_)
  show G σ 0 [some (qr 0 0), some (qi w), none] []
  obtain ⟨hb, e0, n0, m0, e1w, n1, m1, e2t, n2, m2, e3l, n3, m3, hk0, hk20⟩ := mF hR hA
  refine r_aload_n C dX11_cost_0 rfl ?_
  refine r_iload_n C dX11_cost_1 rfl ?_
  refine r_cvi (c := 1) C dX11_cost_2 mv_X11_85 (c_X11_isWording e l _ _ hb (by omega)) (by decide) rfl rfl rfl rfl (by decide) rfl rfl (Nat.le_of_ble_eq_true rfl) (fun z2 σ2 h2 => ?_)
  obtain ⟨rfl, rfl⟩ := h2
  refine r_ifb_ne 15 C dX11_cost_5 (by decide) (fun h5 => ?_) (fun h5 => ?_)
  · refine r_aload_n C dX11_cost_15 rfl ?_
    refine r_iload_n C dX11_cost_16 rfl ?_
    refine r_cvi (c := 1) C dX11_cost_17 mv_X11_129 (c_X11_fit e l _ _ A hR hA (by omega)) (by decide) rfl rfl rfl rfl (by decide) rfl rfl (Nat.le_of_ble_eq_true rfl) (fun z17 σ17 h17 => ?_)
    obtain ⟨⟨hR17, f1, f2, f3, f4⟩, -⟩ := h17
    refine r_istore_n C dX11_cost_20 rfl rfl (by decide) ?_
    refine r_iload_n C dX11_cost_21 rfl ?_
    refine r_ldc C dX11_cost_22 kc_X11_103 ?_
    refine r_ic_ne 36 C dX11_cost_24 (by decide) (by omega) (by omega) (fun h24 => ?_) (fun h24 => ?_)
    · refine r_iload_n C dX11_cost_36 rfl ?_
      refine r_iret C dX11_cost_37 ?_
      first
      | (have e1 : oCost w A = fnd A (-100006) := by unfold oCost; repeat (first | rw [if_pos (by omega)] | rw [if_neg (by omega)])
         exact ⟨_, rfl, by rw [e1]; rfl, by rw [e1]; exact rel_mfnd hR17 _⟩)
      | (have e1 : oCost w A = (fitT A w 0 0, A) := by unfold oCost; repeat (first | rw [if_pos (by omega)] | rw [if_neg (by omega)])
         exact ⟨_, rfl, by rw [e1]; exact f1, by rw [e1]; exact hR17⟩)
    · refine r_aload_n C dX11_cost_27 rfl ?_
      refine r_ldc C dX11_cost_28 kc_X11_67 ?_
      refine r_cvi (c := 1) C dX11_cost_30 mv_X11_68 (c_X11_finding e l _ _) (by decide) rfl rfl rfl rfl (by decide) rfl rfl (Nat.le_of_ble_eq_true rfl) (fun z30 σ30 h30 => ?_)
      obtain ⟨rfl, rfl⟩ := h30
      refine r_goto 37 C dX11_cost_33 (by decide) ?_
      refine r_iret C dX11_cost_37 ?_
      first
      | (have e1 : oCost w A = fnd A (-100006) := by unfold oCost; repeat (first | rw [if_pos (by omega)] | rw [if_neg (by omega)])
         exact ⟨_, rfl, by rw [e1]; rfl, by rw [e1]; exact rel_mfnd hR17 _⟩)
      | (have e1 : oCost w A = (fitT A w 0 0, A) := by unfold oCost; repeat (first | rw [if_pos (by omega)] | rw [if_neg (by omega)])
         exact ⟨_, rfl, by rw [e1]; exact f1, by rw [e1]; exact hR17⟩)
  · refine r_aload_n C dX11_cost_8 rfl ?_
    refine r_ldc C dX11_cost_9 kc_X11_72 ?_
    refine r_cvi (c := 1) C dX11_cost_11 mv_X11_68 (c_X11_finding e l _ _) (by decide) rfl rfl rfl rfl (by decide) rfl rfl (Nat.le_of_ble_eq_true rfl) (fun z11 σ11 h11 => ?_)
    obtain ⟨rfl, rfl⟩ := h11
    refine r_iret C dX11_cost_14 ?_
    have e1 : oCost w A = fnd A (-100001) := by unfold oCost; repeat (first | rw [if_pos (by omega)] | rw [if_neg (by omega)])
    exact ⟨_, rfl, by rw [e1]; rfl, by rw [e1]; exact rel_mfnd hR _⟩
set_option maxRecDepth 20000 in
theorem m_place (e : qR) (l : Launch) (σ : qSt) (w i k : Int) (A : aSt) (hR : RelM σ A) (hA : AOk A) (h_w : InI w) (h_i : InI i) (h_k : InI k)  : CM (EM e) l yX11_place cX11_place 4 (some .int) 20 [qr 0 0, qi w, qi i, qi k] σ (Ri fun z σ' => z = (oPlace w i k A).1 ∧ RelM σ' (oPlace w i k A).2) := by
  refine CM.mk tM_ok (by decide +kernel) (Nat.le_of_ble_eq_true rfl) (fun G C => ?_)
  show G σ 0 [some (qr 0 0), some (qi w), some (qi i), some (qi k)] []
  obtain ⟨hb, e0, n0, m0, e1w, n1, m1, e2t, n2, m2, e3l, n3, m3, hk0, hk20⟩ := mF hR hA
  refine r_aload_n C dX11_place_0 rfl ?_
  refine r_iload_n C dX11_place_1 rfl ?_
  refine r_cvi (c := 1) C dX11_place_2 mv_X11_85 (c_X11_isWording e l _ _ hb (by omega)) (by decide) rfl rfl rfl rfl (by decide) rfl rfl (Nat.le_of_ble_eq_true rfl) (fun z2 σ2 h2 => ?_)
  obtain ⟨rfl, rfl⟩ := h2
  refine r_ifb_eq 27 C dX11_place_5 (by decide) (fun h5 => ?_) (fun h5 => ?_)
  · refine r_aload_n C dX11_place_27 rfl ?_
    refine r_ldc C dX11_place_28 kc_X11_72 ?_
    refine r_cvi (c := 1) C dX11_place_30 mv_X11_68 (c_X11_finding e l _ _) (by decide) rfl rfl rfl rfl (by decide) rfl rfl (Nat.le_of_ble_eq_true rfl) (fun z30 σ30 h30 => ?_)
    obtain ⟨rfl, rfl⟩ := h30
    refine r_iret C dX11_place_33 ?_
    have e1 : oPlace w i k A = fnd A (-100001) := by unfold oPlace; repeat (first | rw [if_pos (by omega)] | rw [if_neg (by omega)])
    exact ⟨_, rfl, by rw [e1]; rfl, by rw [e1]; exact rel_mfnd hR _⟩
  · have wl := wl_m hR hA (w := w) (by omega)
    refine r_iload_n C dX11_place_8 rfl ?_
    refine r_iconst C dX11_place_9 ?_
    refine r_aload_n C dX11_place_10 rfl ?_
    refine r_get_r (c := 1) C dX11_place_11 fl_X11_9 rfl rfl rfl (by decide) rfl ?_
    refine r_bipush C dX11_place_14 ?_
    refine r_iload_n C dX11_place_16 rfl ?_
    refine r_iadd C dX11_place_17 ?_
    refine r_iald (c := 1) (N := 365) C dX11_place_18 rfl rfl (by decide) (by omega) ?_
    have b18 := hb 1 0 (88 + w) (by omega) (by omega)
    refine r_iconst C dX11_place_19 ?_
    refine r_isub C dX11_place_20 ?_
    refine r_csi C dX11_place_21 ms_X11_60 (c_X11_within e l _ _ _ _ (by omega) (by omega) (by omega)) (by decide) rfl rfl (Nat.le_of_ble_eq_true rfl) (fun z21 σ21 h21 => ?_)
    obtain ⟨rfl, rfl⟩ := h21
    refine r_ifb_ne 34 C dX11_place_24 (by decide) (fun h24 => ?_) (fun h24 => ?_)
    · refine r_aload_n C dX11_place_34 rfl ?_
      refine r_iload_n C dX11_place_35 rfl ?_
      refine r_cvi (c := 1) C dX11_place_36 mv_X11_129 (c_X11_fit e l _ _ A hR hA (by omega)) (by decide) rfl rfl rfl rfl (by decide) rfl rfl (Nat.le_of_ble_eq_true rfl) (fun z36 σ36 h36 => ?_)
      obtain ⟨⟨hR36, f1, f2, f3, f4⟩, -⟩ := h36
      refine r_ldc C dX11_place_39 kc_X11_103 ?_
      refine r_ic_ne 53 C dX11_place_41 (by decide) (by omega) (by omega) (fun h41 => ?_) (fun h41 => ?_)
      · refine r_iload_n C dX11_place_53 rfl ?_
        refine r_if_eq 66 C dX11_place_54 (by decide) (by omega) (fun h54 => ?_) (fun h54 => ?_)
        · refine r_aload_n C dX11_place_66 rfl ?_
          refine r_get_r (c := 1) C dX11_place_67 fl_X11_35 rfl rfl rfl (by decide) rfl ?_
          refine r_iload_n C dX11_place_70 rfl ?_
          refine r_iald (c := 1) (N := 8) C dX11_place_71 rfl rfl (by decide) (by omega) ?_
          refine r_iret C dX11_place_72 ?_
          first
          | (have e1 : oPlace w i k A = fnd A (-100006) := by unfold oPlace; repeat (first | rw [if_pos (by omega)] | rw [if_neg (by omega)])
             exact ⟨_, rfl, by rw [e1]; rfl, by rw [e1]; exact rel_mfnd hR36 _⟩)
          | (have e1 : oPlace w i k A = (if k = 0 then (fitBL A w).1 i else (fitBL A w).2 i, A) := by unfold oPlace; rw [if_neg (by omega), if_neg (by omega)]
             have f6 := (f4 (by omega)).2 i (by omega) (by omega)
             exact ⟨_, rfl, by rw [e1]; first | (rw [if_pos h54]; exact f6.1) | (rw [if_neg h54]; exact f6.2), by rw [e1]; exact hR36⟩)
        · refine r_aload_n C dX11_place_57 rfl ?_
          refine r_get_r (c := 1) C dX11_place_58 fl_X11_38 rfl rfl rfl (by decide) rfl ?_
          refine r_iload_n C dX11_place_61 rfl ?_
          refine r_iald (c := 1) (N := 8) C dX11_place_62 rfl rfl (by decide) (by omega) ?_
          refine r_goto 72 C dX11_place_63 (by decide) ?_
          refine r_iret C dX11_place_72 ?_
          first
          | (have e1 : oPlace w i k A = fnd A (-100006) := by unfold oPlace; repeat (first | rw [if_pos (by omega)] | rw [if_neg (by omega)])
             exact ⟨_, rfl, by rw [e1]; rfl, by rw [e1]; exact rel_mfnd hR36 _⟩)
          | (have e1 : oPlace w i k A = (if k = 0 then (fitBL A w).1 i else (fitBL A w).2 i, A) := by unfold oPlace; rw [if_neg (by omega), if_neg (by omega)]
             have f6 := (f4 (by omega)).2 i (by omega) (by omega)
             exact ⟨_, rfl, by rw [e1]; first | (rw [if_pos h54]; exact f6.1) | (rw [if_neg h54]; exact f6.2), by rw [e1]; exact hR36⟩)
      · refine r_aload_n C dX11_place_44 rfl ?_
        refine r_ldc C dX11_place_45 kc_X11_67 ?_
        refine r_cvi (c := 1) C dX11_place_47 mv_X11_68 (c_X11_finding e l _ _) (by decide) rfl rfl rfl rfl (by decide) rfl rfl (Nat.le_of_ble_eq_true rfl) (fun z47 σ47 h47 => ?_)
        obtain ⟨rfl, rfl⟩ := h47
        refine r_goto 72 C dX11_place_50 (by decide) ?_
        refine r_iret C dX11_place_72 ?_
        first
        | (have e1 : oPlace w i k A = fnd A (-100006) := by unfold oPlace; repeat (first | rw [if_pos (by omega)] | rw [if_neg (by omega)])
           exact ⟨_, rfl, by rw [e1]; rfl, by rw [e1]; exact rel_mfnd hR36 _⟩)
        | (have e1 : oPlace w i k A = (if k = 0 then (fitBL A w).1 i else (fitBL A w).2 i, A) := by unfold oPlace; rw [if_neg (by omega), if_neg (by omega)]
           have f6 := (f4 (by omega)).2 i (by omega) (by omega)
           exact ⟨_, rfl, by rw [e1]; first | (rw [if_pos h54]; exact f6.1) | (rw [if_neg h54]; exact f6.2), by rw [e1]; exact hR36⟩)
    · refine r_aload_n C dX11_place_27 rfl ?_
      refine r_ldc C dX11_place_28 kc_X11_72 ?_
      refine r_cvi (c := 1) C dX11_place_30 mv_X11_68 (c_X11_finding e l _ _) (by decide) rfl rfl rfl rfl (by decide) rfl rfl (Nat.le_of_ble_eq_true rfl) (fun z30 σ30 h30 => ?_)
      obtain ⟨rfl, rfl⟩ := h30
      refine r_iret C dX11_place_33 ?_
      have e1 : oPlace w i k A = fnd A (-100001) := by unfold oPlace; repeat (first | rw [if_pos (by omega)] | rw [if_neg (by omega)])
      exact ⟨_, rfl, by rw [e1]; rfl, by rw [e1]; exact rel_mfnd hR _⟩
theorem on_st {A : aSt} {w : Int} {T : Int → Int → Int} {b l : Int → Int} (h : TrA A w T b l) : ∀ k : Nat, (k : Int) ≤ mA A w → 0 ≤ stB b l k ∧ ∀ j : Nat, j < k → b j + l j ≤ stB b l k := by
  intro k
  induction k with
  | zero => intro _; exact ⟨by simp [stB], fun j q => by omega⟩
  | succ k ih =>
    intro hk
    obtain ⟨i1, i2⟩ := ih (by omega)
    obtain ⟨a1, a2, a3, a4, a5⟩ := h k (by omega) (by omega)
    have e : stB b l ((k + 1 : Nat) : Int) = b k + l k := by unfold stB; rw [if_neg (by omega), show ((k + 1 : Nat) : Int) - 1 = (k : Int) by omega]
    rw [e]
    refine ⟨by omega, fun j q => ?_⟩
    by_cases u : j = k
    · rw [u]; exact Int.le_refl _
    · have := i2 j (by omega)
      omega
theorem on_last {A : aSt} {w x : Int} {T : Int → Int → Int} {b l : Int → Int} (h : TrA A w T b l) (k : Nat) (hk : (k : Int) < mA A w) (hx : b k ≤ x ∧ x < b k + l k) : onF b l x k = -1 := by
  have hs := on_st h k (by omega)
  obtain ⟨a1, a2, a3, a4, a5⟩ := h k (by omega) hk
  have : ∀ m : Nat, m ≤ k → onF b l x m = -1 := by
    intro m
    induction m with
    | zero => intro _; rfl
    | succ m ih =>
      intro hm
      have := hs.2 m (by omega)
      simp only [onF]
      rw [ih (by omega), if_neg (by omega), if_neg (by omega)]
  exact this k (Nat.le_refl _)
set_option maxRecDepth 20000 in
theorem lp_X11_on {G : qSt → Nat → List (Option qV) → List qV → Prop} {Ret : Option qV → qSt → Prop} (e : qR) (l : Launch) (σ : qSt) (w x : Int) (A : aSt) (hR : RelM σ A) (hA : AOk A) (hw : 0 ≤ w ∧ w < nWd A) (hx : InI x) (hTr : TrA A w (fitT A w) (fitBL A w).1 (fitBL A w).2) (hB : ∀ j, 0 ≤ j → j < mA A w → σ 9 0 j = (fitBL A w).1 j ∧ σ 10 0 j = (fitBL A w).2 j) (C : Cx (EM e) l RX11 cX11_on 5 (some .int) 20 Ret G) (hN : Ret (some (qi (onF (fitBL A w).1 (fitBL A w).2 x (wdAt A w).2.2.2.length))) σ) : ∀ (k : Nat) (m : Nat) (s : Int), (m : Int) + (k : Int) = mA A w → s = onF (fitBL A w).1 (fitBL A w).2 x m → G σ 64 [some (qr 0 0), some (qi w), some (qi x), some (qi s), some (qi (m : Int))] [] := by
  intro k
  induction k with
  | zero =>
    intro m s hm hs
    have hb := hR.1
    have wl := wl_m hR hA hw
    refine r_iload C dX11_on_64 rfl ?_
    refine r_aload_n C dX11_on_66 rfl ?_
    refine r_get_r (c := 1) C dX11_on_67 fl_X11_9 rfl rfl rfl (by decide) rfl ?_
    refine r_bipush C dX11_on_70 ?_
    refine r_iload_n C dX11_on_72 rfl ?_
    refine r_iadd C dX11_on_73 ?_
    refine r_iald (c := 1) (N := 365) C dX11_on_74 rfl rfl (by decide) (by omega) ?_
    have b74 := hb 1 0 (88 + w) (by omega) (by omega)
    refine r_ic_ge 122 C dX11_on_75 (by decide) (by omega) (by omega) (fun h75 => ?_) (fun h75 => ?_)
    · refine r_iload_n C dX11_on_122 rfl ?_
      refine r_iret C dX11_on_123 ?_
      rw [show (wdAt A w).2.2.2.length = m by have q : mA A w = ((wdAt A w).2.2.2.length : Int) := rfl; omega, ← hs] at hN
      exact hN
    · exfalso; omega
  | succ k ih =>
    intro m s hm hs
    have hb := hR.1
    have wl := wl_m hR hA hw
    refine r_iload C dX11_on_64 rfl ?_
    refine r_aload_n C dX11_on_66 rfl ?_
    refine r_get_r (c := 1) C dX11_on_67 fl_X11_9 rfl rfl rfl (by decide) rfl ?_
    refine r_bipush C dX11_on_70 ?_
    refine r_iload_n C dX11_on_72 rfl ?_
    refine r_iadd C dX11_on_73 ?_
    refine r_iald (c := 1) (N := 365) C dX11_on_74 rfl rfl (by decide) (by omega) ?_
    have b74 := hb 1 0 (88 + w) (by omega) (by omega)
    refine r_ic_ge 122 C dX11_on_75 (by decide) (by omega) (by omega) (fun h75 => ?_) (fun h75 => ?_)
    · exfalso; omega
    · have hBm := hB m (by omega) (by omega)
      refine r_iload_n C dX11_on_78 rfl ?_
      refine r_aload_n C dX11_on_79 rfl ?_
      refine r_get_r (c := 1) C dX11_on_80 fl_X11_35 rfl rfl rfl (by decide) rfl ?_
      refine r_iload C dX11_on_83 rfl ?_
      refine r_iald (c := 1) (N := 8) C dX11_on_85 rfl rfl (by decide) (by omega) ?_
      have b85 := hb 9 0 (m : Int) (by omega) (by omega)
      refine r_aload_n C dX11_on_86 rfl ?_
      refine r_get_r (c := 1) C dX11_on_87 fl_X11_35 rfl rfl rfl (by decide) rfl ?_
      refine r_iload C dX11_on_90 rfl ?_
      refine r_iald (c := 1) (N := 8) C dX11_on_92 rfl rfl (by decide) (by omega) ?_
      have b92 := hb 9 0 (m : Int) (by omega) (by omega)
      refine r_aload_n C dX11_on_93 rfl ?_
      refine r_get_r (c := 1) C dX11_on_94 fl_X11_38 rfl rfl rfl (by decide) rfl ?_
      refine r_iload C dX11_on_97 rfl ?_
      refine r_iald (c := 1) (N := 8) C dX11_on_99 rfl rfl (by decide) (by omega) ?_
      have b99 := hb 10 0 (m : Int) (by omega) (by omega)
      refine r_iadd C dX11_on_100 ?_
      refine r_iconst C dX11_on_101 ?_
      refine r_isub C dX11_on_102 ?_
      refine r_csi C dX11_on_103 ms_X11_60 (c_X11_within e l _ _ _ _ (by omega) (by omega) (by omega)) (by decide) rfl rfl (Nat.le_of_ble_eq_true rfl) (fun z103 σ103 h103 => ?_)
      obtain ⟨rfl, rfl⟩ := h103
      refine r_ifb_eq 114 C dX11_on_106 (by decide) (fun h106 => ?_) (fun h106 => ?_)
      · refine r_iload_n C dX11_on_114 rfl ?_
        refine r_istore_n C dX11_on_115 rfl rfl (by decide) ?_
        refine r_iinc C dX11_on_116 rfl rfl rfl (by decide) ?_
        refine r_goto 64 C dX11_on_119 (by decide) ?_
        exact ih (m + 1) _ (by push_cast; omega) (by simp only [onF]; rw [← hs]; by_cases q : s = -1; rw [if_neg (by omega), if_neg (by omega), q]; rw [if_pos (by omega)])
      · refine r_iload C dX11_on_109 rfl ?_
        refine r_goto 115 C dX11_on_111 (by decide) ?_
        refine r_istore_n C dX11_on_115 rfl rfl (by decide) ?_
        refine r_iinc C dX11_on_116 rfl rfl rfl (by decide) ?_
        refine r_goto 64 C dX11_on_119 (by decide) ?_
        exact ih (m + 1) _ (by push_cast; omega) (by simp only [onF]; rw [on_last hTr m (by omega) (by omega), if_neg (by omega), if_pos (by omega)])
set_option maxRecDepth 20000 in
theorem m_on (e : qR) (l : Launch) (σ : qSt) (w x : Int) (A : aSt) (hR : RelM σ A) (hA : AOk A) (h_w : InI w) (h_x : InI x)  : CM (EM e) l yX11_on cX11_on 5 (some .int) 20 [qr 0 0, qi w, qi x] σ (Ri fun z σ' => z = (oOn w x A).1 ∧ RelM σ' (oOn w x A).2) := by
  refine CM.mk tM_ok (by decide +kernel) (Nat.le_of_ble_eq_true rfl) (fun G C => ?_)
  show G σ 0 [some (qr 0 0), some (qi w), some (qi x), none, none] []
  obtain ⟨hb, e0, n0, m0, e1w, n1, m1, e2t, n2, m2, e3l, n3, m3, hk0, hk20⟩ := mF hR hA
  refine r_aload_n C dX11_on_0 rfl ?_
  refine r_iload_n C dX11_on_1 rfl ?_
  refine r_cvi (c := 1) C dX11_on_2 mv_X11_85 (c_X11_isWording e l _ _ hb (by omega)) (by decide) rfl rfl rfl rfl (by decide) rfl rfl (Nat.le_of_ble_eq_true rfl) (fun z2 σ2 h2 => ?_)
  obtain ⟨rfl, rfl⟩ := h2
  refine r_ifb_eq 35 C dX11_on_5 (by decide) (fun h5 => ?_) (fun h5 => ?_)
  · refine r_aload_n C dX11_on_35 rfl ?_
    refine r_ldc C dX11_on_36 kc_X11_72 ?_
    refine r_cvi (c := 1) C dX11_on_38 mv_X11_68 (c_X11_finding e l _ _) (by decide) rfl rfl rfl rfl (by decide) rfl rfl (Nat.le_of_ble_eq_true rfl) (fun z38 σ38 h38 => ?_)
    obtain ⟨rfl, rfl⟩ := h38
    refine r_iret C dX11_on_41 ?_
    have e1 : oOn w x A = fnd A (-100001) := by unfold oOn; repeat (first | rw [if_pos (by omega)] | rw [if_neg (by omega)])
    exact ⟨_, rfl, by rw [e1]; rfl, by rw [e1]; exact rel_mfnd hR _⟩
  · have wl := wl_m hR hA (w := w) (by omega)
    refine r_iload_n C dX11_on_8 rfl ?_
    refine r_iconst C dX11_on_9 ?_
    refine r_aload_n C dX11_on_10 rfl ?_
    refine r_get_r (c := 1) C dX11_on_11 fl_X11_9 rfl rfl rfl (by decide) rfl ?_
    refine r_bipush C dX11_on_14 ?_
    refine r_aload_n C dX11_on_16 rfl ?_
    refine r_get_r (c := 1) C dX11_on_17 fl_X11_9 rfl rfl rfl (by decide) rfl ?_
    refine r_bipush C dX11_on_20 ?_
    refine r_iload_n C dX11_on_22 rfl ?_
    refine r_iadd C dX11_on_23 ?_
    refine r_iald (c := 1) (N := 365) C dX11_on_24 rfl rfl (by decide) (by omega) ?_
    have b24 := hb 1 0 (28 + w) (by omega) (by omega)
    refine r_v (b := (wdAt A w).1) wl.2.1 ?_
    refine r_iadd C dX11_on_25 ?_
    refine r_iald (c := 1) (N := 365) C dX11_on_26 rfl rfl (by decide) (by omega) ?_
    have b26 := hb 1 0 (16 + ((wdAt A w).1)) (by omega) (by omega)
    refine r_v (b := nA A w) wl.2.2.2.2.2.2.2.2.2.2.1 ?_
    refine r_iconst C dX11_on_27 ?_
    refine r_isub C dX11_on_28 ?_
    refine r_csi C dX11_on_29 ms_X11_60 (c_X11_within e l _ _ _ _ (by omega) (by omega) (by omega)) (by decide) rfl rfl (Nat.le_of_ble_eq_true rfl) (fun z29 σ29 h29 => ?_)
    obtain ⟨rfl, rfl⟩ := h29
    refine r_ifb_ne 42 C dX11_on_32 (by decide) (fun h32 => ?_) (fun h32 => ?_)
    · refine r_aload_n C dX11_on_42 rfl ?_
      refine r_iload_n C dX11_on_43 rfl ?_
      refine r_cvi (c := 1) C dX11_on_44 mv_X11_129 (c_X11_fit e l _ _ A hR hA (by omega)) (by decide) rfl rfl rfl rfl (by decide) rfl rfl (Nat.le_of_ble_eq_true rfl) (fun z44 σ44 h44 => ?_)
      obtain ⟨⟨hR44, f1, f2, f3, f4⟩, -⟩ := h44
      refine r_ldc C dX11_on_47 kc_X11_103 ?_
      refine r_ic_ne 59 C dX11_on_49 (by decide) (by omega) (by omega) (fun h49 => ?_) (fun h49 => ?_)
      · refine r_iconst C dX11_on_59 ?_
        refine r_istore_n C dX11_on_60 rfl rfl (by decide) ?_
        refine r_iconst C dX11_on_61 ?_
        refine r_istore C dX11_on_62 rfl rfl (by decide) ?_
        have e1 : oOn w x A = (onF (fitBL A w).1 (fitBL A w).2 x (wdAt A w).2.2.2.length, A) := by unfold oOn; repeat (first | rw [if_pos (by omega)] | rw [if_neg (by omega)])
        obtain ⟨t1, t2⟩ := f4 (by omega)
        exact lp_X11_on e l σ44 w x A hR44 hA (by omega) (by omega) t1 t2 C ⟨_, rfl, by rw [e1], by rw [e1]; exact hR44⟩ (wdAt A w).2.2.2.length 0 _ (by show (0 : Int) + ((wdAt A w).2.2.2.length : Int) = ((wdAt A w).2.2.2.length : Int); omega) rfl
      · refine r_aload_n C dX11_on_52 rfl ?_
        refine r_ldc C dX11_on_53 kc_X11_67 ?_
        refine r_cvi (c := 1) C dX11_on_55 mv_X11_68 (c_X11_finding e l _ _) (by decide) rfl rfl rfl rfl (by decide) rfl rfl (Nat.le_of_ble_eq_true rfl) (fun z55 σ55 h55 => ?_)
        obtain ⟨rfl, rfl⟩ := h55
        refine r_iret C dX11_on_58 ?_
        have e1 : oOn w x A = fnd A (-100006) := by unfold oOn; repeat (first | rw [if_pos (by omega)] | rw [if_neg (by omega)])
        exact ⟨_, rfl, by rw [e1]; rfl, by rw [e1]; exact rel_mfnd hR44 _⟩
    · refine r_aload_n C dX11_on_35 rfl ?_
      refine r_ldc C dX11_on_36 kc_X11_72 ?_
      refine r_cvi (c := 1) C dX11_on_38 mv_X11_68 (c_X11_finding e l _ _) (by decide) rfl rfl rfl rfl (by decide) rfl rfl (Nat.le_of_ble_eq_true rfl) (fun z38 σ38 h38 => ?_)
      obtain ⟨rfl, rfl⟩ := h38
      refine r_iret C dX11_on_41 ?_
      have e1 : oOn w x A = fnd A (-100001) := by unfold oOn; repeat (first | rw [if_pos (by omega)] | rw [if_neg (by omega)])
      exact ⟨_, rfl, by rw [e1]; rfl, by rw [e1]; exact rel_mfnd hR _⟩
set_option maxRecDepth 20000 in
theorem lp_X11_bestOf {G : qSt → Nat → List (Option qV) → List qV → Prop} {Ret : Option qV → qSt → Prop} (e : qR) (l : Launch) (σ : qSt) (x a d : Int) (A : aSt) (hA : AOk A) (hx : InI x) (ha : InI a) (hd : InI d) (C : Cx (EM e) l RX11 cX11_bestOf 8 (some .int) 9 Ret G) (hN : ∀ σ2, RelM σ2 A → σ2 0 0 12 = (bstA A x a d (cW A.1).length).2 → Ret (some (qi (bstA A x a d (cW A.1).length).1)) σ2) : ∀ (k : Nat) (m : Nat) (σ1 : qSt) (f g : Int) (o6 o7 : Option qV), (m : Int) + (k : Int) = nWd A → RelM σ1 A → (f, g) = bstA A x a d m → σ1 0 0 12 = g → (-1 ≤ f ∧ f < 20) → (-1500000 ≤ g ∧ g ≤ 1500000) → G σ1 11 [some (qr 0 0), some (qi x), some (qi a), some (qi d), some (qi f), some (qi (m : Int)), o6, o7] [] := by
  intro k
  induction k with
  | zero =>
    intro m σ1 f g o6 o7 hm hI hfg hg1 hf hg
    obtain ⟨hb, e0, n0, m0, e1w, n1, m1, e2t, n2, m2, e3l, n3, m3, hk0, hk20⟩ := mF hI hA
    refine r_iload C dX11_bestOf_11 rfl ?_
    refine r_aload_n C dX11_bestOf_13 rfl ?_
    refine r_get_r (c := 1) C dX11_bestOf_14 fl_X11_9 rfl rfl rfl (by decide) rfl ?_
    refine r_iconst C dX11_bestOf_17 ?_
    refine r_iald (c := 1) (N := 365) C dX11_bestOf_18 rfl rfl (by decide) (by omega) ?_
    have b18 := hb 1 0 1 (by omega) (by omega)
    refine r_ic_ge 110 C dX11_bestOf_19 (by decide) (by omega) (by omega) (fun h19 => ?_) (fun h19 => ?_)
    · refine r_iload C dX11_bestOf_110 rfl ?_
      refine r_iret C dX11_bestOf_112 ?_
      have e9 : (cW A.1).length = m := by have q : nWd A = ((cW A.1).length : Int) := rfl; omega
      have e2 := hN σ1 hI (by rw [e9, ← hfg]; exact hg1)
      rw [e9, ← hfg] at e2
      exact e2
    · exfalso; omega
  | succ k ih =>
    intro m σ1 f g o6 o7 hm hI hfg hg1 hf hg
    obtain ⟨hb, e0, n0, m0, e1w, n1, m1, e2t, n2, m2, e3l, n3, m3, hk0, hk20⟩ := mF hI hA
    refine r_iload C dX11_bestOf_11 rfl ?_
    refine r_aload_n C dX11_bestOf_13 rfl ?_
    refine r_get_r (c := 1) C dX11_bestOf_14 fl_X11_9 rfl rfl rfl (by decide) rfl ?_
    refine r_iconst C dX11_bestOf_17 ?_
    refine r_iald (c := 1) (N := 365) C dX11_bestOf_18 rfl rfl (by decide) (by omega) ?_
    have b18 := hb 1 0 1 (by omega) (by omega)
    refine r_ic_ge 110 C dX11_bestOf_19 (by decide) (by omega) (by omega) (fun h19 => ?_) (fun h19 => ?_)
    · exfalso; omega
    · have wm := wd_m hI hA (x := (m : Int)) (by omega)
      refine r_aload_n C dX11_bestOf_22 rfl ?_
      refine r_get_r (c := 1) C dX11_bestOf_23 fl_X11_9 rfl rfl rfl (by decide) rfl ?_
      refine r_bipush C dX11_bestOf_26 ?_
      refine r_iload C dX11_bestOf_28 rfl ?_
      refine r_iadd C dX11_bestOf_30 ?_
      refine r_iald (c := 1) (N := 365) C dX11_bestOf_31 rfl rfl (by decide) (by omega) ?_
      have b31 := hb 1 0 (28 + (m : Int)) (by omega) (by omega)
      refine r_iload_n C dX11_bestOf_32 rfl ?_
      refine r_ic_ne 104 C dX11_bestOf_33 (by decide) (by omega) (by omega) (fun h33 => ?_) (fun h33 => ?_)
      · refine r_iinc C dX11_bestOf_104 rfl rfl rfl (by decide) ?_
        refine r_goto 11 C dX11_bestOf_107 (by decide) ?_
        have eb : bstA A x a d (m + 1) = bstA A x a d m := by simp only [bstA]; rw [if_neg (fun q => by obtain ⟨q1, q2, q3, q4⟩ := q; rw [← hfg] at q4; first | exact hlaw q2 | (have q5 : f < 0 ∨ g < (wdAt A m).2.2.1 - fitT A m 0 0 := q4; omega))]
        exact ih (m + 1) _ _ _ _ _ (by push_cast; omega) hI (by rw [eb]; exact hfg) (by first | exact hg1 | exact hg53) (by omega) (by omega)
      · refine r_aload_n C dX11_bestOf_36 rfl ?_
        refine r_iload C dX11_bestOf_37 rfl ?_
        refine r_iload_n C dX11_bestOf_39 rfl ?_
        refine r_iload_n C dX11_bestOf_40 rfl ?_
        refine r_cvi (c := 1) C dX11_bestOf_41 mv_X11_147 (c_X11_isLawful e l _ _ _ _ A hI hA (by omega) (by omega) (by omega)) (by decide) rfl rfl rfl rfl (by decide) rfl rfl (Nat.le_of_ble_eq_true rfl) (fun z41 σ41 h41 => ?_)
        obtain ⟨rfl, rfl⟩ := h41
        refine r_ifb_ne 50 C dX11_bestOf_44 (by decide) (fun h44 => ?_) (fun h44 => ?_)
        · have hlaw := h44
          refine r_aload_n C dX11_bestOf_50 rfl ?_
          refine r_iload C dX11_bestOf_51 rfl ?_
          refine r_cvi (c := 1) C dX11_bestOf_53 mv_X11_129 (c_X11_fit e l _ _ A hI hA (by omega)) (by decide) rfl rfl rfl rfl (by decide) rfl rfl (Nat.le_of_ble_eq_true rfl) (fun z53 σ53 h53 => ?_)
          obtain ⟨⟨hR53, f1, f2, f3, f4⟩, hk53⟩ := h53
          have wm2 := wd_m hR53 hA (x := (m : Int)) (by omega)
          have hg53 : σ53 0 0 12 = g := by rw [hk53]; exact hg1
          refine r_istore C dX11_bestOf_56 rfl rfl (by decide) ?_
          refine r_aload_n C dX11_bestOf_58 rfl ?_
          refine r_get_r (c := 1) C dX11_bestOf_59 fl_X11_9 rfl rfl rfl (by decide) rfl ?_
          refine r_bipush C dX11_bestOf_62 ?_
          refine r_iload C dX11_bestOf_64 rfl ?_
          refine r_iadd C dX11_bestOf_66 ?_
          refine r_iald (c := 1) (N := 365) C dX11_bestOf_67 rfl rfl (by decide) (by omega) ?_
          have b67 := hR53.1 1 0 (68 + (m : Int)) (by omega) (by omega)
          refine r_iload C dX11_bestOf_68 rfl ?_
          refine r_isub C dX11_bestOf_70 ?_
          refine r_istore C dX11_bestOf_71 rfl rfl (by decide) ?_
          refine r_iload C dX11_bestOf_73 rfl ?_
          refine r_ldc C dX11_bestOf_75 kc_X11_103 ?_
          refine r_ic_ge 104 C dX11_bestOf_77 (by decide) (by omega) (by omega) (fun h77 => ?_) (fun h77 => ?_)
          · refine r_iinc C dX11_bestOf_104 rfl rfl rfl (by decide) ?_
            refine r_goto 11 C dX11_bestOf_107 (by decide) ?_
            have eb : bstA A x a d (m + 1) = bstA A x a d m := by simp only [bstA]; rw [if_neg (fun q => by obtain ⟨q1, q2, q3, q4⟩ := q; rw [← hfg] at q4; first | exact hlaw q2 | (have q5 : f < 0 ∨ g < (wdAt A m).2.2.1 - fitT A m 0 0 := q4; omega))]
            exact ih (m + 1) _ _ _ _ _ (by push_cast; omega) hR53 (by rw [eb]; exact hfg) (by first | exact hg1 | exact hg53) (by omega) (by omega)
          · refine r_iload C dX11_bestOf_80 rfl ?_
            refine r_if_lt 94 C dX11_bestOf_82 (by decide) (by omega) (fun h82 => ?_) (fun h82 => ?_)
            · refine r_iload C dX11_bestOf_94 rfl ?_
              refine r_istore C dX11_bestOf_96 rfl rfl (by decide) ?_
              refine r_aload_n C dX11_bestOf_98 rfl ?_
              refine r_iload C dX11_bestOf_99 rfl ?_
              refine r_put_i (c := 1) 12 C dX11_bestOf_101 fw_X11_150 rfl rfl rfl rfl (by decide) rfl rfl ?_
              refine r_iinc C dX11_bestOf_104 rfl rfl rfl (by decide) ?_
              refine r_goto 11 C dX11_bestOf_107 (by decide) ?_
              have eb : bstA A x a d (m + 1) = ((m : Int), (wdAt A m).2.2.1 - fitT A m 0 0) := by simp only [bstA]; rw [if_pos (by rw [← hfg]; exact ⟨by omega, hlaw, by omega, by show f < 0 ∨ g < _; omega⟩)]
              exact ih (m + 1) _ _ _ _ _ (by push_cast; omega) (rel_mscr hR53 (fun a b c q1 q2 => qUp_ne (by omega)) (hR53.1.up (by omega))) (by rw [eb]; exact Prod.ext rfl (by show _ - _ = _ - _; omega)) (qUp_eq _ _ _ _ _) (by omega) (by omega)
            · refine r_iload C dX11_bestOf_85 rfl ?_
              refine r_aload_n C dX11_bestOf_87 rfl ?_
              refine r_get_i (c := 1) 12 C dX11_bestOf_88 fl_X11_150 rfl rfl rfl rfl (by decide) ?_
              have b88 := hR53.1 0 0 12 (by omega) (by omega)
              refine r_ic_le 104 C dX11_bestOf_91 (by decide) (by omega) (by omega) (fun h91 => ?_) (fun h91 => ?_)
              · refine r_iinc C dX11_bestOf_104 rfl rfl rfl (by decide) ?_
                refine r_goto 11 C dX11_bestOf_107 (by decide) ?_
                have eb : bstA A x a d (m + 1) = bstA A x a d m := by simp only [bstA]; rw [if_neg (fun q => by obtain ⟨q1, q2, q3, q4⟩ := q; rw [← hfg] at q4; first | exact hlaw q2 | (have q5 : f < 0 ∨ g < (wdAt A m).2.2.1 - fitT A m 0 0 := q4; omega))]
                exact ih (m + 1) _ _ _ _ _ (by push_cast; omega) hR53 (by rw [eb]; exact hfg) (by first | exact hg1 | exact hg53) (by omega) (by omega)
              · refine r_iload C dX11_bestOf_94 rfl ?_
                refine r_istore C dX11_bestOf_96 rfl rfl (by decide) ?_
                refine r_aload_n C dX11_bestOf_98 rfl ?_
                refine r_iload C dX11_bestOf_99 rfl ?_
                refine r_put_i (c := 1) 12 C dX11_bestOf_101 fw_X11_150 rfl rfl rfl rfl (by decide) rfl rfl ?_
                refine r_iinc C dX11_bestOf_104 rfl rfl rfl (by decide) ?_
                refine r_goto 11 C dX11_bestOf_107 (by decide) ?_
                have eb : bstA A x a d (m + 1) = ((m : Int), (wdAt A m).2.2.1 - fitT A m 0 0) := by simp only [bstA]; rw [if_pos (by rw [← hfg]; exact ⟨by omega, hlaw, by omega, by show f < 0 ∨ g < _; omega⟩)]
                exact ih (m + 1) _ _ _ _ _ (by push_cast; omega) (rel_mscr hR53 (fun a b c q1 q2 => qUp_ne (by omega)) (hR53.1.up (by omega))) (by rw [eb]; exact Prod.ext rfl (by show _ - _ = _ - _; omega)) (qUp_eq _ _ _ _ _) (by omega) (by omega)
        · have hlaw := h44
          refine r_goto 104 C dX11_bestOf_47 (by decide) ?_
          refine r_iinc C dX11_bestOf_104 rfl rfl rfl (by decide) ?_
          refine r_goto 11 C dX11_bestOf_107 (by decide) ?_
          have eb : bstA A x a d (m + 1) = bstA A x a d m := by simp only [bstA]; rw [if_neg (fun q => by obtain ⟨q1, q2, q3, q4⟩ := q; rw [← hfg] at q4; first | exact hlaw q2 | (have q5 : f < 0 ∨ g < (wdAt A m).2.2.1 - fitT A m 0 0 := q4; omega))]
          exact ih (m + 1) _ _ _ _ _ (by push_cast; omega) hI (by rw [eb]; exact hfg) (by first | exact hg1 | exact hg53) (by omega) (by omega)
set_option maxRecDepth 20000 in
theorem c_X11_bestOf (e : qR) (l : Launch) (σ : qSt) (x a d : Int) (A : aSt) (hR : RelM σ A) (hA : AOk A) (hx : InI x) (ha : InI a) (hd : InI d) : CM (EM e) l yX11_bestOf cX11_bestOf 8 (some .int) 9 [qr 0 0, qi x, qi a, qi d] σ (Ri fun z σ' => z = (bstA A x a d (cW A.1).length).1 ∧ σ' 0 0 12 = (bstA A x a d (cW A.1).length).2 ∧ RelM σ' A) := by
  refine CM.mk tM_ok (by decide +kernel) (Nat.le_of_ble_eq_true rfl) (fun G C => ?_)
  show G σ 0 [some (qr 0 0), some (qi x), some (qi a), some (qi d), none, none, none, none] []
  refine r_iconst C dX11_bestOf_0 ?_
  refine r_istore C dX11_bestOf_1 rfl rfl (by decide) ?_
  refine r_aload_n C dX11_bestOf_3 rfl ?_
  refine r_iconst C dX11_bestOf_4 ?_
  refine r_put_i (c := 1) 12 C dX11_bestOf_5 fw_X11_150 rfl rfl rfl rfl (by decide) rfl rfl ?_
  refine r_iconst C dX11_bestOf_8 ?_
  refine r_istore C dX11_bestOf_9 rfl rfl (by decide) ?_
  exact lp_X11_bestOf e l σ x a d A hA hx ha hd C (fun σ2 h2 h3 => ⟨_, rfl, rfl, h3, h2⟩) (cW A.1).length 0 _ _ _ _ _ (by show (0 : Int) + ((cW A.1).length : Int) = ((cW A.1).length : Int); omega) (rel_mscr hR (fun a b c q1 q2 => qUp_ne (by omega)) (hR.1.up (by omega))) rfl (qUp_eq _ _ _ _ _) (by omega) (by omega)
set_option maxRecDepth 20000 in
theorem m_best (e : qR) (l : Launch) (σ : qSt) (x a d : Int) (A : aSt) (hR : RelM σ A) (hA : AOk A) (h_x : InI x) (h_a : InI a) (h_d : InI d)  : CM (EM e) l yX11_best cX11_best 5 (some .int) 20 [qr 0 0, qi x, qi a, qi d] σ (Ri fun z σ' => z = (oBest x a d A).1 ∧ RelM σ' (oBest x a d A).2) := by
  refine CM.mk tM_ok (by decide +kernel) (Nat.le_of_ble_eq_true rfl) (fun G C => ?_)
  show G σ 0 [some (qr 0 0), some (qi x), some (qi a), some (qi d), none] []
  obtain ⟨hb, e0, n0, m0, e1w, n1, m1, e2t, n2, m2, e3l, n3, m3, hk0, hk20⟩ := mF hR hA
  refine r_aload_n C dX11_best_0 rfl ?_
  refine r_iload_n C dX11_best_1 rfl ?_
  refine r_cvi (c := 1) C dX11_best_2 mv_X11_77 (c_X11_isLine e l _ _ hb (by omega)) (by decide) rfl rfl rfl rfl (by decide) rfl rfl (Nat.le_of_ble_eq_true rfl) (fun z2 σ2 h2 => ?_)
  obtain ⟨rfl, rfl⟩ := h2
  refine r_ifb_eq 22 C dX11_best_5 (by decide) (fun h5 => ?_) (fun h5 => ?_)
  · refine r_aload_n C dX11_best_22 rfl ?_
    refine r_ldc C dX11_best_23 kc_X11_72 ?_
    refine r_cvi (c := 1) C dX11_best_25 mv_X11_68 (c_X11_finding e l _ _) (by decide) rfl rfl rfl rfl (by decide) rfl rfl (Nat.le_of_ble_eq_true rfl) (fun z25 σ25 h25 => ?_)
    obtain ⟨rfl, rfl⟩ := h25
    refine r_iret C dX11_best_28 ?_
    have e1 : oBest x a d A = fnd A (-100001) := by unfold oBest; repeat (first | rw [if_pos (by omega)] | rw [if_neg (by omega)])
    exact ⟨_, rfl, by rw [e1]; rfl, by rw [e1]; exact rel_mfnd hR _⟩
  · refine r_iload_n C dX11_best_8 rfl ?_
    refine r_csi C dX11_best_9 ms_X11_132 (c_X11_isLand e l _ _ (by omega)) (by decide) rfl rfl (Nat.le_of_ble_eq_true rfl) (fun z9 σ9 h9 => ?_)
    obtain ⟨rfl, rfl⟩ := h9
    refine r_ifb_eq 22 C dX11_best_12 (by decide) (fun h12 => ?_) (fun h12 => ?_)
    · refine r_aload_n C dX11_best_22 rfl ?_
      refine r_ldc C dX11_best_23 kc_X11_72 ?_
      refine r_cvi (c := 1) C dX11_best_25 mv_X11_68 (c_X11_finding e l _ _) (by decide) rfl rfl rfl rfl (by decide) rfl rfl (Nat.le_of_ble_eq_true rfl) (fun z25 σ25 h25 => ?_)
      obtain ⟨rfl, rfl⟩ := h25
      refine r_iret C dX11_best_28 ?_
      have e1 : oBest x a d A = fnd A (-100001) := by unfold oBest; repeat (first | rw [if_pos (by omega)] | rw [if_neg (by omega)])
      exact ⟨_, rfl, by rw [e1]; rfl, by rw [e1]; exact rel_mfnd hR _⟩
    · refine r_iload_n C dX11_best_15 rfl ?_
      refine r_csi C dX11_best_16 ms_X11_135 (c_X11_isDay e l _ _ (by omega)) (by decide) rfl rfl (Nat.le_of_ble_eq_true rfl) (fun z16 σ16 h16 => ?_)
      obtain ⟨rfl, rfl⟩ := h16
      refine r_ifb_ne 29 C dX11_best_19 (by decide) (fun h19 => ?_) (fun h19 => ?_)
      · refine r_aload_n C dX11_best_29 rfl ?_
        refine r_iload_n C dX11_best_30 rfl ?_
        refine r_iload_n C dX11_best_31 rfl ?_
        refine r_iload_n C dX11_best_32 rfl ?_
        refine r_cvi (c := 1) C dX11_best_33 mv_X11_153 (c_X11_bestOf e l _ _ _ _ A hR hA (by omega) (by omega) (by omega)) (by decide) rfl rfl rfl rfl (by decide) rfl rfl (Nat.le_of_ble_eq_true rfl) (fun z33 σ33 h33 => ?_)
        obtain ⟨hz33, hw33, hR33⟩ := h33
        have bs := bst_spec A x a d (cW A.1).length
        have bn : ((cW A.1).length : Int) = nWd A := rfl
        have hzr : -1 ≤ z33 ∧ z33 < 20 := by
          rcases bs with q | q
          · rw [hz33, q]; decide
          · omega
        refine r_istore C dX11_best_36 rfl rfl (by decide) ?_
        refine r_iload C dX11_best_38 rfl ?_
        refine r_if_ge 52 C dX11_best_40 (by decide) (by omega) (fun h40 => ?_) (fun h40 => ?_)
        · refine r_iload C dX11_best_52 rfl ?_
          refine r_iret C dX11_best_54 ?_
          first
          | (have e1 : oBest x a d A = fnd A (-100006) := by unfold oBest; repeat (first | rw [if_pos (by omega)] | rw [if_neg (by omega)])
             exact ⟨_, rfl, by rw [e1]; rfl, by rw [e1]; exact rel_mfnd hR33 _⟩)
          | (have e1 : oBest x a d A = ((bstA A x a d (cW A.1).length).1, A) := by unfold oBest; repeat (first | rw [if_pos (by omega)] | rw [if_neg (by omega)])
             exact ⟨_, rfl, by rw [e1]; exact hz33, by rw [e1]; exact hR33⟩)
        · refine r_aload_n C dX11_best_43 rfl ?_
          refine r_ldc C dX11_best_44 kc_X11_67 ?_
          refine r_cvi (c := 1) C dX11_best_46 mv_X11_68 (c_X11_finding e l _ _) (by decide) rfl rfl rfl rfl (by decide) rfl rfl (Nat.le_of_ble_eq_true rfl) (fun z46 σ46 h46 => ?_)
          obtain ⟨rfl, rfl⟩ := h46
          refine r_goto 54 C dX11_best_49 (by decide) ?_
          refine r_iret C dX11_best_54 ?_
          first
          | (have e1 : oBest x a d A = fnd A (-100006) := by unfold oBest; repeat (first | rw [if_pos (by omega)] | rw [if_neg (by omega)])
             exact ⟨_, rfl, by rw [e1]; rfl, by rw [e1]; exact rel_mfnd hR33 _⟩)
          | (have e1 : oBest x a d A = ((bstA A x a d (cW A.1).length).1, A) := by unfold oBest; repeat (first | rw [if_pos (by omega)] | rw [if_neg (by omega)])
             exact ⟨_, rfl, by rw [e1]; exact hz33, by rw [e1]; exact hR33⟩)
      · refine r_aload_n C dX11_best_22 rfl ?_
        refine r_ldc C dX11_best_23 kc_X11_72 ?_
        refine r_cvi (c := 1) C dX11_best_25 mv_X11_68 (c_X11_finding e l _ _) (by decide) rfl rfl rfl rfl (by decide) rfl rfl (Nat.le_of_ble_eq_true rfl) (fun z25 σ25 h25 => ?_)
        obtain ⟨rfl, rfl⟩ := h25
        refine r_iret C dX11_best_28 ?_
        have e1 : oBest x a d A = fnd A (-100001) := by unfold oBest; repeat (first | rw [if_pos (by omega)] | rw [if_neg (by omega)])
        exact ⟨_, rfl, by rw [e1]; rfl, by rw [e1]; exact rel_mfnd hR _⟩
set_option maxRecDepth 20000 in
theorem lp_X11_worth {G : qSt → Nat → List (Option qV) → List qV → Prop} {Ret : Option qV → qSt → Prop} (e : qR) (l : Launch) (σ : qSt) (a d : Int) (A : aSt) (hA : AOk A) (ha : InI a) (hd : InI d) (C : Cx (EM e) l RX11 cX11_worth 6 (some .int) 20 Ret G) (hN : ∀ σ2, RelM σ2 A → Ret (some (qi (wthA A a d (cL A.1).length))) σ2) : ∀ (k : Nat) (m : Nat) (σ1 : qSt) (s : Int) (o5 : Option qV), (m : Int) + (k : Int) = nLn A → RelM σ1 A → s = wthA A a d m → (-3000000 * (m : Int) ≤ s ∧ s ≤ 3000000 * (m : Int)) → G σ1 26 [some (qr 0 0), some (qi a), some (qi d), some (qi s), some (qi (m : Int)), o5] [] := by
  intro k
  induction k with
  | zero =>
    intro m σ1 s o5 hm hI hs hsb
    obtain ⟨hb, e0, n0, m0, e1w, n1, m1, e2t, n2, m2, e3l, n3, m3, hk0, hk20⟩ := mF hI hA
    refine r_iload C dX11_worth_26 rfl ?_
    refine r_aload_n C dX11_worth_28 rfl ?_
    refine r_get_r (c := 1) C dX11_worth_29 fl_X11_9 rfl rfl rfl (by decide) rfl ?_
    refine r_iconst C dX11_worth_32 ?_
    refine r_iald (c := 1) (N := 365) C dX11_worth_33 rfl rfl (by decide) (by omega) ?_
    have b33 := hb 1 0 0 (by omega) (by omega)
    refine r_ic_ge 69 C dX11_worth_34 (by decide) (by omega) (by omega) (fun h34 => ?_) (fun h34 => ?_)
    · refine r_iload_n C dX11_worth_69 rfl ?_
      refine r_iret C dX11_worth_70 ?_
      have e2 := hN σ1 hI
      rw [show (cL A.1).length = m by have : ((cL A.1).length : Int) = nLn A := rfl; omega, ← hs] at e2
      exact e2
    · exfalso; omega
  | succ k ih =>
    intro m σ1 s o5 hm hI hs hsb
    obtain ⟨hb, e0, n0, m0, e1w, n1, m1, e2t, n2, m2, e3l, n3, m3, hk0, hk20⟩ := mF hI hA
    refine r_iload C dX11_worth_26 rfl ?_
    refine r_aload_n C dX11_worth_28 rfl ?_
    refine r_get_r (c := 1) C dX11_worth_29 fl_X11_9 rfl rfl rfl (by decide) rfl ?_
    refine r_iconst C dX11_worth_32 ?_
    refine r_iald (c := 1) (N := 365) C dX11_worth_33 rfl rfl (by decide) (by omega) ?_
    have b33 := hb 1 0 0 (by omega) (by omega)
    refine r_ic_ge 69 C dX11_worth_34 (by decide) (by omega) (by omega) (fun h34 => ?_) (fun h34 => ?_)
    · exfalso; omega
    · refine r_aload_n C dX11_worth_37 rfl ?_
      refine r_iload C dX11_worth_38 rfl ?_
      refine r_iload_n C dX11_worth_40 rfl ?_
      refine r_iload_n C dX11_worth_41 rfl ?_
      refine r_cvi (c := 1) C dX11_worth_42 mv_X11_153 (c_X11_bestOf e l _ _ _ _ A hI hA (by omega) (by omega) (by omega)) (by decide) rfl rfl rfl rfl (by decide) rfl rfl (Nat.le_of_ble_eq_true rfl) (fun z42 σ42 h42 => ?_)
      obtain ⟨hz42, hw42, hR42⟩ := h42
      have bs := bst_spec A m a d (cW A.1).length
      have bn : ((cW A.1).length : Int) = nWd A := rfl
      have hzr : -1 ≤ z42 ∧ z42 < 20 := by
        rcases bs with q | q
        · rw [hz42, q]; decide
        · omega
      refine r_istore C dX11_worth_45 rfl rfl (by decide) ?_
      refine r_iload_n C dX11_worth_47 rfl ?_
      refine r_iload C dX11_worth_48 rfl ?_
      refine r_if_ge 57 C dX11_worth_50 (by decide) (by omega) (fun h50 => ?_) (fun h50 => ?_)
      · refine r_aload_n C dX11_worth_57 rfl ?_
        refine r_get_i (c := 1) 12 C dX11_worth_58 fl_X11_150 rfl rfl rfl rfl (by decide) ?_
        have b58 := hR42.1 0 0 12 (by omega) (by omega)
        refine r_iadd C dX11_worth_61 ?_
        refine r_istore_n C dX11_worth_62 rfl rfl (by decide) ?_
        refine r_iinc C dX11_worth_63 rfl rfl rfl (by decide) ?_
        refine r_goto 26 C dX11_worth_66 (by decide) ?_
        have eb : wthA A a d (m + 1) = wthA A a d m + (if (bstA A m a d (cW A.1).length).1 < 0 then 0 else (bstA A m a d (cW A.1).length).2) := rfl
        first
        | (rw [if_neg (by omega)] at eb; have bw := hR42.1 0 0 12 (by omega) (by omega); exact ih (m + 1) _ _ _ (by push_cast; omega) hR42 (by omega) (by push_cast; omega))
        | (rw [if_pos (by omega)] at eb; exact ih (m + 1) _ _ _ (by push_cast; omega) hR42 (by omega) (by push_cast; omega))
      · refine r_iconst C dX11_worth_53 ?_
        refine r_goto 61 C dX11_worth_54 (by decide) ?_
        refine r_iadd C dX11_worth_61 ?_
        refine r_istore_n C dX11_worth_62 rfl rfl (by decide) ?_
        refine r_iinc C dX11_worth_63 rfl rfl rfl (by decide) ?_
        refine r_goto 26 C dX11_worth_66 (by decide) ?_
        have eb : wthA A a d (m + 1) = wthA A a d m + (if (bstA A m a d (cW A.1).length).1 < 0 then 0 else (bstA A m a d (cW A.1).length).2) := rfl
        first
        | (rw [if_neg (by omega)] at eb; have bw := hR42.1 0 0 12 (by omega) (by omega); exact ih (m + 1) _ _ _ (by push_cast; omega) hR42 (by omega) (by push_cast; omega))
        | (rw [if_pos (by omega)] at eb; exact ih (m + 1) _ _ _ (by push_cast; omega) hR42 (by omega) (by push_cast; omega))
set_option maxRecDepth 20000 in
theorem m_worth (e : qR) (l : Launch) (σ : qSt) (a d : Int) (A : aSt) (hR : RelM σ A) (hA : AOk A) (h_a : InI a) (h_d : InI d)  : CM (EM e) l yX11_worth cX11_worth 6 (some .int) 20 [qr 0 0, qi a, qi d] σ (Ri fun z σ' => z = (oWorth a d A).1 ∧ RelM σ' (oWorth a d A).2) := by
  refine CM.mk tM_ok (by decide +kernel) (Nat.le_of_ble_eq_true rfl) (fun G C => ?_)
  show G σ 0 [some (qr 0 0), some (qi a), some (qi d), none, none, none] []
  obtain ⟨hb, e0, n0, m0, e1w, n1, m1, e2t, n2, m2, e3l, n3, m3, hk0, hk20⟩ := mF hR hA
  refine r_iload_n C dX11_worth_0 rfl ?_
  refine r_csi C dX11_worth_1 ms_X11_132 (c_X11_isLand e l _ _ (by omega)) (by decide) rfl rfl (Nat.le_of_ble_eq_true rfl) (fun z1 σ1 h1 => ?_)
  obtain ⟨rfl, rfl⟩ := h1
  refine r_ifb_eq 14 C dX11_worth_4 (by decide) (fun h4 => ?_) (fun h4 => ?_)
  · refine r_aload_n C dX11_worth_14 rfl ?_
    refine r_ldc C dX11_worth_15 kc_X11_72 ?_
    refine r_cvi (c := 1) C dX11_worth_17 mv_X11_68 (c_X11_finding e l _ _) (by decide) rfl rfl rfl rfl (by decide) rfl rfl (Nat.le_of_ble_eq_true rfl) (fun z17 σ17 h17 => ?_)
    obtain ⟨rfl, rfl⟩ := h17
    refine r_iret C dX11_worth_20 ?_
    have e1 : oWorth a d A = fnd A (-100001) := by unfold oWorth; repeat (first | rw [if_pos (by omega)] | rw [if_neg (by omega)])
    exact ⟨_, rfl, by rw [e1]; rfl, by rw [e1]; exact rel_mfnd hR _⟩
  · refine r_iload_n C dX11_worth_7 rfl ?_
    refine r_csi C dX11_worth_8 ms_X11_135 (c_X11_isDay e l _ _ (by omega)) (by decide) rfl rfl (Nat.le_of_ble_eq_true rfl) (fun z8 σ8 h8 => ?_)
    obtain ⟨rfl, rfl⟩ := h8
    refine r_ifb_ne 21 C dX11_worth_11 (by decide) (fun h11 => ?_) (fun h11 => ?_)
    · refine r_iconst C dX11_worth_21 ?_
      refine r_istore_n C dX11_worth_22 rfl rfl (by decide) ?_
      refine r_iconst C dX11_worth_23 ?_
      refine r_istore C dX11_worth_24 rfl rfl (by decide) ?_
      have e1 : oWorth a d A = (wthA A a d (cL A.1).length, A) := by unfold oWorth; repeat (first | rw [if_pos (by omega)] | rw [if_neg (by omega)])
      exact lp_X11_worth e l σ a d A hA (by omega) (by omega) C (fun σ2 h2 => ⟨_, rfl, by rw [e1], by rw [e1]; exact h2⟩) (cL A.1).length 0 _ _ _ (by show (0 : Int) + ((cL A.1).length : Int) = ((cL A.1).length : Int); omega) hR rfl (by omega)
    · refine r_aload_n C dX11_worth_14 rfl ?_
      refine r_ldc C dX11_worth_15 kc_X11_72 ?_
      refine r_cvi (c := 1) C dX11_worth_17 mv_X11_68 (c_X11_finding e l _ _) (by decide) rfl rfl rfl rfl (by decide) rfl rfl (Nat.le_of_ble_eq_true rfl) (fun z17 σ17 h17 => ?_)
      obtain ⟨rfl, rfl⟩ := h17
      refine r_iret C dX11_worth_20 ?_
      have e1 : oWorth a d A = fnd A (-100001) := by unfold oWorth; repeat (first | rw [if_pos (by omega)] | rw [if_neg (by omega)])
      exact ⟨_, rfl, by rw [e1]; rfl, by rw [e1]; exact rel_mfnd hR _⟩
