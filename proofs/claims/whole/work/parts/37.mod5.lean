set_option maxRecDepth 20000 in
theorem m_syllable (e : qR) (l : Launch) (σ : qSt) (w s0 s1 s2 s3 : Int) (A : aSt) (hR : RelM σ A) (hA : AOk A) (h_w : InI w) (h_s0 : InI s0) (h_s1 : InI s1) (h_s2 : InI s2) (h_s3 : InI s3)  : CM (EM e) l yX11_syllable cX11_syllable 7 (some .int) 20 [qr 0 0, qi w, qi s0, qi s1, qi s2, qi s3] σ (Ri fun z σ' => z = (oSyllable w s0 s1 s2 s3 A).1 ∧ RelM σ' (oSyllable w s0 s1 s2 s3 A).2) := by
  refine CM.mk tM_ok (by decide +kernel) (Nat.le_of_ble_eq_true rfl) (fun G C => ?_)
  show G σ 0 [some (qr 0 0), some (qi w), some (qi s0), some (qi s1), some (qi s2), some (qi s3), none] []
  obtain ⟨hb, e0, n0, m0, e1w, n1, m1, e2t, n2, m2, e3l, n3, m3, hk0, hk20⟩ := mF hR hA
  refine r_aload_n C dX11_syllable_0 rfl ?_
  refine r_iload_n C dX11_syllable_1 rfl ?_
  refine r_cvi (c := 1) C dX11_syllable_2 mv_X11_85 (c_X11_isWording e l _ _ hb (by omega)) (by decide) rfl rfl rfl rfl (by decide) rfl rfl (Nat.le_of_ble_eq_true rfl) (fun z2 σ2 h2 => ?_)
  obtain ⟨rfl, rfl⟩ := h2
  refine r_ifb_eq 46 C dX11_syllable_5 (by decide) (fun h5 => ?_) (fun h5 => ?_)
  · refine r_aload_n C dX11_syllable_46 rfl ?_
    refine r_ldc C dX11_syllable_47 kc_X11_72 ?_
    refine r_cvi (c := 1) C dX11_syllable_49 mv_X11_68 (c_X11_finding e l _ _) (by decide) rfl rfl rfl rfl (by decide) rfl rfl (Nat.le_of_ble_eq_true rfl) (fun z49 σ49 h49 => ?_)
    obtain ⟨rfl, rfl⟩ := h49
    refine r_iret C dX11_syllable_52 ?_
    have e1 : oSyllable w s0 s1 s2 s3 A = fnd A (-100001) := by unfold oSyllable; repeat (first | rw [if_pos (by omega)] | rw [if_neg (by omega)])
    exact ⟨_, rfl, by rw [e1]; rfl, by rw [e1]; exact rel_mfnd hR _⟩
  · refine r_iload_n C dX11_syllable_8 rfl ?_
    refine r_iconst C dX11_syllable_9 ?_
    refine r_iconst C dX11_syllable_10 ?_
    refine r_csi C dX11_syllable_11 ms_X11_60 (c_X11_within e l _ _ _ _ (by omega) (by omega) (by omega)) (by decide) rfl rfl (Nat.le_of_ble_eq_true rfl) (fun z11 σ11 h11 => ?_)
    obtain ⟨rfl, rfl⟩ := h11
    refine r_ifb_eq 46 C dX11_syllable_14 (by decide) (fun h14 => ?_) (fun h14 => ?_)
    · refine r_aload_n C dX11_syllable_46 rfl ?_
      refine r_ldc C dX11_syllable_47 kc_X11_72 ?_
      refine r_cvi (c := 1) C dX11_syllable_49 mv_X11_68 (c_X11_finding e l _ _) (by decide) rfl rfl rfl rfl (by decide) rfl rfl (Nat.le_of_ble_eq_true rfl) (fun z49 σ49 h49 => ?_)
      obtain ⟨rfl, rfl⟩ := h49
      refine r_iret C dX11_syllable_52 ?_
      have e1 : oSyllable w s0 s1 s2 s3 A = fnd A (-100001) := by unfold oSyllable; repeat (first | rw [if_pos (by omega)] | rw [if_neg (by omega)])
      exact ⟨_, rfl, by rw [e1]; rfl, by rw [e1]; exact rel_mfnd hR _⟩
    · refine r_iload_n C dX11_syllable_17 rfl ?_
      refine r_iconst C dX11_syllable_18 ?_
      refine r_bipush C dX11_syllable_19 ?_
      refine r_csi C dX11_syllable_21 ms_X11_60 (c_X11_within e l _ _ _ _ (by omega) (by omega) (by omega)) (by decide) rfl rfl (Nat.le_of_ble_eq_true rfl) (fun z21 σ21 h21 => ?_)
      obtain ⟨rfl, rfl⟩ := h21
      refine r_ifb_eq 46 C dX11_syllable_24 (by decide) (fun h24 => ?_) (fun h24 => ?_)
      · refine r_aload_n C dX11_syllable_46 rfl ?_
        refine r_ldc C dX11_syllable_47 kc_X11_72 ?_
        refine r_cvi (c := 1) C dX11_syllable_49 mv_X11_68 (c_X11_finding e l _ _) (by decide) rfl rfl rfl rfl (by decide) rfl rfl (Nat.le_of_ble_eq_true rfl) (fun z49 σ49 h49 => ?_)
        obtain ⟨rfl, rfl⟩ := h49
        refine r_iret C dX11_syllable_52 ?_
        have e1 : oSyllable w s0 s1 s2 s3 A = fnd A (-100001) := by unfold oSyllable; repeat (first | rw [if_pos (by omega)] | rw [if_neg (by omega)])
        exact ⟨_, rfl, by rw [e1]; rfl, by rw [e1]; exact rel_mfnd hR _⟩
      · refine r_iload C dX11_syllable_27 rfl ?_
        refine r_iconst C dX11_syllable_29 ?_
        refine r_bipush C dX11_syllable_30 ?_
        refine r_csi C dX11_syllable_32 ms_X11_60 (c_X11_within e l _ _ _ _ (by omega) (by omega) (by omega)) (by decide) rfl rfl (Nat.le_of_ble_eq_true rfl) (fun z32 σ32 h32 => ?_)
        obtain ⟨rfl, rfl⟩ := h32
        refine r_ifb_eq 46 C dX11_syllable_35 (by decide) (fun h35 => ?_) (fun h35 => ?_)
        · refine r_aload_n C dX11_syllable_46 rfl ?_
          refine r_ldc C dX11_syllable_47 kc_X11_72 ?_
          refine r_cvi (c := 1) C dX11_syllable_49 mv_X11_68 (c_X11_finding e l _ _) (by decide) rfl rfl rfl rfl (by decide) rfl rfl (Nat.le_of_ble_eq_true rfl) (fun z49 σ49 h49 => ?_)
          obtain ⟨rfl, rfl⟩ := h49
          refine r_iret C dX11_syllable_52 ?_
          have e1 : oSyllable w s0 s1 s2 s3 A = fnd A (-100001) := by unfold oSyllable; repeat (first | rw [if_pos (by omega)] | rw [if_neg (by omega)])
          exact ⟨_, rfl, by rw [e1]; rfl, by rw [e1]; exact rel_mfnd hR _⟩
        · refine r_iload C dX11_syllable_38 rfl ?_
          refine r_csi C dX11_syllable_40 ms_X11_89 (c_X11_isWord e l _ _ (by omega)) (by decide) rfl rfl (Nat.le_of_ble_eq_true rfl) (fun z40 σ40 h40 => ?_)
          obtain ⟨rfl, rfl⟩ := h40
          refine r_ifb_ne 53 C dX11_syllable_43 (by decide) (fun h43 => ?_) (fun h43 => ?_)
          · refine r_iload_n C dX11_syllable_53 rfl ?_
            refine r_iload C dX11_syllable_54 rfl ?_
            refine r_ic_le 66 C dX11_syllable_56 (by decide) (by omega) (by omega) (fun h56 => ?_) (fun h56 => ?_)
            · have wm := wd_m hR hA (x := w) (by omega)
              refine r_aload_n C dX11_syllable_66 rfl ?_
              refine r_get_r (c := 1) C dX11_syllable_67 fl_X11_9 rfl rfl rfl (by decide) rfl ?_
              refine r_bipush C dX11_syllable_70 ?_
              refine r_iload_n C dX11_syllable_72 rfl ?_
              refine r_iadd C dX11_syllable_73 ?_
              refine r_iald (c := 1) (N := 365) C dX11_syllable_74 rfl rfl (by decide) (by omega) ?_
              have b74 := hb 1 0 (88 + w) (by omega) (by omega)
              refine r_istore C dX11_syllable_75 rfl rfl (by decide) ?_
              refine r_iload C dX11_syllable_77 rfl ?_
              refine r_bipush C dX11_syllable_79 ?_
              refine r_ic_ne 91 C dX11_syllable_81 (by decide) (by omega) (by omega) (fun h81 => ?_) (fun h81 => ?_)
              · refine r_aload_n C dX11_syllable_91 rfl ?_
                refine r_cvv (c := 1) C dX11_syllable_92 mv_X11_74 (c_X11_keep e l _ (by omega)) (by decide) rfl rfl rfl rfl (by decide) rfl rfl (Nat.le_of_ble_eq_true rfl) (fun σ92 h92 => ?_)
                have hk := kp_of (σ := σ) (by omega)
                rw [← h92] at hk
                have hbk : Bm σ92 := hk.2.2.2.2.2.2.1 hb
                have hlk : Bl σ92 := hk.2.2.2.2.2.2.2 hR.2.1
                have ek : ∀ j, σ92 1 0 j = σ 1 0 j := fun j => hk.1 _ _ _ (by omega) (by omega) (by omega)
                have ek2 : ∀ j, σ92 2 0 j = σ 2 0 j := fun j => hk.1 _ _ _ (by omega) (by omega) (by omega)
                have sya : ∀ (f' : Int → Int), (∀ j, j ≠ 88 + w ∧ j ≠ 108 + 8 * w + σ 1 0 (88 + w) → f' j = σ 1 0 j) → f' (108 + 8 * w + σ 1 0 (88 + w)) = s0 + s1 * 4 + s2 * 32 + s3 * 256 → ∀ (j : Nat) (t : aSy), ((wdAt A w).2.2.2 ++ [(s0, s1, s2, s3)])[j]? = some t → f' (108 + 8 * w + j) = pkS t := by
                  intro f' h1 h2 j t ht
                  rcases app_get ht with q | ⟨q1, q2⟩
                  · have hj := lt_of_get q
                    rw [h1 _ (by omega), (wm.2.2.2.2.2.2.2.2.2.2.2 j (by omega) (by omega)).1]
                    show pkS ((wdAt A w).2.2.2.getD j (0, 0, 0, 0)) = _
                    rw [getD_some q]
                  · rw [show ((j : Nat) : Int) = σ 1 0 (88 + w) by omega, h2, q2]
                    show _ = s0 + 4 * s1 + 32 * s2 + 256 * s3
                    omega
                refine r_aload_n C dX11_syllable_95 rfl ?_
                refine r_get_r (c := 1) C dX11_syllable_96 fl_X11_9 rfl rfl rfl (by decide) rfl ?_
                refine r_bipush C dX11_syllable_99 ?_
                refine r_bipush C dX11_syllable_101 ?_
                refine r_iload_n C dX11_syllable_103 rfl ?_
                refine r_imul C dX11_syllable_104 ?_
                refine r_iadd C dX11_syllable_105 ?_
                refine r_iload C dX11_syllable_106 rfl ?_
                refine r_iadd C dX11_syllable_108 ?_
                refine r_iload_n C dX11_syllable_109 rfl ?_
                refine r_iload_n C dX11_syllable_110 rfl ?_
                refine r_iconst C dX11_syllable_111 ?_
                refine r_ishl (s1 * 4) C dX11_syllable_112 (z_shlP s1 2 4 rfl (by omega) (by omega)) ?_
                refine r_ior (s0 + s1 * 4) C dX11_syllable_113 (z_orP s0 s1 2 4 rfl (by omega) (by omega)) ?_
                refine r_iload C dX11_syllable_114 rfl ?_
                refine r_iconst C dX11_syllable_116 ?_
                refine r_ishl (s2 * 32) C dX11_syllable_117 (z_shlP s2 5 32 rfl (by omega) (by omega)) ?_
                refine r_ior (s0 + s1 * 4 + s2 * 32) C dX11_syllable_118 (z_orP _ s2 5 32 rfl (by omega) (by omega)) ?_
                refine r_iload C dX11_syllable_119 rfl ?_
                refine r_bipush C dX11_syllable_121 ?_
                refine r_ishl (s3 * 256) C dX11_syllable_123 (z_shlP s3 8 256 rfl (by omega) (by omega)) ?_
                refine r_ior (s0 + s1 * 4 + s2 * 32 + s3 * 256) C dX11_syllable_124 (z_orP _ s3 8 256 rfl (by omega) (by omega)) ?_
                refine r_iast (c := 1) (N := 365) C dX11_syllable_125 rfl rfl (by decide) (by omega) ?_
                refine r_aload_n C dX11_syllable_126 rfl ?_
                refine r_get_r (c := 1) C dX11_syllable_127 fl_X11_9 rfl rfl rfl (by decide) rfl ?_
                refine r_bipush C dX11_syllable_130 ?_
                refine r_iload_n C dX11_syllable_132 rfl ?_
                refine r_iadd C dX11_syllable_133 ?_
                refine r_dup2 C dX11_syllable_134 ?_
                refine r_iald (c := 1) (N := 365) C dX11_syllable_135 rfl rfl (by decide) (by omega) ?_
                refine r_v (b := (σ 1 0 (88 + w))) (by (repeat rw [qUp_ne (by omega)]); exact ek _) ?_
                refine r_iconst C dX11_syllable_136 ?_
                refine r_iadd C dX11_syllable_137 ?_
                refine r_iast (c := 1) (N := 365) C dX11_syllable_138 rfl rfl (by decide) (by omega) ?_
                refine r_iload C dX11_syllable_139 rfl ?_
                refine r_iconst C dX11_syllable_141 ?_
                refine r_iadd C dX11_syllable_142 ?_
                refine r_iret C dX11_syllable_143 ?_
                have e1 : oSyllable w s0 s1 s2 s3 A = (((wdAt A w).2.2.2.length : Int) + 1, psh A (3, w, 0, []) (sW A.1 (mdf (fun y => (y.1, y.2.1, y.2.2.1, y.2.2.2 ++ [(s0, s1, s2, s3)])) (cW A.1) w.toNat))) := by unfold oSyllable; repeat (first | rw [if_pos (by omega)] | rw [if_neg (by omega)])
                exact ⟨_, rfl, by rw [e1] <;> (try (show _ = _; omega)), by rw [e1]; exact rel_mpsh hR hA hk (fun x b z q1 q2 => by (repeat rw [qUp_ne (by omega)])) (by (repeat (first | refine Bm.ul ?_ (by omega) | refine Bm.up ?_ (by omega))); exact hbk) (by (repeat (first | refine Bl.up ?_ (by omega) | refine Bl.ul ?_ (by omega))); exact hlk) (RN_syl hR.2.2.1 hA.1 (by omega) (wd_get (by omega)) ⟨rfl, rfl, rfl⟩ (by rw [qUp_eq]; show _ = (((wdAt A w).2.2.2 ++ [(s0, s1, s2, s3)]).length : Int); rw [List.length_append, List.length_singleton]; push_cast; omega) (fun j q => by (repeat rw [qUp_ne (by omega)]); exact ek j) (sya _ (fun j q => by (repeat rw [qUp_ne (by omega)]); exact ek j) (by (repeat (first | rw [qUp_eq] | rw [qUp_ne (by omega)])))) (fun j => by (repeat rw [qUp_ne (by omega)]); exact ek2 j)) (un_syl A w s0 s1 s2 s3)⟩
              · refine r_aload_n C dX11_syllable_84 rfl ?_
                refine r_ldc C dX11_syllable_85 kc_X11_73 ?_
                refine r_cvi (c := 1) C dX11_syllable_87 mv_X11_68 (c_X11_finding e l _ _) (by decide) rfl rfl rfl rfl (by decide) rfl rfl (Nat.le_of_ble_eq_true rfl) (fun z87 σ87 h87 => ?_)
                obtain ⟨rfl, rfl⟩ := h87
                refine r_iret C dX11_syllable_90 ?_
                have e1 : oSyllable w s0 s1 s2 s3 A = fnd A (-100005) := by unfold oSyllable; repeat (first | rw [if_pos (by omega)] | rw [if_neg (by omega)])
                exact ⟨_, rfl, by rw [e1]; rfl, by rw [e1]; exact rel_mfnd hR _⟩
            · refine r_aload_n C dX11_syllable_59 rfl ?_
              refine r_ldc C dX11_syllable_60 kc_X11_92 ?_
              refine r_cvi (c := 1) C dX11_syllable_62 mv_X11_68 (c_X11_finding e l _ _) (by decide) rfl rfl rfl rfl (by decide) rfl rfl (Nat.le_of_ble_eq_true rfl) (fun z62 σ62 h62 => ?_)
              obtain ⟨rfl, rfl⟩ := h62
              refine r_iret C dX11_syllable_65 ?_
              have e1 : oSyllable w s0 s1 s2 s3 A = fnd A (-100003) := by unfold oSyllable; repeat (first | rw [if_pos (by omega)] | rw [if_neg (by omega)])
              exact ⟨_, rfl, by rw [e1]; rfl, by rw [e1]; exact rel_mfnd hR _⟩
          · refine r_aload_n C dX11_syllable_46 rfl ?_
            refine r_ldc C dX11_syllable_47 kc_X11_72 ?_
            refine r_cvi (c := 1) C dX11_syllable_49 mv_X11_68 (c_X11_finding e l _ _) (by decide) rfl rfl rfl rfl (by decide) rfl rfl (Nat.le_of_ble_eq_true rfl) (fun z49 σ49 h49 => ?_)
            obtain ⟨rfl, rfl⟩ := h49
            refine r_iret C dX11_syllable_52 ?_
            have e1 : oSyllable w s0 s1 s2 s3 A = fnd A (-100001) := by unfold oSyllable; repeat (first | rw [if_pos (by omega)] | rw [if_neg (by omega)])
            exact ⟨_, rfl, by rw [e1]; rfl, by rw [e1]; exact rel_mfnd hR _⟩
set_option maxRecDepth 20000 in
theorem m_cut (e : qR) (l : Launch) (σ : qSt) (w : Int) (A : aSt) (hR : RelM σ A) (hA : AOk A) (h_w : InI w)  : CM (EM e) l yX11_cut cX11_cut 2 (some .int) 20 [qr 0 0, qi w] σ (Ri fun z σ' => z = (oCut w A).1 ∧ RelM σ' (oCut w A).2) := by
  refine CM.mk tM_ok (by decide +kernel) (Nat.le_of_ble_eq_true rfl) (fun G C => ?_)
  show G σ 0 [some (qr 0 0), some (qi w)] []
  obtain ⟨hb, e0, n0, m0, e1w, n1, m1, e2t, n2, m2, e3l, n3, m3, hk0, hk20⟩ := mF hR hA
  refine r_aload_n C dX11_cut_0 rfl ?_
  refine r_iload_n C dX11_cut_1 rfl ?_
  refine r_cvi (c := 1) C dX11_cut_2 mv_X11_85 (c_X11_isWording e l _ _ hb (by omega)) (by decide) rfl rfl rfl rfl (by decide) rfl rfl (Nat.le_of_ble_eq_true rfl) (fun z2 σ2 h2 => ?_)
  obtain ⟨rfl, rfl⟩ := h2
  refine r_ifb_ne 15 C dX11_cut_5 (by decide) (fun h5 => ?_) (fun h5 => ?_)
  · have wm := wd_m hR hA (x := w) (by omega)
    refine r_aload_n C dX11_cut_15 rfl ?_
    refine r_get_r (c := 1) C dX11_cut_16 fl_X11_9 rfl rfl rfl (by decide) rfl ?_
    refine r_bipush C dX11_cut_19 ?_
    refine r_iload_n C dX11_cut_21 rfl ?_
    refine r_iadd C dX11_cut_22 ?_
    refine r_iald (c := 1) (N := 365) C dX11_cut_23 rfl rfl (by decide) (by omega) ?_
    have b23 := hb 1 0 (88 + w) (by omega) (by omega)
    refine r_if_ne 34 C dX11_cut_24 (by decide) (by omega) (fun h24 => ?_) (fun h24 => ?_)
    · refine r_aload_n C dX11_cut_34 rfl ?_
      refine r_cvv (c := 1) C dX11_cut_35 mv_X11_74 (c_X11_keep e l _ (by omega)) (by decide) rfl rfl rfl rfl (by decide) rfl rfl (Nat.le_of_ble_eq_true rfl) (fun σ35 h35 => ?_)
      have hk := kp_of (σ := σ) (by omega)
      rw [← h35] at hk
      have hbk : Bm σ35 := hk.2.2.2.2.2.2.1 hb
      have hlk : Bl σ35 := hk.2.2.2.2.2.2.2 hR.2.1
      have ek : ∀ j, σ35 1 0 j = σ 1 0 j := fun j => hk.1 _ _ _ (by omega) (by omega) (by omega)
      have ek2 : ∀ j, σ35 2 0 j = σ 2 0 j := fun j => hk.1 _ _ _ (by omega) (by omega) (by omega)
      refine r_aload_n C dX11_cut_38 rfl ?_
      refine r_get_r (c := 1) C dX11_cut_39 fl_X11_9 rfl rfl rfl (by decide) rfl ?_
      refine r_bipush C dX11_cut_42 ?_
      refine r_iload_n C dX11_cut_44 rfl ?_
      refine r_iadd C dX11_cut_45 ?_
      refine r_dup2 C dX11_cut_46 ?_
      refine r_iald (c := 1) (N := 365) C dX11_cut_47 rfl rfl (by decide) (by omega) ?_
      have b47 := hbk 1 0 (88 + w) (by omega) (by omega)
      refine r_v (b := (σ 1 0 (88 + w))) (by (repeat rw [qUp_ne (by omega)]); exact ek _) ?_
      refine r_iconst C dX11_cut_48 ?_
      refine r_isub C dX11_cut_49 ?_
      refine r_iast (c := 1) (N := 365) C dX11_cut_50 rfl rfl (by decide) (by omega) ?_
      refine r_aload_n C dX11_cut_51 rfl ?_
      refine r_get_r (c := 1) C dX11_cut_52 fl_X11_9 rfl rfl rfl (by decide) rfl ?_
      refine r_bipush C dX11_cut_55 ?_
      refine r_iload_n C dX11_cut_57 rfl ?_
      refine r_iadd C dX11_cut_58 ?_
      refine r_iald (c := 1) (N := 365) C dX11_cut_59 rfl rfl (by decide) (by omega) ?_
      refine r_v (b := ((σ 1 0 (88 + w)) - 1)) (by simp [qUp, qCpy]) ?_
      refine r_iret C dX11_cut_60 ?_
      have e1 : oCut w A = (((wdAt A w).2.2.2.length : Int) - 1, psh A (4, w, 0, lastSy (wdAt A w)) (sW A.1 (mdf (fun y => (y.1, y.2.1, y.2.2.1, y.2.2.2.dropLast)) (cW A.1) w.toNat))) := by unfold oCut; repeat (first | rw [if_pos (by omega)] | rw [if_neg (by omega)])
      exact ⟨_, rfl, by rw [e1] <;> (try (show _ = _; omega)), by rw [e1]; exact rel_mpsh hR hA hk (fun x b z q1 q2 => by (repeat rw [qUp_ne (by omega)])) (by (repeat (first | refine Bm.ul ?_ (by omega) | refine Bm.up ?_ (by omega))); exact hbk) (by (repeat (first | refine Bl.up ?_ (by omega) | refine Bl.ul ?_ (by omega))); exact hlk) (RN_syl hR.2.2.1 hA.1 (by omega) (wd_get (by omega)) ⟨rfl, rfl, rfl⟩ (by rw [qUp_eq]; show _ = ((wdAt A w).2.2.2.dropLast.length : Int); rw [List.length_dropLast]; omega) (fun j q => by (repeat rw [qUp_ne (by omega)]); exact ek j) (fun j t ht => by have q := drop_get ht; have hj := lt_of_get q; rw [qUp_ne (by omega), ek, (wm.2.2.2.2.2.2.2.2.2.2.2 j (by omega) (by omega)).1]; show pkS ((wdAt A w).2.2.2.getD j (0, 0, 0, 0)) = _; rw [getD_some q]) (fun j => by (repeat rw [qUp_ne (by omega)]); exact ek2 j)) (un_cut (by omega) (by omega))⟩
    · refine r_aload_n C dX11_cut_27 rfl ?_
      refine r_ldc C dX11_cut_28 kc_X11_67 ?_
      refine r_cvi (c := 1) C dX11_cut_30 mv_X11_68 (c_X11_finding e l _ _) (by decide) rfl rfl rfl rfl (by decide) rfl rfl (Nat.le_of_ble_eq_true rfl) (fun z30 σ30 h30 => ?_)
      obtain ⟨rfl, rfl⟩ := h30
      refine r_iret C dX11_cut_33 ?_
      have e1 : oCut w A = fnd A (-100006) := by unfold oCut; repeat (first | rw [if_pos (by omega)] | rw [if_neg (by omega)])
      exact ⟨_, rfl, by rw [e1]; rfl, by rw [e1]; exact rel_mfnd hR _⟩
  · refine r_aload_n C dX11_cut_8 rfl ?_
    refine r_ldc C dX11_cut_9 kc_X11_72 ?_
    refine r_cvi (c := 1) C dX11_cut_11 mv_X11_68 (c_X11_finding e l _ _) (by decide) rfl rfl rfl rfl (by decide) rfl rfl (Nat.le_of_ble_eq_true rfl) (fun z11 σ11 h11 => ?_)
    obtain ⟨rfl, rfl⟩ := h11
    refine r_iret C dX11_cut_14 ?_
    have e1 : oCut w A = fnd A (-100001) := by unfold oCut; repeat (first | rw [if_pos (by omega)] | rw [if_neg (by omega)])
    exact ⟨_, rfl, by rw [e1]; rfl, by rw [e1]; exact rel_mfnd hR _⟩
set_option maxRecDepth 20000 in
theorem m_of (e : qR) (l : Launch) (σ : qSt) (w k : Int) (A : aSt) (hR : RelM σ A) (hA : AOk A) (h_w : InI w) (h_k : InI k) : CM (EM e) l yX11_of cX11_of 3 (some .int) 20 [qr 0 0, qi w, qi k] σ (Ri fun z σ' => z = (oOf w k A).1 ∧ RelM σ' (oOf w k A).2) := by
  refine CM.mk tM_ok (by decide +kernel) (Nat.le_of_ble_eq_true rfl) (fun G C => ?_)
  show G σ 0 [some (qr 0 0), some (qi w), some (qi k)] []
  obtain ⟨hb, e0, n0, m0, e1w, n1, m1, e2t, n2, m2, e3l, n3, m3, hk0, hk20⟩ := mF hR hA
  refine r_aload_n C dX11_of_0 rfl ?_
  refine r_iload_n C dX11_of_1 rfl ?_
  refine r_cvi (c := 1) C dX11_of_2 mv_X11_85 (c_X11_isWording e l _ _ hb (by omega)) (by decide) rfl rfl rfl rfl (by decide) rfl rfl (Nat.le_of_ble_eq_true rfl) (fun z2 σ2 h2 => ?_)
  obtain ⟨rfl, rfl⟩ := h2
  refine r_ifb_eq 34 C dX11_of_5 (by decide) (fun h5 => ?_) (fun h5 => ?_)
  · refine r_aload_n C dX11_of_34 rfl ?_
    refine r_ldc C dX11_of_35 kc_X11_72 ?_
    refine r_cvi (c := 1) C dX11_of_37 mv_X11_68 (c_X11_finding e l _ _) (by decide) rfl rfl rfl rfl (by decide) rfl rfl (Nat.le_of_ble_eq_true rfl) (fun z37 σ37 h37 => ?_)
    obtain ⟨rfl, rfl⟩ := h37
    refine r_iret C dX11_of_40 ?_
    have e1 : oOf w k A = fnd A (-100001) := by unfold oOf; repeat (first | rw [if_pos (by omega)] | rw [if_neg (by omega)])
    exact ⟨_, rfl, by rw [e1]; rfl, by rw [e1]; exact rel_mfnd hR _⟩
  · refine r_iload_n C dX11_of_8 rfl ?_
    refine r_iconst C dX11_of_9 ?_
    refine r_iconst C dX11_of_10 ?_
    refine r_csi C dX11_of_11 ms_X11_60 (c_X11_within e l _ _ _ _ (by omega) (by omega) (by omega)) (by decide) rfl rfl (Nat.le_of_ble_eq_true rfl) (fun z11 σ11 h11 => ?_)
    obtain ⟨rfl, rfl⟩ := h11
    refine r_ifb_eq 34 C dX11_of_14 (by decide) (fun h14 => ?_) (fun h14 => ?_)
    · refine r_aload_n C dX11_of_34 rfl ?_
      refine r_ldc C dX11_of_35 kc_X11_72 ?_
      refine r_cvi (c := 1) C dX11_of_37 mv_X11_68 (c_X11_finding e l _ _) (by decide) rfl rfl rfl rfl (by decide) rfl rfl (Nat.le_of_ble_eq_true rfl) (fun z37 σ37 h37 => ?_)
      obtain ⟨rfl, rfl⟩ := h37
      refine r_iret C dX11_of_40 ?_
      have e1 : oOf w k A = fnd A (-100001) := by unfold oOf; repeat (first | rw [if_pos (by omega)] | rw [if_neg (by omega)])
      exact ⟨_, rfl, by rw [e1]; rfl, by rw [e1]; exact rel_mfnd hR _⟩
    · refine r_aload_n C dX11_of_17 rfl ?_
      refine r_get_r (c := 1) C dX11_of_18 fl_X11_9 rfl rfl rfl (by decide) rfl ?_
      refine r_bipush C dX11_of_21 ?_
      refine r_bipush C dX11_of_23 ?_
      refine r_iload_n C dX11_of_25 rfl ?_
      refine r_imul C dX11_of_26 ?_
      refine r_iadd C dX11_of_27 ?_
      refine r_iload_n C dX11_of_28 rfl ?_
      refine r_iadd C dX11_of_29 ?_
      refine r_iald (c := 1) (N := 365) C dX11_of_30 rfl rfl (by decide) (by omega) ?_
      have b30 := hb 1 0 ((28 + (20 * k)) + w) (by omega) (by omega)
      refine r_goto 40 C dX11_of_31 (by decide) ?_
      refine r_iret C dX11_of_40 ?_
      by_cases hc : (0 ≤ w ∧ w < nWd A) ∧ 0 ≤ k ∧ k < 4
      · have wm := wd_m hR hA (x := w) hc.1
        rcases (by omega : k = 0 ∨ k = 1 ∨ k = 2 ∨ k = 3) with rfl | rfl | rfl | rfl
        · have e1 : oOf w 0 A = ((wdAt A w).1, A) := by unfold oOf; repeat (first | rw [if_pos (by omega)] | rw [if_neg (by omega)])
          exact ⟨_, rfl, by rw [e1]; show σ 1 0 (28 + 20 * 0 + w) = _; rw [show (28 + 20 * 0 + w : Int) = 28 + w by omega]; exact wm.1, by rw [e1]; exact hR⟩
        · have e1 : oOf w 1 A = ((wdAt A w).2.1, A) := by unfold oOf; repeat (first | rw [if_pos (by omega)] | rw [if_neg (by omega)])
          exact ⟨_, rfl, by rw [e1]; show σ 1 0 (28 + 20 * 1 + w) = _; rw [show (28 + 20 * 1 + w : Int) = 48 + w by omega]; exact wm.2.1, by rw [e1]; exact hR⟩
        · have e1 : oOf w 2 A = ((wdAt A w).2.2.1, A) := by unfold oOf; repeat (first | rw [if_pos (by omega)] | rw [if_neg (by omega)])
          exact ⟨_, rfl, by rw [e1]; show σ 1 0 (28 + 20 * 2 + w) = _; rw [show (28 + 20 * 2 + w : Int) = 68 + w by omega]; exact wm.2.2.1, by rw [e1]; exact hR⟩
        · have e1 : oOf w 3 A = (((wdAt A w).2.2.2.length : Int), A) := by unfold oOf; repeat (first | rw [if_pos (by omega)] | rw [if_neg (by omega)])
          exact ⟨_, rfl, by rw [e1]; show σ 1 0 (28 + 20 * 3 + w) = _; rw [show (28 + 20 * 3 + w : Int) = 88 + w by omega]; exact wm.2.2.2.1, by rw [e1]; exact hR⟩
      · exfalso; omega
set_option maxRecDepth 20000 in
theorem lp_X11_told {G : qSt → Nat → List (Option qV) → List qV → Prop} {Ret : Option qV → qSt → Prop} (e : qR) (l : Launch) (σ : qSt) (x d : Int) (A : aSt) (hR : RelM σ A) (hA : AOk A) (hx : InI x) (hd : InI d) (C : Cx (EM e) l RX11 cX11_told 5 (some .int) 20 Ret G) (hN : ∀ y, G σ 68 [some (qr 0 0), some (qi x), some (qi d), some (qi (cntE (fun i => (wdAt A i).1) x (cW A.1).length)), some (qi y)] []) : ∀ (k : Nat) (m : Nat) (s : Int), (m : Int) + (k : Int) = nWd A → s = cntE (fun i => (wdAt A i).1) x m → G σ 29 [some (qr 0 0), some (qi x), some (qi d), some (qi s), some (qi (m : Int))] [] := by
  intro k
  induction k with
  | zero =>
    intro m s hm hs
    obtain ⟨hb, e0, n0, m0, e1w, n1, m1, e2t, n2, m2, e3l, n3, m3, hk0, hk20⟩ := mF hR hA
    refine r_iload C dX11_told_29 rfl ?_
    refine r_aload_n C dX11_told_31 rfl ?_
    refine r_get_r (c := 1) C dX11_told_32 fl_X11_9 rfl rfl rfl (by decide) rfl ?_
    refine r_iconst C dX11_told_35 ?_
    refine r_iald (c := 1) (N := 365) C dX11_told_36 rfl rfl (by decide) (by omega) ?_
    have b36 := hb 1 0 1 (by omega) (by omega)
    refine r_ic_ge 68 C dX11_told_37 (by decide) (by omega) (by omega) (fun h37 => ?_) (fun h37 => ?_)
    · have e9 : (cW A.1).length = m := by have q : nWd A = ((cW A.1).length : Int) := rfl; omega
      have e8 := hN (m : Int)
      rw [e9, ← hs] at e8
      exact e8
    · exfalso; omega
  | succ k ih =>
    intro m s hm hs
    obtain ⟨hb, e0, n0, m0, e1w, n1, m1, e2t, n2, m2, e3l, n3, m3, hk0, hk20⟩ := mF hR hA
    refine r_iload C dX11_told_29 rfl ?_
    refine r_aload_n C dX11_told_31 rfl ?_
    refine r_get_r (c := 1) C dX11_told_32 fl_X11_9 rfl rfl rfl (by decide) rfl ?_
    refine r_iconst C dX11_told_35 ?_
    refine r_iald (c := 1) (N := 365) C dX11_told_36 rfl rfl (by decide) (by omega) ?_
    have b36 := hb 1 0 1 (by omega) (by omega)
    refine r_ic_ge 68 C dX11_told_37 (by decide) (by omega) (by omega) (fun h37 => ?_) (fun h37 => ?_)
    · exfalso; omega
    · have wm := wd_m hR hA (x := (m : Int)) (by omega)
      refine r_iload_n C dX11_told_40 rfl ?_
      refine r_aload_n C dX11_told_41 rfl ?_
      refine r_get_r (c := 1) C dX11_told_42 fl_X11_9 rfl rfl rfl (by decide) rfl ?_
      refine r_bipush C dX11_told_45 ?_
      refine r_iload C dX11_told_47 rfl ?_
      refine r_iadd C dX11_told_49 ?_
      refine r_iald (c := 1) (N := 365) C dX11_told_50 rfl rfl (by decide) (by omega) ?_
      have b50 := hb 1 0 (28 + (m : Int)) (by omega) (by omega)
      refine r_iload_n C dX11_told_51 rfl ?_
      refine r_ic_ne 59 C dX11_told_52 (by decide) (by omega) (by omega) (fun h52 => ?_) (fun h52 => ?_)
      · refine r_iconst C dX11_told_59 ?_
        refine r_iadd C dX11_told_60 ?_
        refine r_istore_n C dX11_told_61 rfl rfl (by decide) ?_
        refine r_iinc C dX11_told_62 rfl rfl rfl (by decide) ?_
        refine r_goto 29 C dX11_told_65 (by decide) ?_
        exact ih (m + 1) _ (by push_cast; omega) (by show _ = cntE (fun i => (wdAt A i).1) x m + (if (wdAt A m).1 = x then 1 else 0); (first | rw [if_pos (by omega)] | rw [if_neg (by omega)]); omega)
      · refine r_iconst C dX11_told_55 ?_
        refine r_goto 60 C dX11_told_56 (by decide) ?_
        refine r_iadd C dX11_told_60 ?_
        refine r_istore_n C dX11_told_61 rfl rfl (by decide) ?_
        refine r_iinc C dX11_told_62 rfl rfl rfl (by decide) ?_
        refine r_goto 29 C dX11_told_65 (by decide) ?_
        exact ih (m + 1) _ (by push_cast; omega) (by show _ = cntE (fun i => (wdAt A i).1) x m + (if (wdAt A m).1 = x then 1 else 0); (first | rw [if_pos (by omega)] | rw [if_neg (by omega)]); omega)
set_option maxRecDepth 20000 in
theorem m_told (e : qR) (l : Launch) (σ : qSt) (x d : Int) (A : aSt) (hR : RelM σ A) (hA : AOk A) (h_x : InI x) (h_d : InI d)  : CM (EM e) l yX11_told cX11_told 5 (some .int) 20 [qr 0 0, qi x, qi d] σ (Ri fun z σ' => z = (oTold x d A).1 ∧ RelM σ' (oTold x d A).2) := by
  refine CM.mk tM_ok (by decide +kernel) (Nat.le_of_ble_eq_true rfl) (fun G C => ?_)
  show G σ 0 [some (qr 0 0), some (qi x), some (qi d), none, none] []
  obtain ⟨hb, e0, n0, m0, e1w, n1, m1, e2t, n2, m2, e3l, n3, m3, hk0, hk20⟩ := mF hR hA
  refine r_aload_n C dX11_told_0 rfl ?_
  refine r_iload_n C dX11_told_1 rfl ?_
  refine r_cvi (c := 1) C dX11_told_2 mv_X11_77 (c_X11_isLine e l _ _ hb (by omega)) (by decide) rfl rfl rfl rfl (by decide) rfl rfl (Nat.le_of_ble_eq_true rfl) (fun z2 σ2 h2 => ?_)
  obtain ⟨rfl, rfl⟩ := h2
  refine r_ifb_eq 17 C dX11_told_5 (by decide) (fun h5 => ?_) (fun h5 => ?_)
  · refine r_aload_n C dX11_told_17 rfl ?_
    refine r_ldc C dX11_told_18 kc_X11_72 ?_
    refine r_cvi (c := 1) C dX11_told_20 mv_X11_68 (c_X11_finding e l _ _) (by decide) rfl rfl rfl rfl (by decide) rfl rfl (Nat.le_of_ble_eq_true rfl) (fun z20 σ20 h20 => ?_)
    obtain ⟨rfl, rfl⟩ := h20
    refine r_iret C dX11_told_23 ?_
    have e1 : oTold x d A = fnd A (-100001) := by unfold oTold; repeat (first | rw [if_pos (by omega)] | rw [if_neg (by omega)])
    exact ⟨_, rfl, by rw [e1]; rfl, by rw [e1]; exact rel_mfnd hR _⟩
  · refine r_iload_n C dX11_told_8 rfl ?_
    refine r_iconst C dX11_told_9 ?_
    refine r_iconst C dX11_told_10 ?_
    refine r_csi C dX11_told_11 ms_X11_60 (c_X11_within e l _ _ _ _ (by omega) (by omega) (by omega)) (by decide) rfl rfl (Nat.le_of_ble_eq_true rfl) (fun z11 σ11 h11 => ?_)
    obtain ⟨rfl, rfl⟩ := h11
    refine r_ifb_ne 24 C dX11_told_14 (by decide) (fun h14 => ?_) (fun h14 => ?_)
    · refine r_iconst C dX11_told_24 ?_
      refine r_istore_n C dX11_told_25 rfl rfl (by decide) ?_
      refine r_iconst C dX11_told_26 ?_
      refine r_istore C dX11_told_27 rfl rfl (by decide) ?_
      refine lp_X11_told e l σ x d A hR hA (by omega) (by omega) C (fun y => ?_) (cW A.1).length 0 _ (by show (0 : Int) + ((cW A.1).length : Int) = ((cW A.1).length : Int); omega) rfl
      refine r_iload_n C dX11_told_68 rfl ?_
      refine r_iconst C dX11_told_69 ?_
      refine r_ic_ne 77 C dX11_told_70 (by decide) (by omega) (by omega) (fun h70 => ?_) (fun h70 => ?_)
      · refine r_aload_n C dX11_told_77 rfl ?_
        refine r_get_r (c := 1) C dX11_told_78 fl_X11_9 rfl rfl rfl (by decide) rfl ?_
        refine r_iconst C dX11_told_81 ?_
        refine r_bipush C dX11_told_82 ?_
        refine r_iload_n C dX11_told_84 rfl ?_
        refine r_imul C dX11_told_85 ?_
        refine r_iadd C dX11_told_86 ?_
        refine r_iload_n C dX11_told_87 rfl ?_
        refine r_iadd C dX11_told_88 ?_
        refine r_iald (c := 1) (N := 365) C dX11_told_89 rfl rfl (by decide) (by omega) ?_
        have b89 := hb 1 0 ((4 + (12 * d)) + x) (by omega) (by omega)
        refine r_iret C dX11_told_90 ?_
        have lm := ln_m hR hA (x := x) (by omega)
        first
        | (have e1 : oTold x d A = (cntE (fun i => (wdAt A i).1) x (cW A.1).length, A) := by unfold oTold; repeat (first | rw [if_pos (by omega)] | rw [if_neg (by omega)])
           exact ⟨_, rfl, by rw [e1], by rw [e1]; exact hR⟩)
        | (rcases (by omega : d = 0 ∨ d = 1) with rfl | rfl
           · have e1 : oTold x 0 A = ((lnAt A x).1, A) := by unfold oTold; repeat (first | rw [if_pos (by omega)] | rw [if_neg (by omega)])
             exact ⟨_, rfl, by rw [e1]; show σ 1 0 (4 + 12 * 0 + x) = _; rw [show (4 + 12 * 0 + x : Int) = 4 + x by omega]; exact lm.1, by rw [e1]; exact hR⟩
           · have e1 : oTold x 1 A = (((lnAt A x).2.length : Int), A) := by unfold oTold; repeat (first | rw [if_pos (by omega)] | rw [if_neg (by omega)])
             exact ⟨_, rfl, by rw [e1]; show σ 1 0 (4 + 12 * 1 + x) = _; rw [show (4 + 12 * 1 + x : Int) = 16 + x by omega]; exact lm.2.1, by rw [e1]; exact hR⟩)
      · refine r_iload_n C dX11_told_73 rfl ?_
        refine r_goto 90 C dX11_told_74 (by decide) ?_
        refine r_iret C dX11_told_90 ?_
        have lm := ln_m hR hA (x := x) (by omega)
        first
        | (have e1 : oTold x d A = (cntE (fun i => (wdAt A i).1) x (cW A.1).length, A) := by unfold oTold; repeat (first | rw [if_pos (by omega)] | rw [if_neg (by omega)])
           exact ⟨_, rfl, by rw [e1], by rw [e1]; exact hR⟩)
        | (rcases (by omega : d = 0 ∨ d = 1) with rfl | rfl
           · have e1 : oTold x 0 A = ((lnAt A x).1, A) := by unfold oTold; repeat (first | rw [if_pos (by omega)] | rw [if_neg (by omega)])
             exact ⟨_, rfl, by rw [e1]; show σ 1 0 (4 + 12 * 0 + x) = _; rw [show (4 + 12 * 0 + x : Int) = 4 + x by omega]; exact lm.1, by rw [e1]; exact hR⟩
           · have e1 : oTold x 1 A = (((lnAt A x).2.length : Int), A) := by unfold oTold; repeat (first | rw [if_pos (by omega)] | rw [if_neg (by omega)])
             exact ⟨_, rfl, by rw [e1]; show σ 1 0 (4 + 12 * 1 + x) = _; rw [show (4 + 12 * 1 + x : Int) = 16 + x by omega]; exact lm.2.1, by rw [e1]; exact hR⟩)
    · refine r_aload_n C dX11_told_17 rfl ?_
      refine r_ldc C dX11_told_18 kc_X11_72 ?_
      refine r_cvi (c := 1) C dX11_told_20 mv_X11_68 (c_X11_finding e l _ _) (by decide) rfl rfl rfl rfl (by decide) rfl rfl (Nat.le_of_ble_eq_true rfl) (fun z20 σ20 h20 => ?_)
      obtain ⟨rfl, rfl⟩ := h20
      refine r_iret C dX11_told_23 ?_
      have e1 : oTold x d A = fnd A (-100001) := by unfold oTold; repeat (first | rw [if_pos (by omega)] | rw [if_neg (by omega)])
      exact ⟨_, rfl, by rw [e1]; rfl, by rw [e1]; exact rel_mfnd hR _⟩
set_option maxRecDepth 20000 in
theorem m_shape (e : qR) (l : Launch) (σ : qSt) (x i : Int) (A : aSt) (hR : RelM σ A) (hA : AOk A) (h_x : InI x) (h_i : InI i) : CM (EM e) l yX11_shape cX11_shape 3 (some .int) 20 [qr 0 0, qi x, qi i] σ (Ri fun z σ' => z = (oShape x i A).1 ∧ RelM σ' (oShape x i A).2) := by
  refine CM.mk tM_ok (by decide +kernel) (Nat.le_of_ble_eq_true rfl) (fun G C => ?_)
  show G σ 0 [some (qr 0 0), some (qi x), some (qi i)] []
  obtain ⟨hb, e0, n0, m0, e1w, n1, m1, e2t, n2, m2, e3l, n3, m3, hk0, hk20⟩ := mF hR hA
  refine r_aload_n C dX11_shape_0 rfl ?_
  refine r_iload_n C dX11_shape_1 rfl ?_
  refine r_cvi (c := 1) C dX11_shape_2 mv_X11_77 (c_X11_isLine e l _ _ hb (by omega)) (by decide) rfl rfl rfl rfl (by decide) rfl rfl (Nat.le_of_ble_eq_true rfl) (fun z2 σ2 h2 => ?_)
  obtain ⟨rfl, rfl⟩ := h2
  refine r_ifb_eq 36 C dX11_shape_5 (by decide) (fun h5 => ?_) (fun h5 => ?_)
  · refine r_aload_n C dX11_shape_36 rfl ?_
    refine r_ldc C dX11_shape_37 kc_X11_72 ?_
    refine r_cvi (c := 1) C dX11_shape_39 mv_X11_68 (c_X11_finding e l _ _) (by decide) rfl rfl rfl rfl (by decide) rfl rfl (Nat.le_of_ble_eq_true rfl) (fun z39 σ39 h39 => ?_)
    obtain ⟨rfl, rfl⟩ := h39
    refine r_iret C dX11_shape_42 ?_
    have e1 : oShape x i A = fnd A (-100001) := by unfold oShape; repeat (first | rw [if_pos (by omega)] | rw [if_neg (by omega)])
    exact ⟨_, rfl, by rw [e1]; rfl, by rw [e1]; exact rel_mfnd hR _⟩
  · have lm := ln_m hR hA (x := x) (by omega)
    refine r_iload_n C dX11_shape_8 rfl ?_
    refine r_iconst C dX11_shape_9 ?_
    refine r_aload_n C dX11_shape_10 rfl ?_
    refine r_get_r (c := 1) C dX11_shape_11 fl_X11_9 rfl rfl rfl (by decide) rfl ?_
    refine r_bipush C dX11_shape_14 ?_
    refine r_iload_n C dX11_shape_16 rfl ?_
    refine r_iadd C dX11_shape_17 ?_
    refine r_iald (c := 1) (N := 365) C dX11_shape_18 rfl rfl (by decide) (by omega) ?_
    have b18 := hb 1 0 (16 + x) (by omega) (by omega)
    refine r_iconst C dX11_shape_19 ?_
    refine r_isub C dX11_shape_20 ?_
    refine r_csi C dX11_shape_21 ms_X11_60 (c_X11_within e l _ _ _ _ (by omega) (by omega) (by omega)) (by decide) rfl rfl (Nat.le_of_ble_eq_true rfl) (fun z21 σ21 h21 => ?_)
    obtain ⟨rfl, rfl⟩ := h21
    refine r_ifb_eq 36 C dX11_shape_24 (by decide) (fun h24 => ?_) (fun h24 => ?_)
    · refine r_aload_n C dX11_shape_36 rfl ?_
      refine r_ldc C dX11_shape_37 kc_X11_72 ?_
      refine r_cvi (c := 1) C dX11_shape_39 mv_X11_68 (c_X11_finding e l _ _) (by decide) rfl rfl rfl rfl (by decide) rfl rfl (Nat.le_of_ble_eq_true rfl) (fun z39 σ39 h39 => ?_)
      obtain ⟨rfl, rfl⟩ := h39
      refine r_iret C dX11_shape_42 ?_
      have e1 : oShape x i A = fnd A (-100001) := by unfold oShape; repeat (first | rw [if_pos (by omega)] | rw [if_neg (by omega)])
      exact ⟨_, rfl, by rw [e1]; rfl, by rw [e1]; exact rel_mfnd hR _⟩
    · refine r_aload_n C dX11_shape_27 rfl ?_
      refine r_iload_n C dX11_shape_28 rfl ?_
      refine r_iload_n C dX11_shape_29 rfl ?_
      refine r_cvi (c := 1) C dX11_shape_30 mv_X11_93 (c_X11_shapeOf e l _ _ _ hR.2.1 (by omega) (by omega)) (by decide) rfl rfl rfl rfl (by decide) rfl rfl (Nat.le_of_ble_eq_true rfl) (fun z30 σ30 h30 => ?_)
      obtain ⟨rfl, rfl⟩ := h30
      refine r_goto 42 C dX11_shape_33 (by decide) ?_
      refine r_iret C dX11_shape_42 ?_
      have lm := ln_m hR hA (x := x) (by omega)
      have e1 : oShape x i A = (frAt (lnAt A x) i, A) := by unfold oShape; repeat (first | rw [if_pos (by omega)] | rw [if_neg (by omega)])
      exact ⟨_, rfl, by rw [e1] ; exact (lm.2.2.2.2.2 i (by omega) (by omega)).1, by rw [e1]; exact hR⟩
set_option maxRecDepth 20000 in
theorem m_name (e : qR) (l : Launch) (σ : qSt) (x n : Int) (A : aSt) (hR : RelM σ A) (hA : AOk A) (h_x : InI x) (h_n : InI n)  : CM (EM e) l yX11_name cX11_name 4 (some .int) 20 [qr 0 0, qi x, qi n] σ (Ri fun z σ' => z = (oName x n A).1 ∧ RelM σ' (oName x n A).2) := by
  refine CM.mk tM_ok (by decide +kernel) (Nat.le_of_ble_eq_true rfl) (fun G C => ?_)
  show G σ 0 [some (qr 0 0), some (qi x), some (qi n), none] []
  obtain ⟨hb, e0, n0, m0, e1w, n1, m1, e2t, n2, m2, e3l, n3, m3, hk0, hk20⟩ := mF hR hA
  refine r_iload_n C dX11_name_0 rfl ?_
  refine r_csi C dX11_name_1 ms_X11_89 (c_X11_isWord e l _ _ (by omega)) (by decide) rfl rfl (Nat.le_of_ble_eq_true rfl) (fun z1 σ1 h1 => ?_)
  obtain ⟨rfl, rfl⟩ := h1
  refine r_ifb_eq 17 C dX11_name_4 (by decide) (fun h4 => ?_) (fun h4 => ?_)
  · refine r_aload_n C dX11_name_17 rfl ?_
    refine r_ldc C dX11_name_18 kc_X11_72 ?_
    refine r_cvi (c := 1) C dX11_name_20 mv_X11_68 (c_X11_finding e l _ _) (by decide) rfl rfl rfl rfl (by decide) rfl rfl (Nat.le_of_ble_eq_true rfl) (fun z20 σ20 h20 => ?_)
    obtain ⟨rfl, rfl⟩ := h20
    refine r_iret C dX11_name_23 ?_
    have e1 : oName x n A = fnd A (-100001) := by unfold oName; repeat (first | rw [if_pos (by omega)] | rw [if_neg (by omega)])
    exact ⟨_, rfl, by rw [e1]; rfl, by rw [e1]; exact rel_mfnd hR _⟩
  · refine r_iload_n C dX11_name_7 rfl ?_
    refine r_iconst C dX11_name_8 ?_
    refine r_bipush C dX11_name_9 ?_
    refine r_csi C dX11_name_11 ms_X11_60 (c_X11_within e l _ _ _ _ (by omega) (by omega) (by omega)) (by decide) rfl rfl (Nat.le_of_ble_eq_true rfl) (fun z11 σ11 h11 => ?_)
    obtain ⟨rfl, rfl⟩ := h11
    refine r_ifb_ne 24 C dX11_name_14 (by decide) (fun h14 => ?_) (fun h14 => ?_)
    · refine r_aload_n C dX11_name_24 rfl ?_
      refine r_cvv (c := 1) C dX11_name_25 mv_X11_74 (c_X11_keep e l _ (by omega)) (by decide) rfl rfl rfl rfl (by decide) rfl rfl (Nat.le_of_ble_eq_true rfl) (fun σ25 h25 => ?_)
      have hk := kp_of (σ := σ) (by omega)
      rw [← h25] at hk
      have hbk : Bm σ25 := hk.2.2.2.2.2.2.1 hb
      have hlk : Bl σ25 := hk.2.2.2.2.2.2.2 hR.2.1
      have ek : ∀ j, σ25 1 0 j = σ 1 0 j := fun j => hk.1 _ _ _ (by omega) (by omega) (by omega)
      have ek2 : ∀ j, σ25 2 0 j = σ 2 0 j := fun j => hk.1 _ _ _ (by omega) (by omega) (by omega)
      refine r_aload_n C dX11_name_28 rfl ?_
      refine r_get_r (c := 1) C dX11_name_29 fl_X11_9 rfl rfl rfl (by decide) rfl ?_
      refine r_sipush C dX11_name_32 ?_
      refine r_iload_n C dX11_name_35 rfl ?_
      refine r_iadd C dX11_name_36 ?_
      refine r_iald (c := 1) (N := 365) C dX11_name_37 rfl rfl (by decide) (by omega) ?_
      have b37 := hbk 1 0 (308 + x) (by omega) (by omega)
      refine r_istore_n C dX11_name_38 rfl rfl (by decide) ?_
      refine r_aload_n C dX11_name_39 rfl ?_
      refine r_get_r (c := 1) C dX11_name_40 fl_X11_9 rfl rfl rfl (by decide) rfl ?_
      refine r_sipush C dX11_name_43 ?_
      refine r_iload_n C dX11_name_46 rfl ?_
      refine r_iadd C dX11_name_47 ?_
      refine r_iload_n C dX11_name_48 rfl ?_
      refine r_iast (c := 1) (N := 365) C dX11_name_49 rfl rfl (by decide) (by omega) ?_
      refine r_iload_n C dX11_name_50 rfl ?_
      refine r_iret C dX11_name_51 ?_
      have e1 : oName x n A = (cN A.1 x, psh A (5, x, cN A.1 x, []) (sN A.1 (updF (cN A.1) x n))) := by unfold oName; repeat (first | rw [if_pos (by omega)] | rw [if_neg (by omega)])
      exact ⟨_, rfl, by rw [e1] <;> (try (rw [ek]; exact hR.2.2.1.2.2.2.1 x (by omega) (by omega))), by rw [e1]; exact rel_mpsh hR hA hk (fun x b z q1 q2 => by (repeat rw [qUp_ne (by omega)])) (by (repeat (first | refine Bm.ul ?_ (by omega) | refine Bm.up ?_ (by omega))); exact hbk) (by (repeat (first | refine Bl.up ?_ (by omega) | refine Bl.ul ?_ (by omega))); exact hlk) (RN_name hR.2.2.1 hA.1 (by omega) (by (repeat (first | rw [qUp_eq] | rw [qUp_ne (by omega)]))) (fun j q => by (repeat rw [qUp_ne (by omega)]); exact ek j) (fun j => by (repeat rw [qUp_ne (by omega)]); exact ek2 j)) (un_name A x n)⟩
    · refine r_aload_n C dX11_name_17 rfl ?_
      refine r_ldc C dX11_name_18 kc_X11_72 ?_
      refine r_cvi (c := 1) C dX11_name_20 mv_X11_68 (c_X11_finding e l _ _) (by decide) rfl rfl rfl rfl (by decide) rfl rfl (Nat.le_of_ble_eq_true rfl) (fun z20 σ20 h20 => ?_)
      obtain ⟨rfl, rfl⟩ := h20
      refine r_iret C dX11_name_23 ?_
      have e1 : oName x n A = fnd A (-100001) := by unfold oName; repeat (first | rw [if_pos (by omega)] | rw [if_neg (by omega)])
      exact ⟨_, rfl, by rw [e1]; rfl, by rw [e1]; exact rel_mfnd hR _⟩
set_option maxRecDepth 20000 in
theorem m_actor (e : qR) (l : Launch) (σ : qSt) (x n : Int) (A : aSt) (hR : RelM σ A) (hA : AOk A) (h_x : InI x) (h_n : InI n)  : CM (EM e) l yX11_actor cX11_actor 4 (some .int) 20 [qr 0 0, qi x, qi n] σ (Ri fun z σ' => z = (oActor x n A).1 ∧ RelM σ' (oActor x n A).2) := by
  refine CM.mk tM_ok (by decide +kernel) (Nat.le_of_ble_eq_true rfl) (fun G C => ?_)
  show G σ 0 [some (qr 0 0), some (qi x), some (qi n), none] []
  obtain ⟨hb, e0, n0, m0, e1w, n1, m1, e2t, n2, m2, e3l, n3, m3, hk0, hk20⟩ := mF hR hA
  refine r_iload_n C dX11_actor_0 rfl ?_
  refine r_iconst C dX11_actor_1 ?_
  refine r_iconst C dX11_actor_2 ?_
  refine r_csi C dX11_actor_3 ms_X11_60 (c_X11_within e l _ _ _ _ (by omega) (by omega) (by omega)) (by decide) rfl rfl (Nat.le_of_ble_eq_true rfl) (fun z3 σ3 h3 => ?_)
  obtain ⟨rfl, rfl⟩ := h3
  refine r_ifb_eq 19 C dX11_actor_6 (by decide) (fun h6 => ?_) (fun h6 => ?_)
  · refine r_aload_n C dX11_actor_19 rfl ?_
    refine r_ldc C dX11_actor_20 kc_X11_72 ?_
    refine r_cvi (c := 1) C dX11_actor_22 mv_X11_68 (c_X11_finding e l _ _) (by decide) rfl rfl rfl rfl (by decide) rfl rfl (Nat.le_of_ble_eq_true rfl) (fun z22 σ22 h22 => ?_)
    obtain ⟨rfl, rfl⟩ := h22
    refine r_iret C dX11_actor_25 ?_
    have e1 : oActor x n A = fnd A (-100001) := by unfold oActor; repeat (first | rw [if_pos (by omega)] | rw [if_neg (by omega)])
    exact ⟨_, rfl, by rw [e1]; rfl, by rw [e1]; exact rel_mfnd hR _⟩
  · refine r_iload_n C dX11_actor_9 rfl ?_
    refine r_iconst C dX11_actor_10 ?_
    refine r_bipush C dX11_actor_11 ?_
    refine r_csi C dX11_actor_13 ms_X11_60 (c_X11_within e l _ _ _ _ (by omega) (by omega) (by omega)) (by decide) rfl rfl (Nat.le_of_ble_eq_true rfl) (fun z13 σ13 h13 => ?_)
    obtain ⟨rfl, rfl⟩ := h13
    refine r_ifb_ne 26 C dX11_actor_16 (by decide) (fun h16 => ?_) (fun h16 => ?_)
    · refine r_aload_n C dX11_actor_26 rfl ?_
      refine r_cvv (c := 1) C dX11_actor_27 mv_X11_74 (c_X11_keep e l _ (by omega)) (by decide) rfl rfl rfl rfl (by decide) rfl rfl (Nat.le_of_ble_eq_true rfl) (fun σ27 h27 => ?_)
      have hk := kp_of (σ := σ) (by omega)
      rw [← h27] at hk
      have hbk : Bm σ27 := hk.2.2.2.2.2.2.1 hb
      have hlk : Bl σ27 := hk.2.2.2.2.2.2.2 hR.2.1
      have ek : ∀ j, σ27 1 0 j = σ 1 0 j := fun j => hk.1 _ _ _ (by omega) (by omega) (by omega)
      have ek2 : ∀ j, σ27 2 0 j = σ 2 0 j := fun j => hk.1 _ _ _ (by omega) (by omega) (by omega)
      refine r_aload_n C dX11_actor_30 rfl ?_
      refine r_get_r (c := 1) C dX11_actor_31 fl_X11_9 rfl rfl rfl (by decide) rfl ?_
      refine r_sipush C dX11_actor_34 ?_
      refine r_iload_n C dX11_actor_37 rfl ?_
      refine r_iadd C dX11_actor_38 ?_
      refine r_iald (c := 1) (N := 365) C dX11_actor_39 rfl rfl (by decide) (by omega) ?_
      have b39 := hbk 1 0 (340 + x) (by omega) (by omega)
      refine r_istore_n C dX11_actor_40 rfl rfl (by decide) ?_
      refine r_aload_n C dX11_actor_41 rfl ?_
      refine r_get_r (c := 1) C dX11_actor_42 fl_X11_9 rfl rfl rfl (by decide) rfl ?_
      refine r_sipush C dX11_actor_45 ?_
      refine r_iload_n C dX11_actor_48 rfl ?_
      refine r_iadd C dX11_actor_49 ?_
      refine r_iload_n C dX11_actor_50 rfl ?_
      refine r_iast (c := 1) (N := 365) C dX11_actor_51 rfl rfl (by decide) (by omega) ?_
      refine r_iload_n C dX11_actor_52 rfl ?_
      refine r_iret C dX11_actor_53 ?_
      have e1 : oActor x n A = (cA A.1 x, psh A (7, x, cA A.1 x, []) (sA A.1 (updF (cA A.1) x n))) := by unfold oActor; repeat (first | rw [if_pos (by omega)] | rw [if_neg (by omega)])
      exact ⟨_, rfl, by rw [e1] <;> (try (rw [ek]; exact hR.2.2.1.2.2.2.2.1 x (by omega) (by omega))), by rw [e1]; exact rel_mpsh hR hA hk (fun x b z q1 q2 => by (repeat rw [qUp_ne (by omega)])) (by (repeat (first | refine Bm.ul ?_ (by omega) | refine Bm.up ?_ (by omega))); exact hbk) (by (repeat (first | refine Bl.up ?_ (by omega) | refine Bl.ul ?_ (by omega))); exact hlk) (RN_actor hR.2.2.1 hA.1 (by omega) (by (repeat (first | rw [qUp_eq] | rw [qUp_ne (by omega)]))) (fun j q => by (repeat rw [qUp_ne (by omega)]); exact ek j) (fun j => by (repeat rw [qUp_ne (by omega)]); exact ek2 j)) (un_actor A x n)⟩
    · refine r_aload_n C dX11_actor_19 rfl ?_
      refine r_ldc C dX11_actor_20 kc_X11_72 ?_
      refine r_cvi (c := 1) C dX11_actor_22 mv_X11_68 (c_X11_finding e l _ _) (by decide) rfl rfl rfl rfl (by decide) rfl rfl (Nat.le_of_ble_eq_true rfl) (fun z22 σ22 h22 => ?_)
      obtain ⟨rfl, rfl⟩ := h22
      refine r_iret C dX11_actor_25 ?_
      have e1 : oActor x n A = fnd A (-100001) := by unfold oActor; repeat (first | rw [if_pos (by omega)] | rw [if_neg (by omega)])
      exact ⟨_, rfl, by rw [e1]; rfl, by rw [e1]; exact rel_mfnd hR _⟩
set_option maxRecDepth 20000 in
theorem m_free (e : qR) (l : Launch) (σ : qSt) (x n : Int) (A : aSt) (hR : RelM σ A) (hA : AOk A) (h_x : InI x) (h_n : InI n)  : CM (EM e) l yX11_free cX11_free 4 (some .int) 20 [qr 0 0, qi x, qi n] σ (Ri fun z σ' => z = (oFree x n A).1 ∧ RelM σ' (oFree x n A).2) := by
  refine CM.mk tM_ok (by decide +kernel) (Nat.le_of_ble_eq_true rfl) (fun G C => ?_)
  show G σ 0 [some (qr 0 0), some (qi x), some (qi n), none] []
  obtain ⟨hb, e0, n0, m0, e1w, n1, m1, e2t, n2, m2, e3l, n3, m3, hk0, hk20⟩ := mF hR hA
  refine r_iload_n C dX11_free_0 rfl ?_
  refine r_iconst C dX11_free_1 ?_
  refine r_bipush C dX11_free_2 ?_
  refine r_csi C dX11_free_4 ms_X11_60 (c_X11_within e l _ _ _ _ (by omega) (by omega) (by omega)) (by decide) rfl rfl (Nat.le_of_ble_eq_true rfl) (fun z4 σ4 h4 => ?_)
  obtain ⟨rfl, rfl⟩ := h4
  refine r_ifb_eq 20 C dX11_free_7 (by decide) (fun h7 => ?_) (fun h7 => ?_)
  · refine r_aload_n C dX11_free_20 rfl ?_
    refine r_ldc C dX11_free_21 kc_X11_72 ?_
    refine r_cvi (c := 1) C dX11_free_23 mv_X11_68 (c_X11_finding e l _ _) (by decide) rfl rfl rfl rfl (by decide) rfl rfl (Nat.le_of_ble_eq_true rfl) (fun z23 σ23 h23 => ?_)
    obtain ⟨rfl, rfl⟩ := h23
    refine r_iret C dX11_free_26 ?_
    have e1 : oFree x n A = fnd A (-100001) := by unfold oFree; repeat (first | rw [if_pos (by omega)] | rw [if_neg (by omega)])
    exact ⟨_, rfl, by rw [e1]; rfl, by rw [e1]; exact rel_mfnd hR _⟩
  · refine r_iload_n C dX11_free_10 rfl ?_
    refine r_iconst C dX11_free_11 ?_
    refine r_bipush C dX11_free_12 ?_
    refine r_csi C dX11_free_14 ms_X11_60 (c_X11_within e l _ _ _ _ (by omega) (by omega) (by omega)) (by decide) rfl rfl (Nat.le_of_ble_eq_true rfl) (fun z14 σ14 h14 => ?_)
    obtain ⟨rfl, rfl⟩ := h14
    refine r_ifb_ne 27 C dX11_free_17 (by decide) (fun h17 => ?_) (fun h17 => ?_)
    · refine r_aload_n C dX11_free_27 rfl ?_
      refine r_cvv (c := 1) C dX11_free_28 mv_X11_74 (c_X11_keep e l _ (by omega)) (by decide) rfl rfl rfl rfl (by decide) rfl rfl (Nat.le_of_ble_eq_true rfl) (fun σ28 h28 => ?_)
      have hk := kp_of (σ := σ) (by omega)
      rw [← h28] at hk
      have hbk : Bm σ28 := hk.2.2.2.2.2.2.1 hb
      have hlk : Bl σ28 := hk.2.2.2.2.2.2.2 hR.2.1
      have ek : ∀ j, σ28 1 0 j = σ 1 0 j := fun j => hk.1 _ _ _ (by omega) (by omega) (by omega)
      have ek2 : ∀ j, σ28 2 0 j = σ 2 0 j := fun j => hk.1 _ _ _ (by omega) (by omega) (by omega)
      refine r_aload_n C dX11_free_31 rfl ?_
      refine r_get_r (c := 1) C dX11_free_32 fl_X11_9 rfl rfl rfl (by decide) rfl ?_
      refine r_sipush C dX11_free_35 ?_
      refine r_iload_n C dX11_free_38 rfl ?_
      refine r_iadd C dX11_free_39 ?_
      refine r_iald (c := 1) (N := 365) C dX11_free_40 rfl rfl (by decide) (by omega) ?_
      have b40 := hbk 1 0 (346 + x) (by omega) (by omega)
      refine r_istore_n C dX11_free_41 rfl rfl (by decide) ?_
      refine r_aload_n C dX11_free_42 rfl ?_
      refine r_get_r (c := 1) C dX11_free_43 fl_X11_9 rfl rfl rfl (by decide) rfl ?_
      refine r_sipush C dX11_free_46 ?_
      refine r_iload_n C dX11_free_49 rfl ?_
      refine r_iadd C dX11_free_50 ?_
      refine r_iload_n C dX11_free_51 rfl ?_
      refine r_iast (c := 1) (N := 365) C dX11_free_52 rfl rfl (by decide) (by omega) ?_
      refine r_iload_n C dX11_free_53 rfl ?_
      refine r_iret C dX11_free_54 ?_
      have e1 : oFree x n A = (cF A.1 x, psh A (8, x, cF A.1 x, []) (sF A.1 (updF (cF A.1) x n))) := by unfold oFree; repeat (first | rw [if_pos (by omega)] | rw [if_neg (by omega)])
      exact ⟨_, rfl, by rw [e1] <;> (try (rw [ek]; exact hR.2.2.1.2.2.2.2.2.1 x (by omega) (by omega))), by rw [e1]; exact rel_mpsh hR hA hk (fun x b z q1 q2 => by (repeat rw [qUp_ne (by omega)])) (by (repeat (first | refine Bm.ul ?_ (by omega) | refine Bm.up ?_ (by omega))); exact hbk) (by (repeat (first | refine Bl.up ?_ (by omega) | refine Bl.ul ?_ (by omega))); exact hlk) (RN_free hR.2.2.1 hA.1 (by omega) (by (repeat (first | rw [qUp_eq] | rw [qUp_ne (by omega)]))) (fun j q => by (repeat rw [qUp_ne (by omega)]); exact ek j) (fun j => by (repeat rw [qUp_ne (by omega)]); exact ek2 j)) (un_free A x n)⟩
    · refine r_aload_n C dX11_free_20 rfl ?_
      refine r_ldc C dX11_free_21 kc_X11_72 ?_
      refine r_cvi (c := 1) C dX11_free_23 mv_X11_68 (c_X11_finding e l _ _) (by decide) rfl rfl rfl rfl (by decide) rfl rfl (Nat.le_of_ble_eq_true rfl) (fun z23 σ23 h23 => ?_)
      obtain ⟨rfl, rfl⟩ := h23
      refine r_iret C dX11_free_26 ?_
      have e1 : oFree x n A = fnd A (-100001) := by unfold oFree; repeat (first | rw [if_pos (by omega)] | rw [if_neg (by omega)])
      exact ⟨_, rfl, by rw [e1]; rfl, by rw [e1]; exact rel_mfnd hR _⟩
set_option maxRecDepth 20000 in
theorem m_room (e : qR) (l : Launch) (σ : qSt) (x n : Int) (A : aSt) (hR : RelM σ A) (hA : AOk A) (h_x : InI x) (h_n : InI n)  : CM (EM e) l yX11_room cX11_room 4 (some .int) 20 [qr 0 0, qi x, qi n] σ (Ri fun z σ' => z = (oRoom x n A).1 ∧ RelM σ' (oRoom x n A).2) := by
  refine CM.mk tM_ok (by decide +kernel) (Nat.le_of_ble_eq_true rfl) (fun G C => ?_)
  show G σ 0 [some (qr 0 0), some (qi x), some (qi n), none] []
  obtain ⟨hb, e0, n0, m0, e1w, n1, m1, e2t, n2, m2, e3l, n3, m3, hk0, hk20⟩ := mF hR hA
  refine r_iload_n C dX11_room_0 rfl ?_
  refine r_iconst C dX11_room_1 ?_
  refine r_iconst C dX11_room_2 ?_
  refine r_csi C dX11_room_3 ms_X11_60 (c_X11_within e l _ _ _ _ (by omega) (by omega) (by omega)) (by decide) rfl rfl (Nat.le_of_ble_eq_true rfl) (fun z3 σ3 h3 => ?_)
  obtain ⟨rfl, rfl⟩ := h3
  refine r_ifb_eq 19 C dX11_room_6 (by decide) (fun h6 => ?_) (fun h6 => ?_)
  · refine r_aload_n C dX11_room_19 rfl ?_
    refine r_ldc C dX11_room_20 kc_X11_72 ?_
    refine r_cvi (c := 1) C dX11_room_22 mv_X11_68 (c_X11_finding e l _ _) (by decide) rfl rfl rfl rfl (by decide) rfl rfl (Nat.le_of_ble_eq_true rfl) (fun z22 σ22 h22 => ?_)
    obtain ⟨rfl, rfl⟩ := h22
    refine r_iret C dX11_room_25 ?_
    have e1 : oRoom x n A = fnd A (-100001) := by unfold oRoom; repeat (first | rw [if_pos (by omega)] | rw [if_neg (by omega)])
    exact ⟨_, rfl, by rw [e1]; rfl, by rw [e1]; exact rel_mfnd hR _⟩
  · refine r_iload_n C dX11_room_9 rfl ?_
    refine r_iconst C dX11_room_10 ?_
    refine r_bipush C dX11_room_11 ?_
    refine r_csi C dX11_room_13 ms_X11_60 (c_X11_within e l _ _ _ _ (by omega) (by omega) (by omega)) (by decide) rfl rfl (Nat.le_of_ble_eq_true rfl) (fun z13 σ13 h13 => ?_)
    obtain ⟨rfl, rfl⟩ := h13
    refine r_ifb_ne 26 C dX11_room_16 (by decide) (fun h16 => ?_) (fun h16 => ?_)
    · refine r_aload_n C dX11_room_26 rfl ?_
      refine r_cvv (c := 1) C dX11_room_27 mv_X11_74 (c_X11_keep e l _ (by omega)) (by decide) rfl rfl rfl rfl (by decide) rfl rfl (Nat.le_of_ble_eq_true rfl) (fun σ27 h27 => ?_)
      have hk := kp_of (σ := σ) (by omega)
      rw [← h27] at hk
      have hbk : Bm σ27 := hk.2.2.2.2.2.2.1 hb
      have hlk : Bl σ27 := hk.2.2.2.2.2.2.2 hR.2.1
      have ek : ∀ j, σ27 1 0 j = σ 1 0 j := fun j => hk.1 _ _ _ (by omega) (by omega) (by omega)
      have ek2 : ∀ j, σ27 2 0 j = σ 2 0 j := fun j => hk.1 _ _ _ (by omega) (by omega) (by omega)
      refine r_aload_n C dX11_room_30 rfl ?_
      refine r_get_r (c := 1) C dX11_room_31 fl_X11_9 rfl rfl rfl (by decide) rfl ?_
      refine r_sipush C dX11_room_34 ?_
      refine r_iload_n C dX11_room_37 rfl ?_
      refine r_iadd C dX11_room_38 ?_
      refine r_iald (c := 1) (N := 365) C dX11_room_39 rfl rfl (by decide) (by omega) ?_
      have b39 := hbk 1 0 (354 + x) (by omega) (by omega)
      refine r_istore_n C dX11_room_40 rfl rfl (by decide) ?_
      refine r_aload_n C dX11_room_41 rfl ?_
      refine r_get_r (c := 1) C dX11_room_42 fl_X11_9 rfl rfl rfl (by decide) rfl ?_
      refine r_sipush C dX11_room_45 ?_
      refine r_iload_n C dX11_room_48 rfl ?_
      refine r_iadd C dX11_room_49 ?_
      refine r_iload_n C dX11_room_50 rfl ?_
      refine r_iast (c := 1) (N := 365) C dX11_room_51 rfl rfl (by decide) (by omega) ?_
      refine r_iload_n C dX11_room_52 rfl ?_
      refine r_iret C dX11_room_53 ?_
      have e1 : oRoom x n A = (cR A.1 x, psh A (9, x, cR A.1 x, []) (sR A.1 (updF (cR A.1) x n))) := by unfold oRoom; repeat (first | rw [if_pos (by omega)] | rw [if_neg (by omega)])
      exact ⟨_, rfl, by rw [e1] <;> (try (rw [ek]; exact hR.2.2.1.2.2.2.2.2.2.1 x (by omega) (by omega))), by rw [e1]; exact rel_mpsh hR hA hk (fun x b z q1 q2 => by (repeat rw [qUp_ne (by omega)])) (by (repeat (first | refine Bm.ul ?_ (by omega) | refine Bm.up ?_ (by omega))); exact hbk) (by (repeat (first | refine Bl.up ?_ (by omega) | refine Bl.ul ?_ (by omega))); exact hlk) (RN_room hR.2.2.1 hA.1 (by omega) (by (repeat (first | rw [qUp_eq] | rw [qUp_ne (by omega)]))) (fun j q => by (repeat rw [qUp_ne (by omega)]); exact ek j) (fun j => by (repeat rw [qUp_ne (by omega)]); exact ek2 j)) (un_room A x n)⟩
    · refine r_aload_n C dX11_room_19 rfl ?_
      refine r_ldc C dX11_room_20 kc_X11_72 ?_
      refine r_cvi (c := 1) C dX11_room_22 mv_X11_68 (c_X11_finding e l _ _) (by decide) rfl rfl rfl rfl (by decide) rfl rfl (Nat.le_of_ble_eq_true rfl) (fun z22 σ22 h22 => ?_)
      obtain ⟨rfl, rfl⟩ := h22
      refine r_iret C dX11_room_25 ?_
      have e1 : oRoom x n A = fnd A (-100001) := by unfold oRoom; repeat (first | rw [if_pos (by omega)] | rw [if_neg (by omega)])
      exact ⟨_, rfl, by rw [e1]; rfl, by rw [e1]; exact rel_mfnd hR _⟩
set_option maxRecDepth 20000 in
theorem m_text (e : qR) (l : Launch) (σ : qSt) (a b x d : Int) (A : aSt) (hR : RelM σ A) (hA : AOk A) (h_a : InI a) (h_b : InI b) (h_x : InI x) (h_d : InI d)  : CM (EM e) l yX11_text cX11_text 6 (some .int) 20 [qr 0 0, qi a, qi b, qi x, qi d] σ (Ri fun z σ' => z = (oText a b x d A).1 ∧ RelM σ' (oText a b x d A).2) := by
  refine CM.mk tM_ok (by decide +kernel) (Nat.le_of_ble_eq_true rfl) (fun G C => ?_)
  show G σ 0 [some (qr 0 0), some (qi a), some (qi b), some (qi x), some (qi d), none] []
  obtain ⟨hb, e0, n0, m0, e1w, n1, m1, e2t, n2, m2, e3l, n3, m3, hk0, hk20⟩ := mF hR hA
  refine r_iload_n C dX11_text_0 rfl ?_
  refine r_csi C dX11_text_1 ms_X11_132 (c_X11_isLand e l _ _ (by omega)) (by decide) rfl rfl (Nat.le_of_ble_eq_true rfl) (fun z1 σ1 h1 => ?_)
  obtain ⟨rfl, rfl⟩ := h1
  refine r_ifb_eq 31 C dX11_text_4 (by decide) (fun h4 => ?_) (fun h4 => ?_)
  · refine r_aload_n C dX11_text_31 rfl ?_
    refine r_ldc C dX11_text_32 kc_X11_72 ?_
    refine r_cvi (c := 1) C dX11_text_34 mv_X11_68 (c_X11_finding e l _ _) (by decide) rfl rfl rfl rfl (by decide) rfl rfl (Nat.le_of_ble_eq_true rfl) (fun z34 σ34 h34 => ?_)
    obtain ⟨rfl, rfl⟩ := h34
    refine r_iret C dX11_text_37 ?_
    have e1 : oText a b x d A = fnd A (-100001) := by unfold oText; repeat (first | rw [if_pos (by omega)] | rw [if_neg (by omega)])
    exact ⟨_, rfl, by rw [e1]; rfl, by rw [e1]; exact rel_mfnd hR _⟩
  · refine r_iload_n C dX11_text_7 rfl ?_
    refine r_iconst C dX11_text_8 ?_
    refine r_iconst C dX11_text_9 ?_
    refine r_csi C dX11_text_10 ms_X11_60 (c_X11_within e l _ _ _ _ (by omega) (by omega) (by omega)) (by decide) rfl rfl (Nat.le_of_ble_eq_true rfl) (fun z10 σ10 h10 => ?_)
    obtain ⟨rfl, rfl⟩ := h10
    refine r_ifb_eq 31 C dX11_text_13 (by decide) (fun h13 => ?_) (fun h13 => ?_)
    · refine r_aload_n C dX11_text_31 rfl ?_
      refine r_ldc C dX11_text_32 kc_X11_72 ?_
      refine r_cvi (c := 1) C dX11_text_34 mv_X11_68 (c_X11_finding e l _ _) (by decide) rfl rfl rfl rfl (by decide) rfl rfl (Nat.le_of_ble_eq_true rfl) (fun z34 σ34 h34 => ?_)
      obtain ⟨rfl, rfl⟩ := h34
      refine r_iret C dX11_text_37 ?_
      have e1 : oText a b x d A = fnd A (-100001) := by unfold oText; repeat (first | rw [if_pos (by omega)] | rw [if_neg (by omega)])
      exact ⟨_, rfl, by rw [e1]; rfl, by rw [e1]; exact rel_mfnd hR _⟩
    · refine r_iload_n C dX11_text_16 rfl ?_
      refine r_csi C dX11_text_17 ms_X11_89 (c_X11_isWord e l _ _ (by omega)) (by decide) rfl rfl (Nat.le_of_ble_eq_true rfl) (fun z17 σ17 h17 => ?_)
      obtain ⟨rfl, rfl⟩ := h17
      refine r_ifb_eq 31 C dX11_text_20 (by decide) (fun h20 => ?_) (fun h20 => ?_)
      · refine r_aload_n C dX11_text_31 rfl ?_
        refine r_ldc C dX11_text_32 kc_X11_72 ?_
        refine r_cvi (c := 1) C dX11_text_34 mv_X11_68 (c_X11_finding e l _ _) (by decide) rfl rfl rfl rfl (by decide) rfl rfl (Nat.le_of_ble_eq_true rfl) (fun z34 σ34 h34 => ?_)
        obtain ⟨rfl, rfl⟩ := h34
        refine r_iret C dX11_text_37 ?_
        have e1 : oText a b x d A = fnd A (-100001) := by unfold oText; repeat (first | rw [if_pos (by omega)] | rw [if_neg (by omega)])
        exact ⟨_, rfl, by rw [e1]; rfl, by rw [e1]; exact rel_mfnd hR _⟩
      · refine r_iload C dX11_text_23 rfl ?_
        refine r_csi C dX11_text_25 ms_X11_135 (c_X11_isDay e l _ _ (by omega)) (by decide) rfl rfl (Nat.le_of_ble_eq_true rfl) (fun z25 σ25 h25 => ?_)
        obtain ⟨rfl, rfl⟩ := h25
        refine r_ifb_ne 38 C dX11_text_28 (by decide) (fun h28 => ?_) (fun h28 => ?_)
        · refine r_aload_n C dX11_text_38 rfl ?_
          refine r_get_r (c := 1) C dX11_text_39 fl_X11_9 rfl rfl rfl (by decide) rfl ?_
          refine r_iconst C dX11_text_42 ?_
          refine r_iald (c := 1) (N := 365) C dX11_text_43 rfl rfl (by decide) (by omega) ?_
          have b43 := hb 1 0 2 (by omega) (by omega)
          refine r_istore C dX11_text_44 rfl rfl (by decide) ?_
          refine r_iload C dX11_text_46 rfl ?_
          refine r_bipush C dX11_text_48 ?_
          refine r_ic_ne 60 C dX11_text_50 (by decide) (by omega) (by omega) (fun h50 => ?_) (fun h50 => ?_)
          · refine r_aload_n C dX11_text_60 rfl ?_
            refine r_cvv (c := 1) C dX11_text_61 mv_X11_74 (c_X11_keep e l _ (by omega)) (by decide) rfl rfl rfl rfl (by decide) rfl rfl (Nat.le_of_ble_eq_true rfl) (fun σ61 h61 => ?_)
            have hk := kp_of (σ := σ) (by omega)
            rw [← h61] at hk
            have hbk : Bm σ61 := hk.2.2.2.2.2.2.1 hb
            have hlk : Bl σ61 := hk.2.2.2.2.2.2.2 hR.2.1
            have ek : ∀ j, σ61 1 0 j = σ 1 0 j := fun j => hk.1 _ _ _ (by omega) (by omega) (by omega)
            have ek2 : ∀ j, σ61 2 0 j = σ 2 0 j := fun j => hk.1 _ _ _ (by omega) (by omega) (by omega)
            refine r_aload_n C dX11_text_64 rfl ?_
            refine r_get_r (c := 1) C dX11_text_65 fl_X11_9 rfl rfl rfl (by decide) rfl ?_
            refine r_sipush C dX11_text_68 ?_
            refine r_iload C dX11_text_71 rfl ?_
            refine r_iadd C dX11_text_73 ?_
            refine r_iload_n C dX11_text_74 rfl ?_
            refine r_iload_n C dX11_text_75 rfl ?_
            refine r_iconst C dX11_text_76 ?_
            refine r_ishl (b * 4) C dX11_text_77 (z_shlP b 2 4 rfl (by omega) (by omega)) ?_
            refine r_ior (a + b * 4) C dX11_text_78 (z_orP a b 2 4 rfl (by omega) (by omega)) ?_
            refine r_iload_n C dX11_text_79 rfl ?_
            refine r_iconst C dX11_text_80 ?_
            refine r_ishl (x * 16) C dX11_text_81 (z_shlP x 4 16 rfl (by omega) (by omega)) ?_
            refine r_ior (a + b * 4 + x * 16) C dX11_text_82 (z_orP _ x 4 16 rfl (by omega) (by omega)) ?_
            refine r_iload C dX11_text_83 rfl ?_
            refine r_bipush C dX11_text_85 ?_
            refine r_ishl (d * 512) C dX11_text_87 (z_shlP d 9 512 rfl (by omega) (by omega)) ?_
            refine r_ior (a + b * 4 + x * 16 + d * 512) C dX11_text_88 (z_orP _ d 9 512 rfl (by omega) (by omega)) ?_
            refine r_iast (c := 1) (N := 365) C dX11_text_89 rfl rfl (by decide) (by omega) ?_
            refine r_aload_n C dX11_text_90 rfl ?_
            refine r_get_r (c := 1) C dX11_text_91 fl_X11_9 rfl rfl rfl (by decide) rfl ?_
            refine r_iconst C dX11_text_94 ?_
            refine r_dup2 C dX11_text_95 ?_
            refine r_iald (c := 1) (N := 365) C dX11_text_96 rfl rfl (by decide) (by omega) ?_
            refine r_v (b := (σ 1 0 2)) (by (repeat rw [qUp_ne (by omega)]); exact ek 2) ?_
            refine r_iconst C dX11_text_97 ?_
            refine r_iadd C dX11_text_98 ?_
            refine r_iast (c := 1) (N := 365) C dX11_text_99 rfl rfl (by decide) (by omega) ?_
            refine r_iload C dX11_text_100 rfl ?_
            refine r_iconst C dX11_text_102 ?_
            refine r_iadd C dX11_text_103 ?_
            refine r_iret C dX11_text_104 ?_
            have e1 : oText a b x d A = (nTx A + 1, psh A (6, 0, 0, []) (sT A.1 (cT A.1 ++ [(a, b, x, d)]))) := by unfold oText; repeat (first | rw [if_pos (by omega)] | rw [if_neg (by omega)])
            exact ⟨_, rfl, by rw [e1] <;> (try (show _ = _; omega)), by rw [e1]; exact rel_mpsh hR hA hk (fun x b z q1 q2 => by (repeat rw [qUp_ne (by omega)])) (by (repeat (first | refine Bm.ul ?_ (by omega) | refine Bm.up ?_ (by omega))); exact hbk) (by (repeat (first | refine Bl.up ?_ (by omega) | refine Bl.ul ?_ (by omega))); exact hlk) (RN_text (n := σ 1 0 2) hR.2.2.1 hA.1 (by have q : nTx A = ((cT A.1).length : Int) := rfl; omega) rfl (by (repeat (first | rw [qUp_eq] | rw [qUp_ne (by omega)]))) (by (repeat (first | rw [qUp_eq] | rw [qUp_ne (by omega)])); show _ = a + 4 * b + 16 * x + 512 * d; omega) (fun j q => by (repeat rw [qUp_ne (by omega)]); exact ek j) (fun j => by (repeat rw [qUp_ne (by omega)]); exact ek2 j)) (un_text A (a, b, x, d))⟩
          · refine r_aload_n C dX11_text_53 rfl ?_
            refine r_ldc C dX11_text_54 kc_X11_73 ?_
            refine r_cvi (c := 1) C dX11_text_56 mv_X11_68 (c_X11_finding e l _ _) (by decide) rfl rfl rfl rfl (by decide) rfl rfl (Nat.le_of_ble_eq_true rfl) (fun z56 σ56 h56 => ?_)
            obtain ⟨rfl, rfl⟩ := h56
            refine r_iret C dX11_text_59 ?_
            have e1 : oText a b x d A = fnd A (-100005) := by unfold oText; repeat (first | rw [if_pos (by omega)] | rw [if_neg (by omega)])
            exact ⟨_, rfl, by rw [e1]; rfl, by rw [e1]; exact rel_mfnd hR _⟩
        · refine r_aload_n C dX11_text_31 rfl ?_
          refine r_ldc C dX11_text_32 kc_X11_72 ?_
          refine r_cvi (c := 1) C dX11_text_34 mv_X11_68 (c_X11_finding e l _ _) (by decide) rfl rfl rfl rfl (by decide) rfl rfl (Nat.le_of_ble_eq_true rfl) (fun z34 σ34 h34 => ?_)
          obtain ⟨rfl, rfl⟩ := h34
          refine r_iret C dX11_text_37 ?_
          have e1 : oText a b x d A = fnd A (-100001) := by unfold oText; repeat (first | rw [if_pos (by omega)] | rw [if_neg (by omega)])
          exact ⟨_, rfl, by rw [e1]; rfl, by rw [e1]; exact rel_mfnd hR _⟩
set_option maxRecDepth 20000 in
theorem m_loop (e : qR) (l : Launch) (σ : qSt) (x : Int) (A : aSt) (hR : RelM σ A) (hA : AOk A) (h_x : InI x)  : CM (EM e) l yX11_loop cX11_loop 3 (some .int) 20 [qr 0 0, qi x] σ (Ri fun z σ' => z = (oLoop x A).1 ∧ RelM σ' (oLoop x A).2) := by
  refine CM.mk tM_ok (by decide +kernel) (Nat.le_of_ble_eq_true rfl) (fun G C => ?_)
  show G σ 0 [some (qr 0 0), some (qi x), none] []
  obtain ⟨hb, e0, n0, m0, e1w, n1, m1, e2t, n2, m2, e3l, n3, m3, hk0, hk20⟩ := mF hR hA
  have hkk : (σ 1 0 0).toNat = (cL A.1).length := by have : σ 1 0 0 = ((cL A.1).length : Int) := e0; omega
  have hk2 : (cL A.1).length ≤ 12 := by have : ((cL A.1).length : Int) ≤ 12 := m0; omega
  obtain ⟨g1, g2, g3, g4, g5, g6⟩ := hi_rng (x := x) hk2 (by omega)
  refine r_iload_n C dX11_loop_0 rfl ?_
  refine r_iconst C dX11_loop_1 ?_
  refine r_iconst C dX11_loop_2 ?_
  refine r_aload_n C dX11_loop_3 rfl ?_
  refine r_get_r (c := 1) C dX11_loop_4 fl_X11_9 rfl rfl rfl (by decide) rfl ?_
  refine r_iconst C dX11_loop_7 ?_
  refine r_iald (c := 1) (N := 365) C dX11_loop_8 rfl rfl (by decide) (by omega) ?_
  have b8 := hb 1 0 0 (by omega) (by omega)
  refine r_ishl _ C dX11_loop_9 (z_shl1 (by omega)) ?_
  rw [hkk]
  refine r_iconst C dX11_loop_10 ?_
  refine r_isub C dX11_loop_11 ?_
  refine r_csi C dX11_loop_12 ms_X11_60 (c_X11_within e l _ _ _ _ (by omega) (by omega) (by omega)) (by decide) rfl rfl (Nat.le_of_ble_eq_true rfl) (fun z12 σ12 h12 => ?_)
  obtain ⟨rfl, rfl⟩ := h12
  refine r_ifb_ne 25 C dX11_loop_15 (by decide) (fun h15 => ?_) (fun h15 => ?_)
  · refine r_iload_n C dX11_loop_25 rfl ?_
    refine r_if_ne 36 C dX11_loop_26 (by decide) (by omega) (fun h26 => ?_) (fun h26 => ?_)
    · refine r_aload_n C dX11_loop_36 rfl ?_
      refine r_get_r (c := 1) C dX11_loop_37 fl_X11_9 rfl rfl rfl (by decide) rfl ?_
      refine r_iconst C dX11_loop_40 ?_
      refine r_iald (c := 1) (N := 365) C dX11_loop_41 rfl rfl (by decide) (by omega) ?_
      have b41 := hb 1 0 3 (by omega) (by omega)
      refine r_istore_n C dX11_loop_42 rfl rfl (by decide) ?_
      refine r_iload_n C dX11_loop_43 rfl ?_
      refine r_bipush C dX11_loop_44 ?_
      refine r_ic_ne 56 C dX11_loop_46 (by decide) (by omega) (by omega) (fun h46 => ?_) (fun h46 => ?_)
      · refine r_aload_n C dX11_loop_56 rfl ?_
        refine r_cvv (c := 1) C dX11_loop_57 mv_X11_74 (c_X11_keep e l _ (by omega)) (by decide) rfl rfl rfl rfl (by decide) rfl rfl (Nat.le_of_ble_eq_true rfl) (fun σ57 h57 => ?_)
        have hk := kp_of (σ := σ) (by omega)
        rw [← h57] at hk
        have hbk : Bm σ57 := hk.2.2.2.2.2.2.1 hb
        have hlk : Bl σ57 := hk.2.2.2.2.2.2.2 hR.2.1
        have ek : ∀ j, σ57 1 0 j = σ 1 0 j := fun j => hk.1 _ _ _ (by omega) (by omega) (by omega)
        have ek2 : ∀ j, σ57 2 0 j = σ 2 0 j := fun j => hk.1 _ _ _ (by omega) (by omega) (by omega)
        refine r_aload_n C dX11_loop_60 rfl ?_
        refine r_get_r (c := 1) C dX11_loop_61 fl_X11_9 rfl rfl rfl (by decide) rfl ?_
        refine r_sipush C dX11_loop_64 ?_
        refine r_iload_n C dX11_loop_67 rfl ?_
        refine r_iadd C dX11_loop_68 ?_
        refine r_iload_n C dX11_loop_69 rfl ?_
        refine r_iast (c := 1) (N := 365) C dX11_loop_70 rfl rfl (by decide) (by omega) ?_
        refine r_aload_n C dX11_loop_71 rfl ?_
        refine r_get_r (c := 1) C dX11_loop_72 fl_X11_9 rfl rfl rfl (by decide) rfl ?_
        refine r_iconst C dX11_loop_75 ?_
        refine r_dup2 C dX11_loop_76 ?_
        refine r_iald (c := 1) (N := 365) C dX11_loop_77 rfl rfl (by decide) (by omega) ?_
        refine r_v (b := (σ 1 0 3)) (by (repeat rw [qUp_ne (by omega)]); exact ek 3) ?_
        refine r_iconst C dX11_loop_78 ?_
        refine r_iadd C dX11_loop_79 ?_
        refine r_iast (c := 1) (N := 365) C dX11_loop_80 rfl rfl (by decide) (by omega) ?_
        refine r_iload_n C dX11_loop_81 rfl ?_
        refine r_iret C dX11_loop_82 ?_
        have e1 : oLoop x A = (nLp A, psh A (10, 0, 0, []) (sO A.1 (cO A.1 ++ [x]))) := by unfold oLoop; repeat (first | rw [if_pos (by omega)] | rw [if_neg (by omega)])
        exact ⟨_, rfl, by rw [e1] <;> (try (show _ = _; omega)), by rw [e1]; exact rel_mpsh hR hA hk (fun x b z q1 q2 => by (repeat rw [qUp_ne (by omega)])) (by (repeat (first | refine Bm.ul ?_ (by omega) | refine Bm.up ?_ (by omega))); exact hbk) (by (repeat (first | refine Bl.up ?_ (by omega) | refine Bl.ul ?_ (by omega))); exact hlk) (RN_loop (n := σ 1 0 3) hR.2.2.1 hA.1 (by have q : nLp A = ((cO A.1).length : Int) := rfl; omega) rfl (by (repeat (first | rw [qUp_eq] | rw [qUp_ne (by omega)]))) (by (repeat (first | rw [qUp_eq] | rw [qUp_ne (by omega)]))) (fun j q => by (repeat rw [qUp_ne (by omega)]); exact ek j) (fun j => by (repeat rw [qUp_ne (by omega)]); exact ek2 j)) (un_loop A x)⟩
      · refine r_aload_n C dX11_loop_49 rfl ?_
        refine r_ldc C dX11_loop_50 kc_X11_73 ?_
        refine r_cvi (c := 1) C dX11_loop_52 mv_X11_68 (c_X11_finding e l _ _) (by decide) rfl rfl rfl rfl (by decide) rfl rfl (Nat.le_of_ble_eq_true rfl) (fun z52 σ52 h52 => ?_)
        obtain ⟨rfl, rfl⟩ := h52
        refine r_iret C dX11_loop_55 ?_
        have e1 : oLoop x A = fnd A (-100005) := by unfold oLoop; repeat (first | rw [if_pos (by omega)] | rw [if_neg (by omega)])
        exact ⟨_, rfl, by rw [e1]; rfl, by rw [e1]; exact rel_mfnd hR _⟩
    · refine r_aload_n C dX11_loop_29 rfl ?_
      refine r_ldc C dX11_loop_30 kc_X11_92 ?_
      refine r_cvi (c := 1) C dX11_loop_32 mv_X11_68 (c_X11_finding e l _ _) (by decide) rfl rfl rfl rfl (by decide) rfl rfl (Nat.le_of_ble_eq_true rfl) (fun z32 σ32 h32 => ?_)
      obtain ⟨rfl, rfl⟩ := h32
      refine r_iret C dX11_loop_35 ?_
      have e1 : oLoop x A = fnd A (-100003) := by unfold oLoop; repeat (first | rw [if_pos (by omega)] | rw [if_neg (by omega)])
      exact ⟨_, rfl, by rw [e1]; rfl, by rw [e1]; exact rel_mfnd hR _⟩
  · refine r_aload_n C dX11_loop_18 rfl ?_
    refine r_ldc C dX11_loop_19 kc_X11_72 ?_
    refine r_cvi (c := 1) C dX11_loop_21 mv_X11_68 (c_X11_finding e l _ _) (by decide) rfl rfl rfl rfl (by decide) rfl rfl (Nat.le_of_ble_eq_true rfl) (fun z21 σ21 h21 => ?_)
    obtain ⟨rfl, rfl⟩ := h21
    refine r_iret C dX11_loop_24 ?_
    have e1 : oLoop x A = fnd A (-100001) := by unfold oLoop; repeat (first | rw [if_pos (by omega)] | rw [if_neg (by omega)])
    exact ⟨_, rfl, by rw [e1]; rfl, by rw [e1]; exact rel_mfnd hR _⟩
set_option maxRecDepth 20000 in
theorem m_unloop (e : qR) (l : Launch) (σ : qSt) (A : aSt) (hR : RelM σ A) (hA : AOk A)   : CM (EM e) l yX11_unloop cX11_unloop 1 (some .int) 20 [qr 0 0] σ (Ri fun z σ' => z = (oUnloop A).1 ∧ RelM σ' (oUnloop A).2) := by
  refine CM.mk tM_ok (by decide +kernel) (Nat.le_of_ble_eq_true rfl) (fun G C => ?_)
  show G σ 0 [some (qr 0 0)] []
  obtain ⟨hb, e0, n0, m0, e1w, n1, m1, e2t, n2, m2, e3l, n3, m3, hk0, hk20⟩ := mF hR hA
  refine r_aload_n C dX11_unloop_0 rfl ?_
  refine r_get_r (c := 1) C dX11_unloop_1 fl_X11_9 rfl rfl rfl (by decide) rfl ?_
  refine r_iconst C dX11_unloop_4 ?_
  refine r_iald (c := 1) (N := 365) C dX11_unloop_5 rfl rfl (by decide) (by omega) ?_
  have b5 := hb 1 0 3 (by omega) (by omega)
  refine r_if_ne 16 C dX11_unloop_6 (by decide) (by omega) (fun h6 => ?_) (fun h6 => ?_)
  · refine r_aload_n C dX11_unloop_16 rfl ?_
    refine r_cvv (c := 1) C dX11_unloop_17 mv_X11_74 (c_X11_keep e l _ (by omega)) (by decide) rfl rfl rfl rfl (by decide) rfl rfl (Nat.le_of_ble_eq_true rfl) (fun σ17 h17 => ?_)
    have hk := kp_of (σ := σ) (by omega)
    rw [← h17] at hk
    have hbk : Bm σ17 := hk.2.2.2.2.2.2.1 hb
    have hlk : Bl σ17 := hk.2.2.2.2.2.2.2 hR.2.1
    have ek : ∀ j, σ17 1 0 j = σ 1 0 j := fun j => hk.1 _ _ _ (by omega) (by omega) (by omega)
    have ek2 : ∀ j, σ17 2 0 j = σ 2 0 j := fun j => hk.1 _ _ _ (by omega) (by omega) (by omega)
    refine r_aload_n C dX11_unloop_20 rfl ?_
    refine r_get_r (c := 1) C dX11_unloop_21 fl_X11_9 rfl rfl rfl (by decide) rfl ?_
    refine r_iconst C dX11_unloop_24 ?_
    refine r_dup2 C dX11_unloop_25 ?_
    refine r_iald (c := 1) (N := 365) C dX11_unloop_26 rfl rfl (by decide) (by omega) ?_
    have b26 := hbk 1 0 3 (by omega) (by omega)
    refine r_v (b := (σ 1 0 3)) (by (repeat rw [qUp_ne (by omega)]); exact ek 3) ?_
    refine r_iconst C dX11_unloop_27 ?_
    refine r_isub C dX11_unloop_28 ?_
    refine r_iast (c := 1) (N := 365) C dX11_unloop_29 rfl rfl (by decide) (by omega) ?_
    refine r_aload_n C dX11_unloop_30 rfl ?_
    refine r_get_r (c := 1) C dX11_unloop_31 fl_X11_9 rfl rfl rfl (by decide) rfl ?_
    refine r_iconst C dX11_unloop_34 ?_
    refine r_iald (c := 1) (N := 365) C dX11_unloop_35 rfl rfl (by decide) (by omega) ?_
    refine r_v (b := ((σ 1 0 3) - 1)) (by simp [qUp, qCpy]) ?_
    refine r_iret C dX11_unloop_36 ?_
    have e1 : oUnloop A = (nLp A - 1, psh A (11, 0, (cO A.1).getD ((cO A.1).length - 1) 0, []) (sO A.1 (cO A.1).dropLast)) := by unfold oUnloop; repeat (first | rw [if_pos (by omega)] | rw [if_neg (by omega)])
    exact ⟨_, rfl, by rw [e1] <;> (try (show _ = _; omega)), by rw [e1]; exact rel_mpsh hR hA hk (fun x b z q1 q2 => by (repeat rw [qUp_ne (by omega)])) (by (repeat (first | refine Bm.ul ?_ (by omega) | refine Bm.up ?_ (by omega))); exact hbk) (by (repeat (first | refine Bl.up ?_ (by omega) | refine Bl.ul ?_ (by omega))); exact hlk) (RN_unloop hR.2.2.1 hA.1 (by have q : nLp A = ((cO A.1).length : Int) := rfl; omega) (by (repeat (first | rw [qUp_eq] | rw [qUp_ne (by omega)]))) (fun j q => by (repeat rw [qUp_ne (by omega)]); exact ek j) (fun j => by (repeat rw [qUp_ne (by omega)]); exact ek2 j)) (un_unloop (by have q : nLp A = ((cO A.1).length : Int) := rfl; omega))⟩
  · refine r_aload_n C dX11_unloop_9 rfl ?_
    refine r_ldc C dX11_unloop_10 kc_X11_67 ?_
    refine r_cvi (c := 1) C dX11_unloop_12 mv_X11_68 (c_X11_finding e l _ _) (by decide) rfl rfl rfl rfl (by decide) rfl rfl (Nat.le_of_ble_eq_true rfl) (fun z12 σ12 h12 => ?_)
    obtain ⟨rfl, rfl⟩ := h12
    refine r_iret C dX11_unloop_15 ?_
    have e1 : oUnloop A = fnd A (-100006) := by unfold oUnloop; repeat (first | rw [if_pos (by omega)] | rw [if_neg (by omega)])
    exact ⟨_, rfl, by rw [e1]; rfl, by rw [e1]; exact rel_mfnd hR _⟩
set_option maxRecDepth 20000 in
theorem m_all (e : qR) (l : Launch) (σ : qSt) (k : Int) (A : aSt) (hR : RelM σ A) (hA : AOk A) (h_k : InI k) : CM (EM e) l yX11_all cX11_all 2 (some .int) 20 [qr 0 0, qi k] σ (Ri fun z σ' => z = (oAll k A).1 ∧ RelM σ' (oAll k A).2) := by
  refine CM.mk tM_ok (by decide +kernel) (Nat.le_of_ble_eq_true rfl) (fun G C => ?_)
  show G σ 0 [some (qr 0 0), some (qi k)] []
  obtain ⟨hb, e0, n0, m0, e1w, n1, m1, e2t, n2, m2, e3l, n3, m3, hk0, hk20⟩ := mF hR hA
  refine r_iload_n C dX11_all_0 rfl ?_
  refine r_iconst C dX11_all_1 ?_
  refine r_iconst C dX11_all_2 ?_
  refine r_csi C dX11_all_3 ms_X11_60 (c_X11_within e l _ _ _ _ (by omega) (by omega) (by omega)) (by decide) rfl rfl (Nat.le_of_ble_eq_true rfl) (fun z3 σ3 h3 => ?_)
  obtain ⟨rfl, rfl⟩ := h3
  refine r_ifb_ne 16 C dX11_all_6 (by decide) (fun h6 => ?_) (fun h6 => ?_)
  · refine r_iload_n C dX11_all_16 rfl ?_
    refine r_iconst C dX11_all_17 ?_
    refine r_ic_ge 30 C dX11_all_18 (by decide) (by omega) (by omega) (fun h18 => ?_) (fun h18 => ?_)
    · refine r_aload_n C dX11_all_30 rfl ?_
      refine r_get_i (c := 1) 5 C dX11_all_31 fl_X11_56 rfl rfl rfl rfl (by decide) ?_
      refine r_iret C dX11_all_34 ?_
      have e1 : oAll k A = (A.2.2.1, A) := by unfold oAll; repeat (first | rw [if_pos (by omega)] | rw [if_neg (by omega)])
      exact ⟨_, rfl, by rw [e1]; exact hR.2.2.2.2.2.2, by rw [e1]; exact hR⟩
    · refine r_aload_n C dX11_all_21 rfl ?_
      refine r_get_r (c := 1) C dX11_all_22 fl_X11_9 rfl rfl rfl (by decide) rfl ?_
      refine r_iload_n C dX11_all_25 rfl ?_
      refine r_iald (c := 1) (N := 365) C dX11_all_26 rfl rfl (by decide) (by omega) ?_
      have b26 := hb 1 0 k (by omega) (by omega)
      refine r_goto 34 C dX11_all_27 (by decide) ?_
      refine r_iret C dX11_all_34 ?_
      rcases (by omega : k = 0 ∨ k = 1 ∨ k = 2 ∨ k = 3) with rfl | rfl | rfl | rfl
      · have e1 : oAll 0 A = (nLn A, A) := by unfold oAll; repeat (first | rw [if_pos (by omega)] | rw [if_neg (by omega)])
        exact ⟨_, rfl, by rw [e1]; exact e0, by rw [e1]; exact hR⟩
      · have e1 : oAll 1 A = (nWd A, A) := by unfold oAll; repeat (first | rw [if_pos (by omega)] | rw [if_neg (by omega)])
        exact ⟨_, rfl, by rw [e1]; exact e1w, by rw [e1]; exact hR⟩
      · have e1 : oAll 2 A = (nTx A, A) := by unfold oAll; repeat (first | rw [if_pos (by omega)] | rw [if_neg (by omega)])
        exact ⟨_, rfl, by rw [e1]; exact e2t, by rw [e1]; exact hR⟩
      · have e1 : oAll 3 A = (nLp A, A) := by unfold oAll; repeat (first | rw [if_pos (by omega)] | rw [if_neg (by omega)])
        exact ⟨_, rfl, by rw [e1]; exact e3l, by rw [e1]; exact hR⟩
  · refine r_aload_n C dX11_all_9 rfl ?_
    refine r_ldc C dX11_all_10 kc_X11_72 ?_
    refine r_cvi (c := 1) C dX11_all_12 mv_X11_68 (c_X11_finding e l _ _) (by decide) rfl rfl rfl rfl (by decide) rfl rfl (Nat.le_of_ble_eq_true rfl) (fun z12 σ12 h12 => ?_)
    obtain ⟨rfl, rfl⟩ := h12
    refine r_iret C dX11_all_15 ?_
    have e1 : oAll k A = fnd A (-100001) := by unfold oAll; repeat (first | rw [if_pos (by omega)] | rw [if_neg (by omega)])
    exact ⟨_, rfl, by rw [e1]; rfl, by rw [e1]; exact rel_mfnd hR _⟩
