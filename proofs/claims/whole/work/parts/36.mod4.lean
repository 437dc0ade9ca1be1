/-! the reference's calls: acts that can be undone, and what is told -/
theorem z_shlP (a b P : Int) (hP : P = 2 ^ b.toNat) (ha : 0 ≤ a) (hb : 0 ≤ b ∧ b < 32) : Int32.ofInt a <<< (Int32.ofInt b &&& 31) = Int32.ofInt (a * P) := by
  have h := z_shl (a := a.toNat) hb
  rw [Int.toNat_of_nonneg ha] at h
  rw [h, hP]
  congr 1
  rw [Int.natCast_mul, Int.toNat_of_nonneg ha]
  norm_cast
theorem xl_shlI (a b : Int) (ha : 0 ≤ a) (hb : 0 ≤ b ∧ b < 64) : Int64.ofInt a <<< ((Int32.ofInt b).toInt64 &&& 63) = Int64.ofInt (a * 2 ^ b.toNat) := by
  have h := xl_shl (a := a.toNat) hb
  rw [Int.toNat_of_nonneg ha] at h
  rw [h]
  congr 1
  rw [Int.natCast_mul, Int.toNat_of_nonneg ha]
  norm_cast
theorem z_orP (a c : Int) (k : Nat) (P : Int) (hP : P = 2 ^ k) (ha : 0 ≤ a ∧ a < P) (hc : 0 ≤ c) : Int32.ofInt a ||| Int32.ofInt (c * P) = Int32.ofInt (a + c * P) := by
  have e : ((2 ^ k : Nat) : Int) = (2 : Int) ^ k := by norm_cast
  have h := nx_or a.toNat (c.toNat * 2 ^ k)
  rw [Nat.or_comm, or_add (by omega)] at h
  rw [Int.natCast_add, Int.natCast_mul, Int.toNat_of_nonneg hc, Int.toNat_of_nonneg ha.1, e, ← hP] at h
  rw [h, Int.add_comm]
theorem fr_dif {a b wn : Int} (ha : 0 ≤ a) (hwn : Int64.ofInt (3 * 2 ^ b.toNat) ^^^ Int64.ofInt (-1) = Int64.ofInt wn) : Int64.ofInt a &&& Int64.ofInt wn = Int64.ofInt ((a.toNat ^^^ (a.toNat &&& (3 * 2 ^ b.toNat)) : Nat) : Int) := by
  have h := xl_dif a.toNat (3 * 2 ^ b.toNat)
  rw [Int.toNat_of_nonneg ha] at h
  rw [← hwn, ← h]
  congr 3
theorem fr_or {a s n : Int} (ha : 0 ≤ a) (hs : 0 ≤ s ∧ s < 4) (hn : 0 ≤ n) : Int64.ofInt ((a.toNat ^^^ (a.toNat &&& (3 * 2 ^ (2 * n).toNat)) : Nat) : Int) ||| Int64.ofInt (s * 2 ^ (2 * n).toNat) = Int64.ofInt (a - dg a n * 4 ^ n.toNat + s * 4 ^ n.toNat) := by
  have h := xl_or (a.toNat ^^^ (a.toNat &&& (3 * 2 ^ (2 * n).toNat))) (s.toNat * 2 ^ (2 * n).toNat)
  have e : ((s.toNat * 2 ^ (2 * n).toNat : Nat) : Int) = s * 2 ^ (2 * n).toNat := by
    rw [Int.natCast_mul, Int.toNat_of_nonneg hs.1]
    norm_cast
  rw [e, put_pair (by omega)] at h
  rw [h]
  congr 1
  have e4 : (4 : Int) ^ n.toNat = ((2 ^ (2 * n).toNat : Nat) : Int) := by
    rw [p4, show (2 * n).toNat = 2 * n.toNat by omega]
    norm_cast
  have hle : a.toNat / 2 ^ (2 * n).toNat % 4 * 2 ^ (2 * n).toNat ≤ a.toNat := Nat.le_trans (Nat.mul_le_mul_right _ (Nat.mod_le _ _)) (Nat.div_mul_le_self _ _)
  unfold dg
  rw [e4]
  generalize 2 ^ (2 * n).toNat = P at *
  rw [Int.natCast_add, Int.ofNat_sub hle, Int.natCast_mul, Int.natCast_mul, Int.natCast_emod, Int.natCast_ediv, Int.toNat_of_nonneg ha, Int.toNat_of_nonneg hs.1]
  rfl
theorem fr_rng {a s n : Int} (ha : 0 ≤ a ∧ a < 281474976710656) (hs : 0 ≤ s ∧ s < 4) (hn : 0 ≤ n ∧ n < 24) : 0 ≤ a - dg a n * 4 ^ n.toNat + s * 4 ^ n.toNat ∧ a - dg a n * 4 ^ n.toNat + s * 4 ^ n.toNat < 281474976710656 := by
  unfold dg
  obtain ⟨k, rfl⟩ : ∃ k : Nat, n = k := ⟨n.toNat, by omega⟩
  simp only [Int.toNat_natCast]
  have hk : k < 24 := by omega
  rcases (by omega : k = 0 ∨ k = 1 ∨ k = 2 ∨ k = 3 ∨ k = 4 ∨ k = 5 ∨ k = 6 ∨ k = 7 ∨ k = 8 ∨ k = 9 ∨ k = 10 ∨ k = 11 ∨ k = 12 ∨ k = 13 ∨ k = 14 ∨ k = 15 ∨ k = 16 ∨ k = 17 ∨ k = 18 ∨ k = 19 ∨ k = 20 ∨ k = 21 ∨ k = 22 ∨ k = 23) with rfl | rfl | rfl | rfl | rfl | rfl | rfl | rfl | rfl | rfl | rfl | rfl | rfl | rfl | rfl | rfl | rfl | rfl | rfl | rfl | rfl | rfl | rfl | rfl
  all_goals (simp only [Int.reducePow]; omega)
set_option maxRecDepth 20000 in
theorem c_X11_shapeOf (e : qR) (l : Launch) (σ : qSt) (x i : Int) (hl : Bl σ) (hx : 0 ≤ x ∧ x < 12) (hi : 0 ≤ i ∧ i < 32) : CM (EM e) l yX11_shapeOf cX11_shapeOf 3 (some .int) 2 [qr 0 0, qi x, qi i] σ (Ri fun z σ' => z = dg (σ 2 0 x) i ∧ σ = σ') := by
  refine CM.mk tM_ok (by decide +kernel) (Nat.le_of_ble_eq_true rfl) (fun G C => ?_)
  show G σ 0 [some (qr 0 0), some (qi x), some (qi i)] []
  refine r_aload_n C dX11_shapeOf_0 rfl ?_
  refine r_get_r (c := 1) C dX11_shapeOf_1 fl_X11_13 rfl rfl rfl (by decide) rfl ?_
  refine r_iload_n C dX11_shapeOf_4 rfl ?_
  refine r_lald (c := 1) (N := 12) C dX11_shapeOf_5 rfl rfl (by decide) (by omega) ?_
  refine r_iconst C dX11_shapeOf_6 ?_
  refine r_iload_n C dX11_shapeOf_7 rfl ?_
  refine r_imul C dX11_shapeOf_8 ?_
  refine r_lshr _ C dX11_shapeOf_9 (xl_shr (by have := hl 2 x (by omega); omega) (by omega)) ?_
  refine r_ldc2 C dX11_shapeOf_10 kc_X11_81 ?_
  refine r_land _ C dX11_shapeOf_13 (xl_m3 (Int.ediv_nonneg (hl 2 x (by omega)).1 (Int.pow_nonneg (by decide)))) ?_
  refine r_l2i _ C dX11_shapeOf_14 (xl_l2i _) ?_
  refine r_iret C dX11_shapeOf_15 ?_
  exact ⟨_, rfl, by unfold dg; rw [p4, show (2 * i).toNat = 2 * i.toNat by omega], rfl⟩
set_option maxRecDepth 20000 in
theorem c_X11_syllableOf (e : qR) (l : Launch) (σ : qSt) (x i : Int) (hx : 0 ≤ x ∧ x < 20) (hi : 0 ≤ i ∧ i < 8) : CM (EM e) l yX11_syllableOf cX11_syllableOf 3 (some .int) 2 [qr 0 0, qi x, qi i] σ (Ri fun z σ' => z = σ 1 0 (108 + 8 * x + i) ∧ σ = σ') := by
  refine CM.mk tM_ok (by decide +kernel) (Nat.le_of_ble_eq_true rfl) (fun G C => ?_)
  show G σ 0 [some (qr 0 0), some (qi x), some (qi i)] []
  refine r_aload_n C dX11_syllableOf_0 rfl ?_
  refine r_get_r (c := 1) C dX11_syllableOf_1 fl_X11_9 rfl rfl rfl (by decide) rfl ?_
  refine r_bipush C dX11_syllableOf_4 ?_
  refine r_bipush C dX11_syllableOf_6 ?_
  refine r_iload_n C dX11_syllableOf_8 rfl ?_
  refine r_imul C dX11_syllableOf_9 ?_
  refine r_iadd C dX11_syllableOf_10 ?_
  refine r_iload_n C dX11_syllableOf_11 rfl ?_
  refine r_iadd C dX11_syllableOf_12 ?_
  refine r_iald (c := 1) (N := 365) C dX11_syllableOf_13 rfl rfl (by decide) (by omega) ?_
  refine r_iret C dX11_syllableOf_14 ?_
  exact ⟨_, rfl, rfl, rfl⟩
set_option maxRecDepth 20000 in
theorem m_line (e : qR) (l : Launch) (σ : qSt) (p : Int) (A : aSt) (hR : RelM σ A) (hA : AOk A) (h_p : InI p)  : CM (EM e) l yX11_line cX11_line 3 (some .int) 20 [qr 0 0, qi p] σ (Ri fun z σ' => z = (oLine p A).1 ∧ RelM σ' (oLine p A).2) := by
  refine CM.mk tM_ok (by decide +kernel) (Nat.le_of_ble_eq_true rfl) (fun G C => ?_)
  show G σ 0 [some (qr 0 0), some (qi p), none] []
  obtain ⟨hb, e0, n0, m0, e1w, n1, m1, e2t, n2, m2, e3l, n3, m3, hk0, hk20⟩ := mF hR hA
  refine r_iload_n C dX11_line_0 rfl ?_
  refine r_iconst C dX11_line_1 ?_
  refine r_iconst C dX11_line_2 ?_
  refine r_csi C dX11_line_3 ms_X11_60 (c_X11_within e l _ _ _ _ (by omega) (by omega) (by omega)) (by decide) rfl rfl (Nat.le_of_ble_eq_true rfl) (fun z3 σ3 h3 => ?_)
  obtain ⟨rfl, rfl⟩ := h3
  refine r_ifb_ne 16 C dX11_line_6 (by decide) (fun h6 => ?_) (fun h6 => ?_)
  · refine r_aload_n C dX11_line_16 rfl ?_
    refine r_get_r (c := 1) C dX11_line_17 fl_X11_9 rfl rfl rfl (by decide) rfl ?_
    refine r_iconst C dX11_line_20 ?_
    refine r_iald (c := 1) (N := 365) C dX11_line_21 rfl rfl (by decide) (by omega) ?_
    have b21 := hb 1 0 0 (by omega) (by omega)
    refine r_istore_n C dX11_line_22 rfl rfl (by decide) ?_
    refine r_iload_n C dX11_line_23 rfl ?_
    refine r_bipush C dX11_line_24 ?_
    refine r_ic_ne 36 C dX11_line_26 (by decide) (by omega) (by omega) (fun h26 => ?_) (fun h26 => ?_)
    · refine r_aload_n C dX11_line_36 rfl ?_
      refine r_cvv (c := 1) C dX11_line_37 mv_X11_74 (c_X11_keep e l _ (by omega)) (by decide) rfl rfl rfl rfl (by decide) rfl rfl (Nat.le_of_ble_eq_true rfl) (fun σ37 h37 => ?_)
      have hk := kp_of (σ := σ) (by omega)
      rw [← h37] at hk
      have hbk : Bm σ37 := hk.2.2.2.2.2.2.1 hb
      have hlk : Bl σ37 := hk.2.2.2.2.2.2.2 hR.2.1
      have ek : ∀ j, σ37 1 0 j = σ 1 0 j := fun j => hk.1 _ _ _ (by omega) (by omega) (by omega)
      have ek2 : ∀ j, σ37 2 0 j = σ 2 0 j := fun j => hk.1 _ _ _ (by omega) (by omega) (by omega)
      refine r_aload_n C dX11_line_40 rfl ?_
      refine r_get_r (c := 1) C dX11_line_41 fl_X11_9 rfl rfl rfl (by decide) rfl ?_
      refine r_iconst C dX11_line_44 ?_
      refine r_iload_n C dX11_line_45 rfl ?_
      refine r_iadd C dX11_line_46 ?_
      refine r_iload_n C dX11_line_47 rfl ?_
      refine r_iast (c := 1) (N := 365) C dX11_line_48 rfl rfl (by decide) (by omega) ?_
      refine r_aload_n C dX11_line_49 rfl ?_
      refine r_get_r (c := 1) C dX11_line_50 fl_X11_9 rfl rfl rfl (by decide) rfl ?_
      refine r_bipush C dX11_line_53 ?_
      refine r_iload_n C dX11_line_55 rfl ?_
      refine r_iadd C dX11_line_56 ?_
      refine r_iconst C dX11_line_57 ?_
      refine r_iast (c := 1) (N := 365) C dX11_line_58 rfl rfl (by decide) (by omega) ?_
      refine r_aload_n C dX11_line_59 rfl ?_
      refine r_get_r (c := 1) C dX11_line_60 fl_X11_13 rfl rfl rfl (by decide) rfl ?_
      refine r_iload_n C dX11_line_63 rfl ?_
      refine r_lconst0 C dX11_line_64 ?_
      refine r_last (c := 1) (N := 12) C dX11_line_65 rfl rfl (by decide) (by omega) ?_
      refine r_aload_n C dX11_line_66 rfl ?_
      refine r_get_r (c := 1) C dX11_line_67 fl_X11_9 rfl rfl rfl (by decide) rfl ?_
      refine r_iconst C dX11_line_70 ?_
      refine r_dup2 C dX11_line_71 ?_
      refine r_iald (c := 1) (N := 365) C dX11_line_72 rfl rfl (by decide) (by omega) ?_
      refine r_v (b := (σ 1 0 0)) (by (repeat rw [qUp_ne (by omega)]); exact ek 0) ?_
      refine r_iconst C dX11_line_73 ?_
      refine r_iadd C dX11_line_74 ?_
      refine r_iast (c := 1) (N := 365) C dX11_line_75 rfl rfl (by decide) (by omega) ?_
      refine r_iload_n C dX11_line_76 rfl ?_
      refine r_iret C dX11_line_77 ?_
      have e1 : oLine p A = (nLn A, psh A (0, 0, 0, []) (sL A.1 (cL A.1 ++ [(p, [])]))) := by unfold oLine; repeat (first | rw [if_pos (by omega)] | rw [if_neg (by omega)])
      exact ⟨_, rfl, by rw [e1] <;> (try (show _ = _; omega)), by rw [e1]; exact rel_mpsh hR hA hk (fun x b z q1 q2 => by (repeat rw [qUp_ne (by omega)])) (by (repeat (first | refine Bm.ul ?_ (by omega) | refine Bm.up ?_ (by omega))); exact hbk) (by (repeat (first | refine Bl.up ?_ (by omega) | refine Bl.ul ?_ (by omega))); exact hlk) (RN_line (n := σ 1 0 0) hR.2.2.1 hA.1 (by have q : nLn A = ((cL A.1).length : Int) := rfl; omega) rfl (by (repeat (first | rw [qUp_eq] | rw [qUp_ne (by omega)]))) (by (repeat (first | rw [qUp_eq] | rw [qUp_ne (by omega)]))) (by (repeat (first | rw [qUp_eq] | rw [qUp_ne (by omega)]))) (fun j q => by (repeat rw [qUp_ne (by omega)]); exact ek j) (fun j q => by (repeat rw [qUp_ne (by omega)]); exact ek2 j)) (un_line A p)⟩
    · refine r_aload_n C dX11_line_29 rfl ?_
      refine r_ldc C dX11_line_30 kc_X11_73 ?_
      refine r_cvi (c := 1) C dX11_line_32 mv_X11_68 (c_X11_finding e l _ _) (by decide) rfl rfl rfl rfl (by decide) rfl rfl (Nat.le_of_ble_eq_true rfl) (fun z32 σ32 h32 => ?_)
      obtain ⟨rfl, rfl⟩ := h32
      refine r_iret C dX11_line_35 ?_
      have e1 : oLine p A = fnd A (-100005) := by unfold oLine; repeat (first | rw [if_pos (by omega)] | rw [if_neg (by omega)])
      exact ⟨_, rfl, by rw [e1]; rfl, by rw [e1]; exact rel_mfnd hR _⟩
  · refine r_aload_n C dX11_line_9 rfl ?_
    refine r_ldc C dX11_line_10 kc_X11_72 ?_
    refine r_cvi (c := 1) C dX11_line_12 mv_X11_68 (c_X11_finding e l _ _) (by decide) rfl rfl rfl rfl (by decide) rfl rfl (Nat.le_of_ble_eq_true rfl) (fun z12 σ12 h12 => ?_)
    obtain ⟨rfl, rfl⟩ := h12
    refine r_iret C dX11_line_15 ?_
    have e1 : oLine p A = fnd A (-100001) := by unfold oLine; repeat (first | rw [if_pos (by omega)] | rw [if_neg (by omega)])
    exact ⟨_, rfl, by rw [e1]; rfl, by rw [e1]; exact rel_mfnd hR _⟩
set_option maxRecDepth 20000 in
theorem m_frame (e : qR) (l : Launch) (σ : qSt) (x s : Int) (A : aSt) (hR : RelM σ A) (hA : AOk A) (h_x : InI x) (h_s : InI s)  : CM (EM e) l yX11_frame cX11_frame 4 (some .int) 20 [qr 0 0, qi x, qi s] σ (Ri fun z σ' => z = (oFrame x s A).1 ∧ RelM σ' (oFrame x s A).2) := by
  refine CM.mk tM_ok (by decide +kernel) (Nat.le_of_ble_eq_true rfl) (fun G C => ?_)
  show G σ 0 [some (qr 0 0), some (qi x), some (qi s), none] []
  obtain ⟨hb, e0, n0, m0, e1w, n1, m1, e2t, n2, m2, e3l, n3, m3, hk0, hk20⟩ := mF hR hA
  refine r_aload_n C dX11_frame_0 rfl ?_
  refine r_iload_n C dX11_frame_1 rfl ?_
  refine r_cvi (c := 1) C dX11_frame_2 mv_X11_77 (c_X11_isLine e l _ _ hb (by omega)) (by decide) rfl rfl rfl rfl (by decide) rfl rfl (Nat.le_of_ble_eq_true rfl) (fun z2 σ2 h2 => ?_)
  obtain ⟨rfl, rfl⟩ := h2
  refine r_ifb_eq 17 C dX11_frame_5 (by decide) (fun h5 => ?_) (fun h5 => ?_)
  · refine r_aload_n C dX11_frame_17 rfl ?_
    refine r_ldc C dX11_frame_18 kc_X11_72 ?_
    refine r_cvi (c := 1) C dX11_frame_20 mv_X11_68 (c_X11_finding e l _ _) (by decide) rfl rfl rfl rfl (by decide) rfl rfl (Nat.le_of_ble_eq_true rfl) (fun z20 σ20 h20 => ?_)
    obtain ⟨rfl, rfl⟩ := h20
    refine r_iret C dX11_frame_23 ?_
    have e1 : oFrame x s A = fnd A (-100001) := by unfold oFrame; repeat (first | rw [if_pos (by omega)] | rw [if_neg (by omega)])
    exact ⟨_, rfl, by rw [e1]; rfl, by rw [e1]; exact rel_mfnd hR _⟩
  · refine r_iload_n C dX11_frame_8 rfl ?_
    refine r_iconst C dX11_frame_9 ?_
    refine r_iconst C dX11_frame_10 ?_
    refine r_csi C dX11_frame_11 ms_X11_60 (c_X11_within e l _ _ _ _ (by omega) (by omega) (by omega)) (by decide) rfl rfl (Nat.le_of_ble_eq_true rfl) (fun z11 σ11 h11 => ?_)
    obtain ⟨rfl, rfl⟩ := h11
    refine r_ifb_ne 24 C dX11_frame_14 (by decide) (fun h14 => ?_) (fun h14 => ?_)
    · have lm := ln_m hR hA (x := x) (by omega)
      have hlx := hR.2.1 2 x (by omega)
      refine r_aload_n C dX11_frame_24 rfl ?_
      refine r_get_r (c := 1) C dX11_frame_25 fl_X11_9 rfl rfl rfl (by decide) rfl ?_
      refine r_bipush C dX11_frame_28 ?_
      refine r_iload_n C dX11_frame_30 rfl ?_
      refine r_iadd C dX11_frame_31 ?_
      refine r_iald (c := 1) (N := 365) C dX11_frame_32 rfl rfl (by decide) (by omega) ?_
      have b32 := hb 1 0 (16 + x) (by omega) (by omega)
      refine r_istore_n C dX11_frame_33 rfl rfl (by decide) ?_
      refine r_iload_n C dX11_frame_34 rfl ?_
      refine r_bipush C dX11_frame_35 ?_
      refine r_ic_ne 47 C dX11_frame_37 (by decide) (by omega) (by omega) (fun h37 => ?_) (fun h37 => ?_)
      · refine r_aload_n C dX11_frame_47 rfl ?_
        refine r_cvv (c := 1) C dX11_frame_48 mv_X11_74 (c_X11_keep e l _ (by omega)) (by decide) rfl rfl rfl rfl (by decide) rfl rfl (Nat.le_of_ble_eq_true rfl) (fun σ48 h48 => ?_)
        have hk := kp_of (σ := σ) (by omega)
        rw [← h48] at hk
        have hbk : Bm σ48 := hk.2.2.2.2.2.2.1 hb
        have hlk : Bl σ48 := hk.2.2.2.2.2.2.2 hR.2.1
        have ek : ∀ j, σ48 1 0 j = σ 1 0 j := fun j => hk.1 _ _ _ (by omega) (by omega) (by omega)
        have ek2 : ∀ j, σ48 2 0 j = σ 2 0 j := fun j => hk.1 _ _ _ (by omega) (by omega) (by omega)
        refine r_aload_n C dX11_frame_51 rfl ?_
        refine r_get_r (c := 1) C dX11_frame_52 fl_X11_13 rfl rfl rfl (by decide) rfl ?_
        refine r_iload_n C dX11_frame_55 rfl ?_
        refine r_aload_n C dX11_frame_56 rfl ?_
        refine r_get_r (c := 1) C dX11_frame_57 fl_X11_13 rfl rfl rfl (by decide) rfl ?_
        refine r_iload_n C dX11_frame_60 rfl ?_
        refine r_lald (c := 1) (N := 12) C dX11_frame_61 rfl rfl (by decide) (by omega) ?_
        refine r_vl (b := σ 2 0 x) (ek2 x) ?_
        obtain ⟨wn, hwn⟩ := wl_ex (Int64.ofInt (3 * 2 ^ (2 * σ 1 0 (16 + x)).toNat) ^^^ Int64.ofInt (-1))
        refine r_ldc2 C dX11_frame_62 kc_X11_81 ?_
        refine r_iconst C dX11_frame_65 ?_
        refine r_iload_n C dX11_frame_66 rfl ?_
        refine r_imul C dX11_frame_67 ?_
        refine r_lshl _ C dX11_frame_68 (xl_shlI 3 _ (by decide) (by omega)) ?_
        refine r_ldc2 C dX11_frame_69 kc_X11_83 ?_
        refine r_lxor wn C dX11_frame_72 hwn ?_
        refine r_land _ C dX11_frame_73 (fr_dif hlx.1 hwn) ?_
        refine r_iload_n C dX11_frame_74 rfl ?_
        refine r_i2l C dX11_frame_75 (by omega) ?_
        refine r_iconst C dX11_frame_76 ?_
        refine r_iload_n C dX11_frame_77 rfl ?_
        refine r_imul C dX11_frame_78 ?_
        refine r_lshl _ C dX11_frame_79 (xl_shlI s _ (by omega) (by omega)) ?_
        refine r_lor _ C dX11_frame_80 (fr_or hlx.1 (by omega) (by omega)) ?_
        refine r_last (c := 1) (N := 12) C dX11_frame_81 rfl rfl (by decide) (by omega) ?_
        have frr := fr_rng (s := s) (n := σ 1 0 (16 + x)) hlx (by omega) (by omega)
        have frd : ∀ (j : Nat) (t : Int), ((lnAt A x).2 ++ [s])[j]? = some t → dg (σ 2 0 x - dg (σ 2 0 x) (σ 1 0 (16 + x)) * 4 ^ (σ 1 0 (16 + x)).toNat + s * 4 ^ (σ 1 0 (16 + x)).toNat) j = t := by
          intro j t ht
          obtain ⟨d1, d2⟩ := dg_put (σ 2 0 x) s (σ 1 0 (16 + x)).toNat (by omega)
          rw [show (((σ 1 0 (16 + x)).toNat : Nat) : Int) = σ 1 0 (16 + x) by omega] at d1 d2
          rcases app_get ht with q | ⟨q1, q2⟩
          · have hj := lt_of_get q
            rw [d2 j (by omega), (lm.2.2.2.2.2 j (by omega) (by omega)).1]
            show (lnAt A x).2.getD j 0 = t
            exact getD_some q
          · rw [show (j : Int) = σ 1 0 (16 + x) by omega, d1, q2]
        refine r_aload_n C dX11_frame_82 rfl ?_
        refine r_get_r (c := 1) C dX11_frame_83 fl_X11_9 rfl rfl rfl (by decide) rfl ?_
        refine r_bipush C dX11_frame_86 ?_
        refine r_iload_n C dX11_frame_88 rfl ?_
        refine r_iadd C dX11_frame_89 ?_
        refine r_dup2 C dX11_frame_90 ?_
        refine r_iald (c := 1) (N := 365) C dX11_frame_91 rfl rfl (by decide) (by omega) ?_
        refine r_v (b := (σ48 1 0 (16 + x))) (by simp [qUp, qCpy]) ?_
        have b91 := hbk 1 0 (16 + x) (by omega) (by omega)
        refine r_v (b := (σ 1 0 (16 + x))) (by (repeat rw [qUp_ne (by omega)]); exact ek _) ?_
        refine r_iconst C dX11_frame_92 ?_
        refine r_iadd C dX11_frame_93 ?_
        refine r_iast (c := 1) (N := 365) C dX11_frame_94 rfl rfl (by decide) (by omega) ?_
        refine r_iload_n C dX11_frame_95 rfl ?_
        refine r_iconst C dX11_frame_96 ?_
        refine r_iadd C dX11_frame_97 ?_
        refine r_iret C dX11_frame_98 ?_
        have e1 : oFrame x s A = (((lnAt A x).2.length : Int) + 1, psh A (1, x, 0, []) (sL A.1 (mdf (fun y => (y.1, y.2 ++ [s])) (cL A.1) x.toNat))) := by unfold oFrame; repeat (first | rw [if_pos (by omega)] | rw [if_neg (by omega)])
        exact ⟨_, rfl, by rw [e1] <;> (try (show _ = _; omega)), by rw [e1]; exact rel_mpsh hR hA hk (fun x b z q1 q2 => by (repeat rw [qUp_ne (by omega)])) (by (repeat (first | refine Bm.ul ?_ (by omega) | refine Bm.up ?_ (by omega))); exact hbk) (by (repeat (first | refine Bl.up ?_ (by omega) | refine Bl.ul ?_ (by omega))); exact hlk) (RN_row hR.2.2.1 hA.1 (by omega) (ln_get (by omega)) rfl (by (repeat (first | rw [qUp_eq] | rw [qUp_ne (by omega)])); show _ = (((lnAt A x).2 ++ [s]).length : Int); rw [List.length_append, List.length_singleton]; push_cast; omega) (fun j q => by (repeat rw [qUp_ne (by omega)]); exact ek j) (fun j t ht => by (repeat (first | rw [qUp_eq] | rw [qUp_ne (by omega)])); exact frd j t ht) (fun j q => by (repeat rw [qUp_ne (by omega)]); exact ek2 j)) (un_frame A x s)⟩
      · refine r_aload_n C dX11_frame_40 rfl ?_
        refine r_ldc C dX11_frame_41 kc_X11_73 ?_
        refine r_cvi (c := 1) C dX11_frame_43 mv_X11_68 (c_X11_finding e l _ _) (by decide) rfl rfl rfl rfl (by decide) rfl rfl (Nat.le_of_ble_eq_true rfl) (fun z43 σ43 h43 => ?_)
        obtain ⟨rfl, rfl⟩ := h43
        refine r_iret C dX11_frame_46 ?_
        have e1 : oFrame x s A = fnd A (-100005) := by unfold oFrame; repeat (first | rw [if_pos (by omega)] | rw [if_neg (by omega)])
        exact ⟨_, rfl, by rw [e1]; rfl, by rw [e1]; exact rel_mfnd hR _⟩
    · refine r_aload_n C dX11_frame_17 rfl ?_
      refine r_ldc C dX11_frame_18 kc_X11_72 ?_
      refine r_cvi (c := 1) C dX11_frame_20 mv_X11_68 (c_X11_finding e l _ _) (by decide) rfl rfl rfl rfl (by decide) rfl rfl (Nat.le_of_ble_eq_true rfl) (fun z20 σ20 h20 => ?_)
      obtain ⟨rfl, rfl⟩ := h20
      refine r_iret C dX11_frame_23 ?_
      have e1 : oFrame x s A = fnd A (-100001) := by unfold oFrame; repeat (first | rw [if_pos (by omega)] | rw [if_neg (by omega)])
      exact ⟨_, rfl, by rw [e1]; rfl, by rw [e1]; exact rel_mfnd hR _⟩
set_option maxRecDepth 20000 in
theorem m_wording (e : qR) (l : Launch) (σ : qSt) (x k s : Int) (A : aSt) (hR : RelM σ A) (hA : AOk A) (h_x : InI x) (h_k : InI k) (h_s : InI s)  : CM (EM e) l yX11_wording cX11_wording 5 (some .int) 20 [qr 0 0, qi x, qi k, qi s] σ (Ri fun z σ' => z = (oWording x k s A).1 ∧ RelM σ' (oWording x k s A).2) := by
  refine CM.mk tM_ok (by decide +kernel) (Nat.le_of_ble_eq_true rfl) (fun G C => ?_)
  show G σ 0 [some (qr 0 0), some (qi x), some (qi k), some (qi s), none] []
  obtain ⟨hb, e0, n0, m0, e1w, n1, m1, e2t, n2, m2, e3l, n3, m3, hk0, hk20⟩ := mF hR hA
  refine r_aload_n C dX11_wording_0 rfl ?_
  refine r_iload_n C dX11_wording_1 rfl ?_
  refine r_cvi (c := 1) C dX11_wording_2 mv_X11_77 (c_X11_isLine e l _ _ hb (by omega)) (by decide) rfl rfl rfl rfl (by decide) rfl rfl (Nat.le_of_ble_eq_true rfl) (fun z2 σ2 h2 => ?_)
  obtain ⟨rfl, rfl⟩ := h2
  refine r_ifb_eq 27 C dX11_wording_5 (by decide) (fun h5 => ?_) (fun h5 => ?_)
  · refine r_aload_n C dX11_wording_27 rfl ?_
    refine r_ldc C dX11_wording_28 kc_X11_72 ?_
    refine r_cvi (c := 1) C dX11_wording_30 mv_X11_68 (c_X11_finding e l _ _) (by decide) rfl rfl rfl rfl (by decide) rfl rfl (Nat.le_of_ble_eq_true rfl) (fun z30 σ30 h30 => ?_)
    obtain ⟨rfl, rfl⟩ := h30
    refine r_iret C dX11_wording_33 ?_
    have e1 : oWording x k s A = fnd A (-100001) := by unfold oWording; repeat (first | rw [if_pos (by omega)] | rw [if_neg (by omega)])
    exact ⟨_, rfl, by rw [e1]; rfl, by rw [e1]; exact rel_mfnd hR _⟩
  · refine r_iload_n C dX11_wording_8 rfl ?_
    refine r_iconst C dX11_wording_9 ?_
    refine r_iconst C dX11_wording_10 ?_
    refine r_csi C dX11_wording_11 ms_X11_60 (c_X11_within e l _ _ _ _ (by omega) (by omega) (by omega)) (by decide) rfl rfl (Nat.le_of_ble_eq_true rfl) (fun z11 σ11 h11 => ?_)
    obtain ⟨rfl, rfl⟩ := h11
    refine r_ifb_eq 27 C dX11_wording_14 (by decide) (fun h14 => ?_) (fun h14 => ?_)
    · refine r_aload_n C dX11_wording_27 rfl ?_
      refine r_ldc C dX11_wording_28 kc_X11_72 ?_
      refine r_cvi (c := 1) C dX11_wording_30 mv_X11_68 (c_X11_finding e l _ _) (by decide) rfl rfl rfl rfl (by decide) rfl rfl (Nat.le_of_ble_eq_true rfl) (fun z30 σ30 h30 => ?_)
      obtain ⟨rfl, rfl⟩ := h30
      refine r_iret C dX11_wording_33 ?_
      have e1 : oWording x k s A = fnd A (-100001) := by unfold oWording; repeat (first | rw [if_pos (by omega)] | rw [if_neg (by omega)])
      exact ⟨_, rfl, by rw [e1]; rfl, by rw [e1]; exact rel_mfnd hR _⟩
    · refine r_iload_n C dX11_wording_17 rfl ?_
      refine r_iconst C dX11_wording_18 ?_
      refine r_bipush C dX11_wording_19 ?_
      refine r_csi C dX11_wording_21 ms_X11_60 (c_X11_within e l _ _ _ _ (by omega) (by omega) (by omega)) (by decide) rfl rfl (Nat.le_of_ble_eq_true rfl) (fun z21 σ21 h21 => ?_)
      obtain ⟨rfl, rfl⟩ := h21
      refine r_ifb_ne 34 C dX11_wording_24 (by decide) (fun h24 => ?_) (fun h24 => ?_)
      · refine r_aload_n C dX11_wording_34 rfl ?_
        refine r_get_r (c := 1) C dX11_wording_35 fl_X11_9 rfl rfl rfl (by decide) rfl ?_
        refine r_iconst C dX11_wording_38 ?_
        refine r_iald (c := 1) (N := 365) C dX11_wording_39 rfl rfl (by decide) (by omega) ?_
        have b39 := hb 1 0 1 (by omega) (by omega)
        refine r_istore C dX11_wording_40 rfl rfl (by decide) ?_
        refine r_iload C dX11_wording_42 rfl ?_
        refine r_bipush C dX11_wording_44 ?_
        refine r_ic_ne 56 C dX11_wording_46 (by decide) (by omega) (by omega) (fun h46 => ?_) (fun h46 => ?_)
        · refine r_aload_n C dX11_wording_56 rfl ?_
          refine r_cvv (c := 1) C dX11_wording_57 mv_X11_74 (c_X11_keep e l _ (by omega)) (by decide) rfl rfl rfl rfl (by decide) rfl rfl (Nat.le_of_ble_eq_true rfl) (fun σ57 h57 => ?_)
          have hk := kp_of (σ := σ) (by omega)
          rw [← h57] at hk
          have hbk : Bm σ57 := hk.2.2.2.2.2.2.1 hb
          have hlk : Bl σ57 := hk.2.2.2.2.2.2.2 hR.2.1
          have ek : ∀ j, σ57 1 0 j = σ 1 0 j := fun j => hk.1 _ _ _ (by omega) (by omega) (by omega)
          have ek2 : ∀ j, σ57 2 0 j = σ 2 0 j := fun j => hk.1 _ _ _ (by omega) (by omega) (by omega)
          refine r_aload_n C dX11_wording_60 rfl ?_
          refine r_get_r (c := 1) C dX11_wording_61 fl_X11_9 rfl rfl rfl (by decide) rfl ?_
          refine r_bipush C dX11_wording_64 ?_
          refine r_iload C dX11_wording_66 rfl ?_
          refine r_iadd C dX11_wording_68 ?_
          refine r_iload_n C dX11_wording_69 rfl ?_
          refine r_iast (c := 1) (N := 365) C dX11_wording_70 rfl rfl (by decide) (by omega) ?_
          refine r_aload_n C dX11_wording_71 rfl ?_
          refine r_get_r (c := 1) C dX11_wording_72 fl_X11_9 rfl rfl rfl (by decide) rfl ?_
          refine r_bipush C dX11_wording_75 ?_
          refine r_iload C dX11_wording_77 rfl ?_
          refine r_iadd C dX11_wording_79 ?_
          refine r_iload_n C dX11_wording_80 rfl ?_
          refine r_iast (c := 1) (N := 365) C dX11_wording_81 rfl rfl (by decide) (by omega) ?_
          refine r_aload_n C dX11_wording_82 rfl ?_
          refine r_get_r (c := 1) C dX11_wording_83 fl_X11_9 rfl rfl rfl (by decide) rfl ?_
          refine r_bipush C dX11_wording_86 ?_
          refine r_iload C dX11_wording_88 rfl ?_
          refine r_iadd C dX11_wording_90 ?_
          refine r_iload_n C dX11_wording_91 rfl ?_
          refine r_iast (c := 1) (N := 365) C dX11_wording_92 rfl rfl (by decide) (by omega) ?_
          refine r_aload_n C dX11_wording_93 rfl ?_
          refine r_get_r (c := 1) C dX11_wording_94 fl_X11_9 rfl rfl rfl (by decide) rfl ?_
          refine r_bipush C dX11_wording_97 ?_
          refine r_iload C dX11_wording_99 rfl ?_
          refine r_iadd C dX11_wording_101 ?_
          refine r_iconst C dX11_wording_102 ?_
          refine r_iast (c := 1) (N := 365) C dX11_wording_103 rfl rfl (by decide) (by omega) ?_
          refine r_aload_n C dX11_wording_104 rfl ?_
          refine r_get_r (c := 1) C dX11_wording_105 fl_X11_9 rfl rfl rfl (by decide) rfl ?_
          refine r_iconst C dX11_wording_108 ?_
          refine r_dup2 C dX11_wording_109 ?_
          refine r_iald (c := 1) (N := 365) C dX11_wording_110 rfl rfl (by decide) (by omega) ?_
          refine r_v (b := (σ 1 0 1)) (by (repeat rw [qUp_ne (by omega)]); exact ek 1) ?_
          refine r_iconst C dX11_wording_111 ?_
          refine r_iadd C dX11_wording_112 ?_
          refine r_iast (c := 1) (N := 365) C dX11_wording_113 rfl rfl (by decide) (by omega) ?_
          refine r_iload C dX11_wording_114 rfl ?_
          refine r_iret C dX11_wording_116 ?_
          have e1 : oWording x k s A = (nWd A, psh A (2, 0, 0, []) (sW A.1 (cW A.1 ++ [(x, k, s, [])]))) := by unfold oWording; repeat (first | rw [if_pos (by omega)] | rw [if_neg (by omega)])
          exact ⟨_, rfl, by rw [e1] <;> (try (show _ = _; omega)), by rw [e1]; exact rel_mpsh hR hA hk (fun x b z q1 q2 => by (repeat rw [qUp_ne (by omega)])) (by (repeat (first | refine Bm.ul ?_ (by omega) | refine Bm.up ?_ (by omega))); exact hbk) (by (repeat (first | refine Bl.up ?_ (by omega) | refine Bl.ul ?_ (by omega))); exact hlk) (RN_wording (n := σ 1 0 1) hR.2.2.1 hA.1 (by have q : nWd A = ((cW A.1).length : Int) := rfl; omega) rfl (by (repeat (first | rw [qUp_eq] | rw [qUp_ne (by omega)]))) (by (repeat (first | rw [qUp_eq] | rw [qUp_ne (by omega)]))) (by (repeat (first | rw [qUp_eq] | rw [qUp_ne (by omega)]))) (by (repeat (first | rw [qUp_eq] | rw [qUp_ne (by omega)]))) (by (repeat (first | rw [qUp_eq] | rw [qUp_ne (by omega)]))) (fun j q => by (repeat rw [qUp_ne (by omega)]); exact ek j) (fun j => by (repeat rw [qUp_ne (by omega)]); exact ek2 j)) (un_wording A x k s)⟩
        · refine r_aload_n C dX11_wording_49 rfl ?_
          refine r_ldc C dX11_wording_50 kc_X11_73 ?_
          refine r_cvi (c := 1) C dX11_wording_52 mv_X11_68 (c_X11_finding e l _ _) (by decide) rfl rfl rfl rfl (by decide) rfl rfl (Nat.le_of_ble_eq_true rfl) (fun z52 σ52 h52 => ?_)
          obtain ⟨rfl, rfl⟩ := h52
          refine r_iret C dX11_wording_55 ?_
          have e1 : oWording x k s A = fnd A (-100005) := by unfold oWording; repeat (first | rw [if_pos (by omega)] | rw [if_neg (by omega)])
          exact ⟨_, rfl, by rw [e1]; rfl, by rw [e1]; exact rel_mfnd hR _⟩
      · refine r_aload_n C dX11_wording_27 rfl ?_
        refine r_ldc C dX11_wording_28 kc_X11_72 ?_
        refine r_cvi (c := 1) C dX11_wording_30 mv_X11_68 (c_X11_finding e l _ _) (by decide) rfl rfl rfl rfl (by decide) rfl rfl (Nat.le_of_ble_eq_true rfl) (fun z30 σ30 h30 => ?_)
        obtain ⟨rfl, rfl⟩ := h30
        refine r_iret C dX11_wording_33 ?_
        have e1 : oWording x k s A = fnd A (-100001) := by unfold oWording; repeat (first | rw [if_pos (by omega)] | rw [if_neg (by omega)])
        exact ⟨_, rfl, by rw [e1]; rfl, by rw [e1]; exact rel_mfnd hR _⟩
set_option maxRecDepth 20000 in
theorem m_as (e : qR) (l : Launch) (σ : qSt) (w k : Int) (A : aSt) (hR : RelM σ A) (hA : AOk A) (h_w : InI w) (h_k : InI k)  : CM (EM e) l yX11_as cX11_as 4 (some .int) 20 [qr 0 0, qi w, qi k] σ (Ri fun z σ' => z = (oAs w k A).1 ∧ RelM σ' (oAs w k A).2) := by
  refine CM.mk tM_ok (by decide +kernel) (Nat.le_of_ble_eq_true rfl) (fun G C => ?_)
  show G σ 0 [some (qr 0 0), some (qi w), some (qi k), none] []
  obtain ⟨hb, e0, n0, m0, e1w, n1, m1, e2t, n2, m2, e3l, n3, m3, hk0, hk20⟩ := mF hR hA
  refine r_aload_n C dX11_as_0 rfl ?_
  refine r_iload_n C dX11_as_1 rfl ?_
  refine r_cvi (c := 1) C dX11_as_2 mv_X11_85 (c_X11_isWording e l _ _ hb (by omega)) (by decide) rfl rfl rfl rfl (by decide) rfl rfl (Nat.le_of_ble_eq_true rfl) (fun z2 σ2 h2 => ?_)
  obtain ⟨rfl, rfl⟩ := h2
  refine r_ifb_eq 17 C dX11_as_5 (by decide) (fun h5 => ?_) (fun h5 => ?_)
  · refine r_aload_n C dX11_as_17 rfl ?_
    refine r_ldc C dX11_as_18 kc_X11_72 ?_
    refine r_cvi (c := 1) C dX11_as_20 mv_X11_68 (c_X11_finding e l _ _) (by decide) rfl rfl rfl rfl (by decide) rfl rfl (Nat.le_of_ble_eq_true rfl) (fun z20 σ20 h20 => ?_)
    obtain ⟨rfl, rfl⟩ := h20
    refine r_iret C dX11_as_23 ?_
    have e1 : oAs w k A = fnd A (-100001) := by unfold oAs; repeat (first | rw [if_pos (by omega)] | rw [if_neg (by omega)])
    exact ⟨_, rfl, by rw [e1]; rfl, by rw [e1]; exact rel_mfnd hR _⟩
  · refine r_iload_n C dX11_as_8 rfl ?_
    refine r_iconst C dX11_as_9 ?_
    refine r_iconst C dX11_as_10 ?_
    refine r_csi C dX11_as_11 ms_X11_60 (c_X11_within e l _ _ _ _ (by omega) (by omega) (by omega)) (by decide) rfl rfl (Nat.le_of_ble_eq_true rfl) (fun z11 σ11 h11 => ?_)
    obtain ⟨rfl, rfl⟩ := h11
    refine r_ifb_ne 24 C dX11_as_14 (by decide) (fun h14 => ?_) (fun h14 => ?_)
    · have wm := wd_m hR hA (x := w) (by omega)
      refine r_aload_n C dX11_as_24 rfl ?_
      refine r_get_r (c := 1) C dX11_as_25 fl_X11_9 rfl rfl rfl (by decide) rfl ?_
      refine r_bipush C dX11_as_28 ?_
      refine r_iload_n C dX11_as_30 rfl ?_
      refine r_iadd C dX11_as_31 ?_
      refine r_iald (c := 1) (N := 365) C dX11_as_32 rfl rfl (by decide) (by omega) ?_
      have b32 := hb 1 0 (48 + w) (by omega) (by omega)
      refine r_istore_n C dX11_as_33 rfl rfl (by decide) ?_
      refine r_iload_n C dX11_as_34 rfl ?_
      refine r_if_eq 53 C dX11_as_35 (by decide) (by omega) (fun h35 => ?_) (fun h35 => ?_)
      · refine r_iload_n C dX11_as_53 rfl ?_
        refine r_goto 63 C dX11_as_54 (by decide) ?_
        refine r_iret C dX11_as_63 ?_
        first
        | (have e1 : oAs w k A = (w, A) := by unfold oAs; repeat (first | rw [if_pos (by omega)] | rw [if_neg (by omega)])
           exact ⟨_, rfl, by rw [e1] <;> (try (show _ = _; omega)), by rw [e1]; exact hR⟩)
        | (have e1 : oAs w k A = fnd A (-100004) := by unfold oAs; repeat (first | rw [if_pos (by omega)] | rw [if_neg (by omega)])
           exact ⟨_, rfl, by rw [e1]; rfl, by rw [e1]; exact rel_mfnd hR _⟩)
      · refine r_iload_n C dX11_as_38 rfl ?_
        refine r_iload_n C dX11_as_39 rfl ?_
        refine r_ic_eq 53 C dX11_as_40 (by decide) (by omega) (by omega) (fun h40 => ?_) (fun h40 => ?_)
        · refine r_iload_n C dX11_as_53 rfl ?_
          refine r_goto 63 C dX11_as_54 (by decide) ?_
          refine r_iret C dX11_as_63 ?_
          first
          | (have e1 : oAs w k A = (w, A) := by unfold oAs; repeat (first | rw [if_pos (by omega)] | rw [if_neg (by omega)])
             exact ⟨_, rfl, by rw [e1] <;> (try (show _ = _; omega)), by rw [e1]; exact hR⟩)
          | (have e1 : oAs w k A = fnd A (-100004) := by unfold oAs; repeat (first | rw [if_pos (by omega)] | rw [if_neg (by omega)])
             exact ⟨_, rfl, by rw [e1]; rfl, by rw [e1]; exact rel_mfnd hR _⟩)
        · refine r_iload_n C dX11_as_43 rfl ?_
          refine r_iconst C dX11_as_44 ?_
          refine r_ic_ne 57 C dX11_as_45 (by decide) (by omega) (by omega) (fun h45 => ?_) (fun h45 => ?_)
          · refine r_aload_n C dX11_as_57 rfl ?_
            refine r_ldc C dX11_as_58 kc_X11_88 ?_
            refine r_cvi (c := 1) C dX11_as_60 mv_X11_68 (c_X11_finding e l _ _) (by decide) rfl rfl rfl rfl (by decide) rfl rfl (Nat.le_of_ble_eq_true rfl) (fun z60 σ60 h60 => ?_)
            obtain ⟨rfl, rfl⟩ := h60
            refine r_iret C dX11_as_63 ?_
            first
            | (have e1 : oAs w k A = (w, A) := by unfold oAs; repeat (first | rw [if_pos (by omega)] | rw [if_neg (by omega)])
               exact ⟨_, rfl, by rw [e1] <;> (try (show _ = _; omega)), by rw [e1]; exact hR⟩)
            | (have e1 : oAs w k A = fnd A (-100004) := by unfold oAs; repeat (first | rw [if_pos (by omega)] | rw [if_neg (by omega)])
               exact ⟨_, rfl, by rw [e1]; rfl, by rw [e1]; exact rel_mfnd hR _⟩)
          · refine r_iload_n C dX11_as_48 rfl ?_
            refine r_iconst C dX11_as_49 ?_
            refine r_ic_ne 57 C dX11_as_50 (by decide) (by omega) (by omega) (fun h50 => ?_) (fun h50 => ?_)
            · refine r_aload_n C dX11_as_57 rfl ?_
              refine r_ldc C dX11_as_58 kc_X11_88 ?_
              refine r_cvi (c := 1) C dX11_as_60 mv_X11_68 (c_X11_finding e l _ _) (by decide) rfl rfl rfl rfl (by decide) rfl rfl (Nat.le_of_ble_eq_true rfl) (fun z60 σ60 h60 => ?_)
              obtain ⟨rfl, rfl⟩ := h60
              refine r_iret C dX11_as_63 ?_
              first
              | (have e1 : oAs w k A = (w, A) := by unfold oAs; repeat (first | rw [if_pos (by omega)] | rw [if_neg (by omega)])
                 exact ⟨_, rfl, by rw [e1] <;> (try (show _ = _; omega)), by rw [e1]; exact hR⟩)
              | (have e1 : oAs w k A = fnd A (-100004) := by unfold oAs; repeat (first | rw [if_pos (by omega)] | rw [if_neg (by omega)])
                 exact ⟨_, rfl, by rw [e1]; rfl, by rw [e1]; exact rel_mfnd hR _⟩)
            · refine r_iload_n C dX11_as_53 rfl ?_
              refine r_goto 63 C dX11_as_54 (by decide) ?_
              refine r_iret C dX11_as_63 ?_
              first
              | (have e1 : oAs w k A = (w, A) := by unfold oAs; repeat (first | rw [if_pos (by omega)] | rw [if_neg (by omega)])
                 exact ⟨_, rfl, by rw [e1] <;> (try (show _ = _; omega)), by rw [e1]; exact hR⟩)
              | (have e1 : oAs w k A = fnd A (-100004) := by unfold oAs; repeat (first | rw [if_pos (by omega)] | rw [if_neg (by omega)])
                 exact ⟨_, rfl, by rw [e1]; rfl, by rw [e1]; exact rel_mfnd hR _⟩)
    · refine r_aload_n C dX11_as_17 rfl ?_
      refine r_ldc C dX11_as_18 kc_X11_72 ?_
      refine r_cvi (c := 1) C dX11_as_20 mv_X11_68 (c_X11_finding e l _ _) (by decide) rfl rfl rfl rfl (by decide) rfl rfl (Nat.le_of_ble_eq_true rfl) (fun z20 σ20 h20 => ?_)
      obtain ⟨rfl, rfl⟩ := h20
      refine r_iret C dX11_as_23 ?_
      have e1 : oAs w k A = fnd A (-100001) := by unfold oAs; repeat (first | rw [if_pos (by omega)] | rw [if_neg (by omega)])
      exact ⟨_, rfl, by rw [e1]; rfl, by rw [e1]; exact rel_mfnd hR _⟩
