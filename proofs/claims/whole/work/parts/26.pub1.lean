/-! the class's calls: acts that can be undone, and what is told -/
theorem z_dif (x y w m : Int) (hw : Int32.ofInt y ^^^ Int32.ofInt (-1) = Int32.ofInt w) (hm : Int32.ofInt x &&& Int32.ofInt y = Int32.ofInt m) : Int32.ofInt x &&& Int32.ofInt w = Int32.ofInt (x - m) := by
  rw [← hw, Int32.ofInt_sub, ← hm]
  generalize Int32.ofInt x = X
  generalize Int32.ofInt y = Y
  apply Int32.toBitVec_inj.mp
  rw [Int32.toBitVec_and, Int32.toBitVec_xor, Int32.toBitVec_sub, Int32.toBitVec_and]
  have hm1 : (Int32.ofInt (-1)).toBitVec = BitVec.allOnes 32 := by decide
  rw [hm1]
  generalize X.toBitVec = u
  generalize Y.toBitVec = v
  have h1 : (u &&& (v ^^^ BitVec.allOnes 32)) &&& (u &&& v) = 0#32 := by
    apply BitVec.eq_of_getLsbD_eq
    intro i hi
    simp only [BitVec.getLsbD_and, BitVec.getLsbD_xor, BitVec.getLsbD_allOnes, hi, decide_true, BitVec.getLsbD_zero]
    cases u.getLsbD i <;> cases v.getLsbD i <;> rfl
  have h2 : (u &&& (v ^^^ BitVec.allOnes 32)) ||| (u &&& v) = u := by
    apply BitVec.eq_of_getLsbD_eq
    intro i hi
    simp only [BitVec.getLsbD_and, BitVec.getLsbD_xor, BitVec.getLsbD_or, BitVec.getLsbD_allOnes, hi, decide_true]
    cases u.getLsbD i <;> cases v.getLsbD i <;> rfl
  have h3 := BitVec.add_eq_or_of_and_eq_zero _ _ h1
  rw [h2] at h3
  have key : ∀ a b u : BitVec 32, a + b = u → a = u - b := by
    intro a b u h
    rw [← h, BitVec.add_sub_cancel]
  exact key _ _ _ h3
theorem hi_rng {x : Int} {k : Nat} (hk : k ≤ 12) (hx : InI x) : InI (x - x % 2 ^ k) ∧ (x - x % 2 ^ k = 0 ↔ 0 ≤ x ∧ x < 2 ^ k) ∧ ((2 ^ k : Nat) : Int) = (2 : Int) ^ k ∧ (2 : Int) ^ k ∣ 4294967296 ∧ (2 : Int) ^ k ≤ 4096 ∧ 1 ≤ (2 : Int) ^ k := by
  rcases (by omega : k = 0 ∨ k = 1 ∨ k = 2 ∨ k = 3 ∨ k = 4 ∨ k = 5 ∨ k = 6 ∨ k = 7 ∨ k = 8 ∨ k = 9 ∨ k = 10 ∨ k = 11 ∨ k = 12) with rfl | rfl | rfl | rfl | rfl | rfl | rfl | rfl | rfl | rfl | rfl | rfl | rfl
  all_goals (simp only [Int.reducePow, Nat.reducePow]; exact ⟨by omega, by omega, by decide, by decide, by decide, by decide⟩)
set_option maxRecDepth 20000 in
theorem o_line (e : qR) (l : Launch) (σ : qSt) (p : Int) (A : aSt) (hR : RelD σ A) (hA : AOk A) (h_p : InI p)  : CM (ED e) l yX10_line cX10_line 2 (some .int) 20 [qr 0 0, qi p] σ (Ri fun z σ' => z = (oLine p A).1 ∧ RelD σ' (oLine p A).2) := by
  refine CM.mk tD_ok (by decide +kernel) (Nat.le_of_ble_eq_true rfl) (fun G C => ?_)
  show G σ 0 [some (qr 0 0), some (qi p)] []
  obtain ⟨hb, e10, n10, m10, e11, n11, m11, e5, n5, m5, e4, n4, m4, h381, h382, h383, h384⟩ := dF hR hA
  refine r_iload_n C dX10_line_0 rfl ?_
  refine r_bipush C dX10_line_1 ?_
  refine r_csi C dX10_line_3 ms_X10_86 (c_X10_within e l _ _ _ (by omega) (by omega)) (by decide) rfl rfl (Nat.le_of_ble_eq_true rfl) (fun z3 σ3 h3 => ?_)
  obtain ⟨rfl, rfl⟩ := h3
  refine r_ifb_ne 16 C dX10_line_6 (by decide) (fun h6 => ?_) (fun h6 => ?_)
  · refine r_aload_n C dX10_line_16 rfl ?_
    refine r_get_i (c := 1) 10 C dX10_line_17 fl_X10_73 rfl rfl rfl rfl (by decide) ?_
    have b17 := hb 0 0 10 (by omega) (by omega)
    refine r_bipush C dX10_line_20 ?_
    refine r_ic_lt 32 C dX10_line_22 (by decide) (by omega) (by omega) (fun h22 => ?_) (fun h22 => ?_)
    · refine r_aload_n C dX10_line_32 rfl ?_
      refine r_get_r (c := 1) C dX10_line_33 fl_X10_11 rfl rfl rfl (by decide) rfl ?_
      refine r_aload_n C dX10_line_36 rfl ?_
      refine r_get_i (c := 1) 10 C dX10_line_37 fl_X10_73 rfl rfl rfl rfl (by decide) ?_
      have b37 := hb 0 0 10 (by omega) (by omega)
      refine r_aald (c := 1) (N := 12) C dX10_line_40 rfl (by decide) rfl (by decide) (by omega) rfl ?_
      refine r_iload_n C dX10_line_41 rfl ?_
      refine r_cvv (c := 12) C dX10_line_42 mv_X10_96 (c_X5_begin e l _ _ _ (by omega)) (by decide) rfl rfl rfl rfl (by omega) rfl rfl (Nat.le_of_ble_eq_true rfl) (fun σ42 h42 => ?_)
      subst h42
      refine r_aload_n C dX10_line_45 rfl ?_
      refine r_dup C dX10_line_46 ?_
      refine r_get_i (c := 1) 10 C dX10_line_47 fl_X10_73 rfl rfl rfl rfl (by decide) ?_
      refine r_v (b := (σ 0 0 10)) (by simp [qUp, qCpy]) ?_
      have b47 := hb 0 0 10 (by omega) (by omega)
      refine r_iconst C dX10_line_50 ?_
      refine r_iadd C dX10_line_51 ?_
      refine r_put_i (c := 1) 10 C dX10_line_52 fw_X10_73 rfl rfl rfl rfl (by decide) rfl rfl ?_
      refine r_aload_n C dX10_line_55 rfl ?_
      refine r_iconst C dX10_line_56 ?_
      refine r_iconst C dX10_line_57 ?_
      refine r_iconst C dX10_line_58 ?_
      refine r_cvr (c := 1) C dX10_line_59 mv_X10_100 (c_X10_remember e l _ _ _ _ (by simp [qUp]; omega) (by simp [qUp]; omega)) (by decide) rfl rfl rfl rfl (by decide) rfl rfl (Nat.le_of_ble_eq_true rfl) (fun k59 i59 σ59 h59 => ?_)
      obtain ⟨rfl, rfl, rfl⟩ := h59
      refine r_pop C dX10_line_62 ?_
      refine r_aload_n C dX10_line_63 rfl ?_
      refine r_get_i (c := 1) 10 C dX10_line_64 fl_X10_73 rfl rfl rfl rfl (by decide) ?_
      refine r_v (b := ((σ 0 0 10) + 1)) (by simp [pRem, pApp, qUp, qCpy]) ?_
      refine r_iconst C dX10_line_67 ?_
      refine r_isub C dX10_line_68 ?_
      refine r_iret C dX10_line_69 ?_
      have e1 : oLine p A = (nLn A, psh A (0, 0, 0, []) (sL A.1 (cL A.1 ++ [(p, [])]))) := by unfold oLine; repeat (first | rw [if_pos (by omega)] | rw [if_neg (by omega)])
      exact ⟨_, rfl, by rw [e1]; show _ = _; omega, by rw [e1]; exact rel_rem hR (fun a b c h => by repeat rw [qUp_ne (by omega)]) (by (repeat (refine Iv1.up ?_ (by omega) (by omega) (by omega) (by omega) (by omega))); exact hR.1.one) (cur_line hR.2.2.1 rfl rfl) (by omega) (by omega) (by omega)⟩
    · refine r_aload_n C dX10_line_25 rfl ?_
      refine r_ldc C dX10_line_26 kc_X10_95 ?_
      refine r_cvi (c := 1) C dX10_line_28 mv_X10_91 (c_X10_finding e l _ _) (by decide) rfl rfl rfl rfl (by decide) rfl rfl (Nat.le_of_ble_eq_true rfl) (fun z28 σ28 h28 => ?_)
      obtain ⟨rfl, rfl⟩ := h28
      refine r_iret C dX10_line_31 ?_
      have e1 : oLine p A = fnd A (-100005) := by unfold oLine; repeat (first | rw [if_pos (by omega)] | rw [if_neg (by omega)])
      exact ⟨_, rfl, by rw [e1]; rfl, by rw [e1]; exact rel_fnd hR _⟩
  · refine r_aload_n C dX10_line_9 rfl ?_
    refine r_ldc C dX10_line_10 kc_X10_90 ?_
    refine r_cvi (c := 1) C dX10_line_12 mv_X10_91 (c_X10_finding e l _ _) (by decide) rfl rfl rfl rfl (by decide) rfl rfl (Nat.le_of_ble_eq_true rfl) (fun z12 σ12 h12 => ?_)
    obtain ⟨rfl, rfl⟩ := h12
    refine r_iret C dX10_line_15 ?_
    have e1 : oLine p A = fnd A (-100001) := by unfold oLine; repeat (first | rw [if_pos (by omega)] | rw [if_neg (by omega)])
    exact ⟨_, rfl, by rw [e1]; rfl, by rw [e1]; exact rel_fnd hR _⟩
set_option maxRecDepth 20000 in
theorem o_frame (e : qR) (l : Launch) (σ : qSt) (x s : Int) (A : aSt) (hR : RelD σ A) (hA : AOk A) (h_x : InI x) (h_s : InI s)  : CM (ED e) l yX10_frame cX10_frame 4 (some .int) 20 [qr 0 0, qi x, qi s] σ (Ri fun z σ' => z = (oFrame x s A).1 ∧ RelD σ' (oFrame x s A).2) := by
  refine CM.mk tD_ok (by decide +kernel) (Nat.le_of_ble_eq_true rfl) (fun G C => ?_)
  show G σ 0 [some (qr 0 0), some (qi x), some (qi s), none] []
  obtain ⟨hb, e10, n10, m10, e11, n11, m11, e5, n5, m5, e4, n4, m4, h381, h382, h383, h384⟩ := dF hR hA
  refine r_aload_n C dX10_frame_0 rfl ?_
  refine r_iload_n C dX10_frame_1 rfl ?_
  refine r_cvi (c := 1) C dX10_frame_2 mv_X10_104 (c_X10_isLine e l _ _ hb (by omega)) (by decide) rfl rfl rfl rfl (by decide) rfl rfl (Nat.le_of_ble_eq_true rfl) (fun z2 σ2 h2 => ?_)
  obtain ⟨rfl, rfl⟩ := h2
  refine r_ifb_eq 16 C dX10_frame_5 (by decide) (fun h5 => ?_) (fun h5 => ?_)
  · refine r_aload_n C dX10_frame_16 rfl ?_
    refine r_ldc C dX10_frame_17 kc_X10_90 ?_
    refine r_cvi (c := 1) C dX10_frame_19 mv_X10_91 (c_X10_finding e l _ _) (by decide) rfl rfl rfl rfl (by decide) rfl rfl (Nat.le_of_ble_eq_true rfl) (fun z19 σ19 h19 => ?_)
    obtain ⟨rfl, rfl⟩ := h19
    refine r_iret C dX10_frame_22 ?_
    have e1 : oFrame x s A = fnd A (-100001) := by unfold oFrame; repeat (first | rw [if_pos (by omega)] | rw [if_neg (by omega)])
    exact ⟨_, rfl, by rw [e1]; rfl, by rw [e1]; exact rel_fnd hR _⟩
  · refine r_iload_n C dX10_frame_8 rfl ?_
    refine r_iconst C dX10_frame_9 ?_
    refine r_csi C dX10_frame_10 ms_X10_86 (c_X10_within e l _ _ _ (by omega) (by omega)) (by decide) rfl rfl (Nat.le_of_ble_eq_true rfl) (fun z10 σ10 h10 => ?_)
    obtain ⟨rfl, rfl⟩ := h10
    refine r_ifb_ne 23 C dX10_frame_13 (by decide) (fun h13 => ?_) (fun h13 => ?_)
    · have lf := ln_f hR hA (x := x) (by omega)
      refine r_aload_n C dX10_frame_23 rfl ?_
      refine r_get_r (c := 1) C dX10_frame_24 fl_X10_11 rfl rfl rfl (by decide) rfl ?_
      refine r_iload_n C dX10_frame_27 rfl ?_
      refine r_aald (c := 1) (N := 12) C dX10_frame_28 rfl (by decide) rfl (by decide) (by omega) rfl ?_
      refine r_astore_n C dX10_frame_29 rfl rfl (by decide) ?_
      refine r_aload_n C dX10_frame_30 rfl ?_
      refine r_get_i (c := 12) 2 C dX10_frame_31 fl_X10_108 rfl rfl rfl rfl (by omega) ?_
      have b31 := hb 81 x 2 (by omega) (by omega)
      refine r_bipush C dX10_frame_34 ?_
      refine r_ic_lt 46 C dX10_frame_36 (by decide) (by omega) (by omega) (fun h36 => ?_) (fun h36 => ?_)
      · refine r_aload_n C dX10_frame_46 rfl ?_
        refine r_get_r (c := 12) C dX10_frame_47 fl_X10_111 rfl rfl rfl (by omega) rfl ?_
        refine r_aload_n C dX10_frame_50 rfl ?_
        refine r_get_i (c := 12) 2 C dX10_frame_51 fl_X10_108 rfl rfl rfl rfl (by omega) ?_
        have b51 := hb 81 x 2 (by omega) (by omega)
        refine r_iload_n C dX10_frame_54 rfl ?_
        refine r_iast (c := 12) (N := 24) C dX10_frame_55 rfl rfl (by omega) (by omega) ?_
        refine r_aload_n C dX10_frame_56 rfl ?_
        refine r_dup C dX10_frame_57 ?_
        refine r_get_i (c := 12) 2 C dX10_frame_58 fl_X10_108 rfl rfl rfl rfl (by omega) ?_
        refine r_v (b := (σ 81 x 2)) (by simp [qUp, qCpy]) ?_
        have b58 := hb 81 x 2 (by omega) (by omega)
        refine r_iconst C dX10_frame_61 ?_
        refine r_iadd C dX10_frame_62 ?_
        refine r_put_i (c := 12) 2 C dX10_frame_63 fw_X10_108 rfl rfl rfl rfl (by omega) rfl rfl ?_
        refine r_aload_n C dX10_frame_66 rfl ?_
        refine r_iconst C dX10_frame_67 ?_
        refine r_iload_n C dX10_frame_68 rfl ?_
        refine r_iconst C dX10_frame_69 ?_
        refine r_cvr (c := 1) C dX10_frame_70 mv_X10_100 (c_X10_remember e l _ _ _ _ (by simp [qUp]; omega) (by simp [qUp]; omega)) (by decide) rfl rfl rfl rfl (by decide) rfl rfl (Nat.le_of_ble_eq_true rfl) (fun k70 i70 σ70 h70 => ?_)
        obtain ⟨rfl, rfl, rfl⟩ := h70
        refine r_pop C dX10_frame_73 ?_
        refine r_aload_n C dX10_frame_74 rfl ?_
        refine r_get_i (c := 12) 2 C dX10_frame_75 fl_X10_108 rfl rfl rfl rfl (by omega) ?_
        refine r_v (b := ((σ 81 x 2) + 1)) (by simp [pRem, pApp, qUp, qCpy]) ?_
        refine r_iret C dX10_frame_78 ?_
        have e1 : oFrame x s A = (((lnAt A x).2.length : Int) + 1, psh A (1, x, 0, []) (sL A.1 (mdf (fun y => (y.1, y.2 ++ [s])) (cL A.1) x.toNat))) := by unfold oFrame; repeat (first | rw [if_pos (by omega)] | rw [if_neg (by omega)])
        exact ⟨_, rfl, by rw [e1]; show _ = _; omega, by rw [e1]; exact rel_rem hR (fun a b c h => by repeat rw [qUp_ne (by omega)]) (by (repeat (refine Iv1.up ?_ (by omega) (by omega) (by omega) (by omega) (by omega))); exact hR.1.one) (cur_frame hR.2.2.1 (by omega) (ln_get (by omega)) rfl) (by omega) (by omega) (by omega)⟩
      · refine r_aload_n C dX10_frame_39 rfl ?_
        refine r_ldc C dX10_frame_40 kc_X10_95 ?_
        refine r_cvi (c := 1) C dX10_frame_42 mv_X10_91 (c_X10_finding e l _ _) (by decide) rfl rfl rfl rfl (by decide) rfl rfl (Nat.le_of_ble_eq_true rfl) (fun z42 σ42 h42 => ?_)
        obtain ⟨rfl, rfl⟩ := h42
        refine r_iret C dX10_frame_45 ?_
        have e1 : oFrame x s A = fnd A (-100005) := by unfold oFrame; repeat (first | rw [if_pos (by omega)] | rw [if_neg (by omega)])
        exact ⟨_, rfl, by rw [e1]; rfl, by rw [e1]; exact rel_fnd hR _⟩
    · refine r_aload_n C dX10_frame_16 rfl ?_
      refine r_ldc C dX10_frame_17 kc_X10_90 ?_
      refine r_cvi (c := 1) C dX10_frame_19 mv_X10_91 (c_X10_finding e l _ _) (by decide) rfl rfl rfl rfl (by decide) rfl rfl (Nat.le_of_ble_eq_true rfl) (fun z19 σ19 h19 => ?_)
      obtain ⟨rfl, rfl⟩ := h19
      refine r_iret C dX10_frame_22 ?_
      have e1 : oFrame x s A = fnd A (-100001) := by unfold oFrame; repeat (first | rw [if_pos (by omega)] | rw [if_neg (by omega)])
      exact ⟨_, rfl, by rw [e1]; rfl, by rw [e1]; exact rel_fnd hR _⟩
set_option maxRecDepth 20000 in
theorem o_wording (e : qR) (l : Launch) (σ : qSt) (x k s : Int) (A : aSt) (hR : RelD σ A) (hA : AOk A) (h_x : InI x) (h_k : InI k) (h_s : InI s)  : CM (ED e) l yX10_wording cX10_wording 4 (some .int) 20 [qr 0 0, qi x, qi k, qi s] σ (Ri fun z σ' => z = (oWording x k s A).1 ∧ RelD σ' (oWording x k s A).2) := by
  refine CM.mk tD_ok (by decide +kernel) (Nat.le_of_ble_eq_true rfl) (fun G C => ?_)
  show G σ 0 [some (qr 0 0), some (qi x), some (qi k), some (qi s)] []
  obtain ⟨hb, e10, n10, m10, e11, n11, m11, e5, n5, m5, e4, n4, m4, h381, h382, h383, h384⟩ := dF hR hA
  refine r_aload_n C dX10_wording_0 rfl ?_
  refine r_iload_n C dX10_wording_1 rfl ?_
  refine r_cvi (c := 1) C dX10_wording_2 mv_X10_104 (c_X10_isLine e l _ _ hb (by omega)) (by decide) rfl rfl rfl rfl (by decide) rfl rfl (Nat.le_of_ble_eq_true rfl) (fun z2 σ2 h2 => ?_)
  obtain ⟨rfl, rfl⟩ := h2
  refine r_ifb_eq 25 C dX10_wording_5 (by decide) (fun h5 => ?_) (fun h5 => ?_)
  · refine r_aload_n C dX10_wording_25 rfl ?_
    refine r_ldc C dX10_wording_26 kc_X10_90 ?_
    refine r_cvi (c := 1) C dX10_wording_28 mv_X10_91 (c_X10_finding e l _ _) (by decide) rfl rfl rfl rfl (by decide) rfl rfl (Nat.le_of_ble_eq_true rfl) (fun z28 σ28 h28 => ?_)
    obtain ⟨rfl, rfl⟩ := h28
    refine r_iret C dX10_wording_31 ?_
    have e1 : oWording x k s A = fnd A (-100001) := by unfold oWording; repeat (first | rw [if_pos (by omega)] | rw [if_neg (by omega)])
    exact ⟨_, rfl, by rw [e1]; rfl, by rw [e1]; exact rel_fnd hR _⟩
  · refine r_iload_n C dX10_wording_8 rfl ?_
    refine r_iconst C dX10_wording_9 ?_
    refine r_csi C dX10_wording_10 ms_X10_86 (c_X10_within e l _ _ _ (by omega) (by omega)) (by decide) rfl rfl (Nat.le_of_ble_eq_true rfl) (fun z10 σ10 h10 => ?_)
    obtain ⟨rfl, rfl⟩ := h10
    refine r_ifb_eq 25 C dX10_wording_13 (by decide) (fun h13 => ?_) (fun h13 => ?_)
    · refine r_aload_n C dX10_wording_25 rfl ?_
      refine r_ldc C dX10_wording_26 kc_X10_90 ?_
      refine r_cvi (c := 1) C dX10_wording_28 mv_X10_91 (c_X10_finding e l _ _) (by decide) rfl rfl rfl rfl (by decide) rfl rfl (Nat.le_of_ble_eq_true rfl) (fun z28 σ28 h28 => ?_)
      obtain ⟨rfl, rfl⟩ := h28
      refine r_iret C dX10_wording_31 ?_
      have e1 : oWording x k s A = fnd A (-100001) := by unfold oWording; repeat (first | rw [if_pos (by omega)] | rw [if_neg (by omega)])
      exact ⟨_, rfl, by rw [e1]; rfl, by rw [e1]; exact rel_fnd hR _⟩
    · refine r_iload_n C dX10_wording_16 rfl ?_
      refine r_bipush C dX10_wording_17 ?_
      refine r_csi C dX10_wording_19 ms_X10_86 (c_X10_within e l _ _ _ (by omega) (by omega)) (by decide) rfl rfl (Nat.le_of_ble_eq_true rfl) (fun z19 σ19 h19 => ?_)
      obtain ⟨rfl, rfl⟩ := h19
      refine r_ifb_ne 32 C dX10_wording_22 (by decide) (fun h22 => ?_) (fun h22 => ?_)
      · refine r_aload_n C dX10_wording_32 rfl ?_
        refine r_get_i (c := 1) 11 C dX10_wording_33 fl_X10_77 rfl rfl rfl rfl (by decide) ?_
        have b33 := hb 0 0 11 (by omega) (by omega)
        refine r_bipush C dX10_wording_36 ?_
        refine r_ic_lt 48 C dX10_wording_38 (by decide) (by omega) (by omega) (fun h38 => ?_) (fun h38 => ?_)
        · refine r_aload_n C dX10_wording_48 rfl ?_
          refine r_get_r (c := 1) C dX10_wording_49 fl_X10_17 rfl rfl rfl (by decide) rfl ?_
          refine r_aload_n C dX10_wording_52 rfl ?_
          refine r_get_i (c := 1) 11 C dX10_wording_53 fl_X10_77 rfl rfl rfl rfl (by decide) ?_
          have b53 := hb 0 0 11 (by omega) (by omega)
          refine r_aald (c := 1) (N := 20) C dX10_wording_56 rfl (by decide) rfl (by decide) (by omega) rfl ?_
          refine r_iload_n C dX10_wording_57 rfl ?_
          refine r_iload_n C dX10_wording_58 rfl ?_
          refine r_iload_n C dX10_wording_59 rfl ?_
          refine r_cvv (c := 20) C dX10_wording_60 mv_X10_114 (c_X9_begin e l _ _ _ _ _ (by omega)) (by decide) rfl rfl rfl rfl (by omega) rfl rfl (Nat.le_of_ble_eq_true rfl) (fun σ60 h60 => ?_)
          subst h60
          refine r_aload_n C dX10_wording_63 rfl ?_
          refine r_dup C dX10_wording_64 ?_
          refine r_get_i (c := 1) 11 C dX10_wording_65 fl_X10_77 rfl rfl rfl rfl (by decide) ?_
          refine r_v (b := (σ 0 0 11)) (by simp [qUp, qCpy]) ?_
          have b65 := hb 0 0 11 (by omega) (by omega)
          refine r_iconst C dX10_wording_68 ?_
          refine r_iadd C dX10_wording_69 ?_
          refine r_put_i (c := 1) 11 C dX10_wording_70 fw_X10_77 rfl rfl rfl rfl (by decide) rfl rfl ?_
          refine r_aload_n C dX10_wording_73 rfl ?_
          refine r_iconst C dX10_wording_74 ?_
          refine r_iconst C dX10_wording_75 ?_
          refine r_iconst C dX10_wording_76 ?_
          refine r_cvr (c := 1) C dX10_wording_77 mv_X10_100 (c_X10_remember e l _ _ _ _ (by simp [qUp]; omega) (by simp [qUp]; omega)) (by decide) rfl rfl rfl rfl (by decide) rfl rfl (Nat.le_of_ble_eq_true rfl) (fun k77 i77 σ77 h77 => ?_)
          obtain ⟨rfl, rfl, rfl⟩ := h77
          refine r_pop C dX10_wording_80 ?_
          refine r_aload_n C dX10_wording_81 rfl ?_
          refine r_get_i (c := 1) 11 C dX10_wording_82 fl_X10_77 rfl rfl rfl rfl (by decide) ?_
          refine r_v (b := ((σ 0 0 11) + 1)) (by simp [pRem, pApp, qUp, qCpy]) ?_
          refine r_iconst C dX10_wording_85 ?_
          refine r_isub C dX10_wording_86 ?_
          refine r_iret C dX10_wording_87 ?_
          have e1 : oWording x k s A = (nWd A, psh A (2, 0, 0, []) (sW A.1 (cW A.1 ++ [(x, k, s, [])]))) := by unfold oWording; repeat (first | rw [if_pos (by omega)] | rw [if_neg (by omega)])
          exact ⟨_, rfl, by rw [e1]; show _ = _; omega, by rw [e1]; exact rel_rem hR (fun a b c h => by repeat rw [qUp_ne (by omega)]) (by (repeat (refine Iv1.up ?_ (by omega) (by omega) (by omega) (by omega) (by omega))); exact hR.1.one) (cur_wording hR.2.2.1 rfl rfl) (by omega) (by omega) (by omega)⟩
        · refine r_aload_n C dX10_wording_41 rfl ?_
          refine r_ldc C dX10_wording_42 kc_X10_95 ?_
          refine r_cvi (c := 1) C dX10_wording_44 mv_X10_91 (c_X10_finding e l _ _) (by decide) rfl rfl rfl rfl (by decide) rfl rfl (Nat.le_of_ble_eq_true rfl) (fun z44 σ44 h44 => ?_)
          obtain ⟨rfl, rfl⟩ := h44
          refine r_iret C dX10_wording_47 ?_
          have e1 : oWording x k s A = fnd A (-100005) := by unfold oWording; repeat (first | rw [if_pos (by omega)] | rw [if_neg (by omega)])
          exact ⟨_, rfl, by rw [e1]; rfl, by rw [e1]; exact rel_fnd hR _⟩
      · refine r_aload_n C dX10_wording_25 rfl ?_
        refine r_ldc C dX10_wording_26 kc_X10_90 ?_
        refine r_cvi (c := 1) C dX10_wording_28 mv_X10_91 (c_X10_finding e l _ _) (by decide) rfl rfl rfl rfl (by decide) rfl rfl (Nat.le_of_ble_eq_true rfl) (fun z28 σ28 h28 => ?_)
        obtain ⟨rfl, rfl⟩ := h28
        refine r_iret C dX10_wording_31 ?_
        have e1 : oWording x k s A = fnd A (-100001) := by unfold oWording; repeat (first | rw [if_pos (by omega)] | rw [if_neg (by omega)])
        exact ⟨_, rfl, by rw [e1]; rfl, by rw [e1]; exact rel_fnd hR _⟩
set_option maxRecDepth 20000 in
theorem o_as (e : qR) (l : Launch) (σ : qSt) (w k : Int) (A : aSt) (hR : RelD σ A) (hA : AOk A) (h_w : InI w) (h_k : InI k)  : CM (ED e) l yX10_as cX10_as 3 (some .int) 20 [qr 0 0, qi w, qi k] σ (Ri fun z σ' => z = (oAs w k A).1 ∧ RelD σ' (oAs w k A).2) := by
  refine CM.mk tD_ok (by decide +kernel) (Nat.le_of_ble_eq_true rfl) (fun G C => ?_)
  show G σ 0 [some (qr 0 0), some (qi w), some (qi k)] []
  obtain ⟨hb, e10, n10, m10, e11, n11, m11, e5, n5, m5, e4, n4, m4, h381, h382, h383, h384⟩ := dF hR hA
  refine r_aload_n C dX10_as_0 rfl ?_
  refine r_iload_n C dX10_as_1 rfl ?_
  refine r_cvi (c := 1) C dX10_as_2 mv_X10_117 (c_X10_isWording e l _ _ hb (by omega)) (by decide) rfl rfl rfl rfl (by decide) rfl rfl (Nat.le_of_ble_eq_true rfl) (fun z2 σ2 h2 => ?_)
  obtain ⟨rfl, rfl⟩ := h2
  refine r_ifb_eq 16 C dX10_as_5 (by decide) (fun h5 => ?_) (fun h5 => ?_)
  · refine r_aload_n C dX10_as_16 rfl ?_
    refine r_ldc C dX10_as_17 kc_X10_90 ?_
    refine r_cvi (c := 1) C dX10_as_19 mv_X10_91 (c_X10_finding e l _ _) (by decide) rfl rfl rfl rfl (by decide) rfl rfl (Nat.le_of_ble_eq_true rfl) (fun z19 σ19 h19 => ?_)
    obtain ⟨rfl, rfl⟩ := h19
    refine r_iret C dX10_as_22 ?_
    have e1 : oAs w k A = fnd A (-100001) := by unfold oAs; repeat (first | rw [if_pos (by omega)] | rw [if_neg (by omega)])
    exact ⟨_, rfl, by rw [e1]; rfl, by rw [e1]; exact rel_fnd hR _⟩
  · refine r_iload_n C dX10_as_8 rfl ?_
    refine r_iconst C dX10_as_9 ?_
    refine r_csi C dX10_as_10 ms_X10_86 (c_X10_within e l _ _ _ (by omega) (by omega)) (by decide) rfl rfl (Nat.le_of_ble_eq_true rfl) (fun z10 σ10 h10 => ?_)
    obtain ⟨rfl, rfl⟩ := h10
    refine r_ifb_ne 23 C dX10_as_13 (by decide) (fun h13 => ?_) (fun h13 => ?_)
    · have wf := wd_f hR hA (x := w) (by omega)
      refine r_aload_n C dX10_as_23 rfl ?_
      refine r_get_r (c := 1) C dX10_as_24 fl_X10_17 rfl rfl rfl (by decide) rfl ?_
      refine r_iload_n C dX10_as_27 rfl ?_
      refine r_aald (c := 1) (N := 20) C dX10_as_28 rfl (by decide) rfl (by decide) (by omega) rfl ?_
      refine r_iload_n C dX10_as_29 rfl ?_
      refine r_cvi (c := 20) C dX10_as_30 mv_X10_120 (c_X9_isOfKind e l _ _ _ (by omega) (by omega) (by omega)) (by decide) rfl rfl rfl rfl (by omega) rfl rfl (Nat.le_of_ble_eq_true rfl) (fun z30 σ30 h30 => ?_)
      obtain ⟨rfl, rfl⟩ := h30
      refine r_ifb_ne 43 C dX10_as_33 (by decide) (fun h33 => ?_) (fun h33 => ?_)
      · refine r_iload_n C dX10_as_43 rfl ?_
        refine r_iret C dX10_as_44 ?_
        have e1 : oAs w k A = (w, A) := by unfold oAs; repeat (first | rw [if_pos (by omega)] | rw [if_neg (by omega)])
        exact ⟨_, rfl, by rw [e1] <;> (try (show _ = _; omega)), by rw [e1]; exact hR⟩
      · refine r_aload_n C dX10_as_36 rfl ?_
        refine r_ldc C dX10_as_37 kc_X10_123 ?_
        refine r_cvi (c := 1) C dX10_as_39 mv_X10_91 (c_X10_finding e l _ _) (by decide) rfl rfl rfl rfl (by decide) rfl rfl (Nat.le_of_ble_eq_true rfl) (fun z39 σ39 h39 => ?_)
        obtain ⟨rfl, rfl⟩ := h39
        refine r_iret C dX10_as_42 ?_
        have e1 : oAs w k A = fnd A (-100004) := by unfold oAs; repeat (first | rw [if_pos (by omega)] | rw [if_neg (by omega)])
        exact ⟨_, rfl, by rw [e1]; rfl, by rw [e1]; exact rel_fnd hR _⟩
    · refine r_aload_n C dX10_as_16 rfl ?_
      refine r_ldc C dX10_as_17 kc_X10_90 ?_
      refine r_cvi (c := 1) C dX10_as_19 mv_X10_91 (c_X10_finding e l _ _) (by decide) rfl rfl rfl rfl (by decide) rfl rfl (Nat.le_of_ble_eq_true rfl) (fun z19 σ19 h19 => ?_)
      obtain ⟨rfl, rfl⟩ := h19
      refine r_iret C dX10_as_22 ?_
      have e1 : oAs w k A = fnd A (-100001) := by unfold oAs; repeat (first | rw [if_pos (by omega)] | rw [if_neg (by omega)])
      exact ⟨_, rfl, by rw [e1]; rfl, by rw [e1]; exact rel_fnd hR _⟩
set_option maxRecDepth 20000 in
theorem o_syllable (e : qR) (l : Launch) (σ : qSt) (w s0 s1 s2 s3 : Int) (A : aSt) (hR : RelD σ A) (hA : AOk A) (h_w : InI w) (h_s0 : InI s0) (h_s1 : InI s1) (h_s2 : InI s2) (h_s3 : InI s3)  : CM (ED e) l yX10_syllable cX10_syllable 7 (some .int) 20 [qr 0 0, qi w, qi s0, qi s1, qi s2, qi s3] σ (Ri fun z σ' => z = (oSyllable w s0 s1 s2 s3 A).1 ∧ RelD σ' (oSyllable w s0 s1 s2 s3 A).2) := by
  refine CM.mk tD_ok (by decide +kernel) (Nat.le_of_ble_eq_true rfl) (fun G C => ?_)
  show G σ 0 [some (qr 0 0), some (qi w), some (qi s0), some (qi s1), some (qi s2), some (qi s3), none] []
  obtain ⟨hb, e10, n10, m10, e11, n11, m11, e5, n5, m5, e4, n4, m4, h381, h382, h383, h384⟩ := dF hR hA
  refine r_aload_n C dX10_syllable_0 rfl ?_
  refine r_iload_n C dX10_syllable_1 rfl ?_
  refine r_cvi (c := 1) C dX10_syllable_2 mv_X10_117 (c_X10_isWording e l _ _ hb (by omega)) (by decide) rfl rfl rfl rfl (by decide) rfl rfl (Nat.le_of_ble_eq_true rfl) (fun z2 σ2 h2 => ?_)
  obtain ⟨rfl, rfl⟩ := h2
  refine r_ifb_eq 41 C dX10_syllable_5 (by decide) (fun h5 => ?_) (fun h5 => ?_)
  · refine r_aload_n C dX10_syllable_41 rfl ?_
    refine r_ldc C dX10_syllable_42 kc_X10_90 ?_
    refine r_cvi (c := 1) C dX10_syllable_44 mv_X10_91 (c_X10_finding e l _ _) (by decide) rfl rfl rfl rfl (by decide) rfl rfl (Nat.le_of_ble_eq_true rfl) (fun z44 σ44 h44 => ?_)
    obtain ⟨rfl, rfl⟩ := h44
    refine r_iret C dX10_syllable_47 ?_
    have e1 : oSyllable w s0 s1 s2 s3 A = fnd A (-100001) := by unfold oSyllable; repeat (first | rw [if_pos (by omega)] | rw [if_neg (by omega)])
    exact ⟨_, rfl, by rw [e1]; rfl, by rw [e1]; exact rel_fnd hR _⟩
  · refine r_iload_n C dX10_syllable_8 rfl ?_
    refine r_iconst C dX10_syllable_9 ?_
    refine r_csi C dX10_syllable_10 ms_X10_86 (c_X10_within e l _ _ _ (by omega) (by omega)) (by decide) rfl rfl (Nat.le_of_ble_eq_true rfl) (fun z10 σ10 h10 => ?_)
    obtain ⟨rfl, rfl⟩ := h10
    refine r_ifb_eq 41 C dX10_syllable_13 (by decide) (fun h13 => ?_) (fun h13 => ?_)
    · refine r_aload_n C dX10_syllable_41 rfl ?_
      refine r_ldc C dX10_syllable_42 kc_X10_90 ?_
      refine r_cvi (c := 1) C dX10_syllable_44 mv_X10_91 (c_X10_finding e l _ _) (by decide) rfl rfl rfl rfl (by decide) rfl rfl (Nat.le_of_ble_eq_true rfl) (fun z44 σ44 h44 => ?_)
      obtain ⟨rfl, rfl⟩ := h44
      refine r_iret C dX10_syllable_47 ?_
      have e1 : oSyllable w s0 s1 s2 s3 A = fnd A (-100001) := by unfold oSyllable; repeat (first | rw [if_pos (by omega)] | rw [if_neg (by omega)])
      exact ⟨_, rfl, by rw [e1]; rfl, by rw [e1]; exact rel_fnd hR _⟩
    · refine r_iload_n C dX10_syllable_16 rfl ?_
      refine r_csi C dX10_syllable_17 ms_X10_124 (c_X10_isLength e l _ _ (by omega)) (by decide) rfl rfl (Nat.le_of_ble_eq_true rfl) (fun z17 σ17 h17 => ?_)
      obtain ⟨rfl, rfl⟩ := h17
      refine r_ifb_eq 41 C dX10_syllable_20 (by decide) (fun h20 => ?_) (fun h20 => ?_)
      · refine r_aload_n C dX10_syllable_41 rfl ?_
        refine r_ldc C dX10_syllable_42 kc_X10_90 ?_
        refine r_cvi (c := 1) C dX10_syllable_44 mv_X10_91 (c_X10_finding e l _ _) (by decide) rfl rfl rfl rfl (by decide) rfl rfl (Nat.le_of_ble_eq_true rfl) (fun z44 σ44 h44 => ?_)
        obtain ⟨rfl, rfl⟩ := h44
        refine r_iret C dX10_syllable_47 ?_
        have e1 : oSyllable w s0 s1 s2 s3 A = fnd A (-100001) := by unfold oSyllable; repeat (first | rw [if_pos (by omega)] | rw [if_neg (by omega)])
        exact ⟨_, rfl, by rw [e1]; rfl, by rw [e1]; exact rel_fnd hR _⟩
      · refine r_iload C dX10_syllable_23 rfl ?_
        refine r_csi C dX10_syllable_25 ms_X10_124 (c_X10_isLength e l _ _ (by omega)) (by decide) rfl rfl (Nat.le_of_ble_eq_true rfl) (fun z25 σ25 h25 => ?_)
        obtain ⟨rfl, rfl⟩ := h25
        refine r_ifb_eq 41 C dX10_syllable_28 (by decide) (fun h28 => ?_) (fun h28 => ?_)
        · refine r_aload_n C dX10_syllable_41 rfl ?_
          refine r_ldc C dX10_syllable_42 kc_X10_90 ?_
          refine r_cvi (c := 1) C dX10_syllable_44 mv_X10_91 (c_X10_finding e l _ _) (by decide) rfl rfl rfl rfl (by decide) rfl rfl (Nat.le_of_ble_eq_true rfl) (fun z44 σ44 h44 => ?_)
          obtain ⟨rfl, rfl⟩ := h44
          refine r_iret C dX10_syllable_47 ?_
          have e1 : oSyllable w s0 s1 s2 s3 A = fnd A (-100001) := by unfold oSyllable; repeat (first | rw [if_pos (by omega)] | rw [if_neg (by omega)])
          exact ⟨_, rfl, by rw [e1]; rfl, by rw [e1]; exact rel_fnd hR _⟩
        · refine r_iload C dX10_syllable_31 rfl ?_
          refine r_bipush C dX10_syllable_33 ?_
          refine r_csi C dX10_syllable_35 ms_X10_86 (c_X10_within e l _ _ _ (by omega) (by omega)) (by decide) rfl rfl (Nat.le_of_ble_eq_true rfl) (fun z35 σ35 h35 => ?_)
          obtain ⟨rfl, rfl⟩ := h35
          refine r_ifb_ne 48 C dX10_syllable_38 (by decide) (fun h38 => ?_) (fun h38 => ?_)
          · refine r_iload_n C dX10_syllable_48 rfl ?_
            refine r_iload C dX10_syllable_49 rfl ?_
            refine r_ic_le 61 C dX10_syllable_51 (by decide) (by omega) (by omega) (fun h51 => ?_) (fun h51 => ?_)
            · have wf := wd_f hR hA (x := w) (by omega)
              refine r_aload_n C dX10_syllable_61 rfl ?_
              refine r_get_r (c := 1) C dX10_syllable_62 fl_X10_17 rfl rfl rfl (by decide) rfl ?_
              refine r_iload_n C dX10_syllable_65 rfl ?_
              refine r_aald (c := 1) (N := 20) C dX10_syllable_66 rfl (by decide) rfl (by decide) (by omega) rfl ?_
              refine r_astore C dX10_syllable_67 rfl rfl (by decide) ?_
              refine r_aload C dX10_syllable_69 rfl ?_
              refine r_get_i (c := 20) 7 C dX10_syllable_71 fl_X10_128 rfl rfl rfl rfl (by omega) ?_
              have b71 := hb 105 w 7 (by omega) (by omega)
              refine r_bipush C dX10_syllable_74 ?_
              refine r_ic_lt 86 C dX10_syllable_76 (by decide) (by omega) (by omega) (fun h76 => ?_) (fun h76 => ?_)
              · refine r_aload C dX10_syllable_86 rfl ?_
                refine r_iload_n C dX10_syllable_88 rfl ?_
                refine r_iload_n C dX10_syllable_89 rfl ?_
                refine r_iload C dX10_syllable_90 rfl ?_
                refine r_iload C dX10_syllable_92 rfl ?_
                refine r_cvv (c := 20) C dX10_syllable_94 mv_X10_131 (c_X9_append e l _ _ _ _ _ _ (by omega) (by omega)) (by decide) rfl rfl rfl rfl (by omega) rfl rfl (Nat.le_of_ble_eq_true rfl) (fun σ94 h94 => ?_)
                subst h94
                refine r_aload_n C dX10_syllable_97 rfl ?_
                refine r_iconst C dX10_syllable_98 ?_
                refine r_iload_n C dX10_syllable_99 rfl ?_
                refine r_iconst C dX10_syllable_100 ?_
                refine r_cvr (c := 1) C dX10_syllable_101 mv_X10_100 (c_X10_remember e l _ _ _ _ (by simp [qUp]; omega) (by simp [qUp]; omega)) (by decide) rfl rfl rfl rfl (by decide) rfl rfl (Nat.le_of_ble_eq_true rfl) (fun k101 i101 σ101 h101 => ?_)
                obtain ⟨rfl, rfl, rfl⟩ := h101
                refine r_pop C dX10_syllable_104 ?_
                refine r_aload C dX10_syllable_105 rfl ?_
                refine r_get_i (c := 20) 7 C dX10_syllable_107 fl_X10_128 rfl rfl rfl rfl (by omega) ?_
                refine r_v (b := (σ 105 w 7 + 1)) (by simp [pRem, pApp, qUp, qCpy]) ?_
                refine r_iret C dX10_syllable_110 ?_
                have e1 : oSyllable w s0 s1 s2 s3 A = (((wdAt A w).2.2.2.length : Int) + 1, psh A (3, w, 0, []) (sW A.1 (mdf (fun y => (y.1, y.2.1, y.2.2.1, y.2.2.2 ++ [(s0, s1, s2, s3)])) (cW A.1) w.toNat))) := by unfold oSyllable; repeat (first | rw [if_pos (by omega)] | rw [if_neg (by omega)])
                exact ⟨_, rfl, by rw [e1]; show _ = _; omega, by rw [e1]; exact rel_rem hR (fun a b c h => by repeat rw [qUp_ne (by omega)]) (by (repeat (refine Iv1.up ?_ (by omega) (by omega) (by omega) (by omega) (by omega))); exact hR.1.one) (cur_syl hR.2.2.1 (by omega) (wd_get (by omega)) rfl) (by omega) (by omega) (by omega)⟩
              · refine r_aload_n C dX10_syllable_79 rfl ?_
                refine r_ldc C dX10_syllable_80 kc_X10_95 ?_
                refine r_cvi (c := 1) C dX10_syllable_82 mv_X10_91 (c_X10_finding e l _ _) (by decide) rfl rfl rfl rfl (by decide) rfl rfl (Nat.le_of_ble_eq_true rfl) (fun z82 σ82 h82 => ?_)
                obtain ⟨rfl, rfl⟩ := h82
                refine r_iret C dX10_syllable_85 ?_
                have e1 : oSyllable w s0 s1 s2 s3 A = fnd A (-100005) := by unfold oSyllable; repeat (first | rw [if_pos (by omega)] | rw [if_neg (by omega)])
                exact ⟨_, rfl, by rw [e1]; rfl, by rw [e1]; exact rel_fnd hR _⟩
            · refine r_aload_n C dX10_syllable_54 rfl ?_
              refine r_ldc C dX10_syllable_55 kc_X10_127 ?_
              refine r_cvi (c := 1) C dX10_syllable_57 mv_X10_91 (c_X10_finding e l _ _) (by decide) rfl rfl rfl rfl (by decide) rfl rfl (Nat.le_of_ble_eq_true rfl) (fun z57 σ57 h57 => ?_)
              obtain ⟨rfl, rfl⟩ := h57
              refine r_iret C dX10_syllable_60 ?_
              have e1 : oSyllable w s0 s1 s2 s3 A = fnd A (-100003) := by unfold oSyllable; repeat (first | rw [if_pos (by omega)] | rw [if_neg (by omega)])
              exact ⟨_, rfl, by rw [e1]; rfl, by rw [e1]; exact rel_fnd hR _⟩
          · refine r_aload_n C dX10_syllable_41 rfl ?_
            refine r_ldc C dX10_syllable_42 kc_X10_90 ?_
            refine r_cvi (c := 1) C dX10_syllable_44 mv_X10_91 (c_X10_finding e l _ _) (by decide) rfl rfl rfl rfl (by decide) rfl rfl (Nat.le_of_ble_eq_true rfl) (fun z44 σ44 h44 => ?_)
            obtain ⟨rfl, rfl⟩ := h44
            refine r_iret C dX10_syllable_47 ?_
            have e1 : oSyllable w s0 s1 s2 s3 A = fnd A (-100001) := by unfold oSyllable; repeat (first | rw [if_pos (by omega)] | rw [if_neg (by omega)])
            exact ⟨_, rfl, by rw [e1]; rfl, by rw [e1]; exact rel_fnd hR _⟩
set_option maxRecDepth 20000 in
theorem o_of (e : qR) (l : Launch) (σ : qSt) (w k : Int) (A : aSt) (hR : RelD σ A) (hA : AOk A) (h_w : InI w) (h_k : InI k)  : CM (ED e) l yX10_of cX10_of 4 (some .int) 20 [qr 0 0, qi w, qi k] σ (Ri fun z σ' => z = (oOf w k A).1 ∧ RelD σ' (oOf w k A).2) := by
  refine CM.mk tD_ok (by decide +kernel) (Nat.le_of_ble_eq_true rfl) (fun G C => ?_)
  show G σ 0 [some (qr 0 0), some (qi w), some (qi k), none] []
  obtain ⟨hb, e10, n10, m10, e11, n11, m11, e5, n5, m5, e4, n4, m4, h381, h382, h383, h384⟩ := dF hR hA
  refine r_aload_n C dX10_of_0 rfl ?_
  refine r_iload_n C dX10_of_1 rfl ?_
  refine r_cvi (c := 1) C dX10_of_2 mv_X10_117 (c_X10_isWording e l _ _ hb (by omega)) (by decide) rfl rfl rfl rfl (by decide) rfl rfl (Nat.le_of_ble_eq_true rfl) (fun z2 σ2 h2 => ?_)
  obtain ⟨rfl, rfl⟩ := h2
  refine r_ifb_ne 15 C dX10_of_5 (by decide) (fun h5 => ?_) (fun h5 => ?_)
  · have wf := wd_f hR hA (x := w) (by omega)
    refine r_aload_n C dX10_of_15 rfl ?_
    refine r_get_r (c := 1) C dX10_of_16 fl_X10_17 rfl rfl rfl (by decide) rfl ?_
    refine r_iload_n C dX10_of_19 rfl ?_
    refine r_aald (c := 1) (N := 20) C dX10_of_20 rfl (by decide) rfl (by decide) (by omega) rfl ?_
    refine r_astore_n C dX10_of_21 rfl rfl (by decide) ?_
    refine r_iload_n C dX10_of_22 rfl ?_
    rcases (by omega : k = 0 ∨ k = 1 ∨ k = 2 ∨ k = 3 ∨ (k < 0 ∨ 3 < k)) with h23 | h23 | h23 | h23 | h23
    · refine r_v h23 ?_
      refine r_tabIn 52 C dX10_of_23 (by decide) (by decide) (by decide) rfl (by decide) ?_
      refine r_aload_n C dX10_of_52 rfl ?_
      refine r_get_i (c := 20) 4 C dX10_of_53 fl_X10_142 rfl rfl rfl rfl (by omega) ?_
      have b53 := hb 105 w 4 (by omega) (by omega)
      refine r_iret C dX10_of_56 ?_
      have e1 : oOf w k A = ((wdAt A w).1, A) := by unfold oOf; repeat (first | rw [if_pos (by omega)] | rw [if_neg (by omega)])
      exact ⟨_, rfl, by rw [e1] <;> (try (show _ = _; omega)), by rw [e1]; exact hR⟩
    · refine r_v h23 ?_
      refine r_tabIn 57 C dX10_of_23 (by decide) (by decide) (by decide) rfl (by decide) ?_
      refine r_aload_n C dX10_of_57 rfl ?_
      refine r_get_i (c := 20) 5 C dX10_of_58 fl_X10_145 rfl rfl rfl rfl (by omega) ?_
      have b58 := hb 105 w 5 (by omega) (by omega)
      refine r_iret C dX10_of_61 ?_
      have e1 : oOf w k A = ((wdAt A w).2.1, A) := by unfold oOf; repeat (first | rw [if_pos (by omega)] | rw [if_neg (by omega)])
      exact ⟨_, rfl, by rw [e1] <;> (try (show _ = _; omega)), by rw [e1]; exact hR⟩
    · refine r_v h23 ?_
      refine r_tabIn 62 C dX10_of_23 (by decide) (by decide) (by decide) rfl (by decide) ?_
      refine r_aload_n C dX10_of_62 rfl ?_
      refine r_get_i (c := 20) 6 C dX10_of_63 fl_X10_148 rfl rfl rfl rfl (by omega) ?_
      have b63 := hb 105 w 6 (by omega) (by omega)
      refine r_iret C dX10_of_66 ?_
      have e1 : oOf w k A = ((wdAt A w).2.2.1, A) := by unfold oOf; repeat (first | rw [if_pos (by omega)] | rw [if_neg (by omega)])
      exact ⟨_, rfl, by rw [e1] <;> (try (show _ = _; omega)), by rw [e1]; exact hR⟩
    · refine r_v h23 ?_
      refine r_tabIn 67 C dX10_of_23 (by decide) (by decide) (by decide) rfl (by decide) ?_
      refine r_aload_n C dX10_of_67 rfl ?_
      refine r_get_i (c := 20) 7 C dX10_of_68 fl_X10_128 rfl rfl rfl rfl (by omega) ?_
      have b68 := hb 105 w 7 (by omega) (by omega)
      refine r_iret C dX10_of_71 ?_
      have e1 : oOf w k A = (((wdAt A w).2.2.2.length : Int), A) := by unfold oOf; repeat (first | rw [if_pos (by omega)] | rw [if_neg (by omega)])
      exact ⟨_, rfl, by rw [e1] <;> (try (show _ = _; omega)), by rw [e1]; exact hR⟩
    · refine r_tabOut 72 C dX10_of_23 (by decide) (by omega) h23 ?_
      refine r_aload_n C dX10_of_72 rfl ?_
      refine r_ldc C dX10_of_73 kc_X10_90 ?_
      refine r_cvi (c := 1) C dX10_of_75 mv_X10_91 (c_X10_finding e l _ _) (by decide) rfl rfl rfl rfl (by decide) rfl rfl (Nat.le_of_ble_eq_true rfl) (fun z75 σ75 h75 => ?_)
      obtain ⟨rfl, rfl⟩ := h75
      refine r_iret C dX10_of_78 ?_
      have e1 : oOf w k A = fnd A (-100001) := by unfold oOf; repeat (first | rw [if_pos (by omega)] | rw [if_neg (by omega)])
      exact ⟨_, rfl, by rw [e1]; rfl, by rw [e1]; exact rel_fnd hR _⟩
  · refine r_aload_n C dX10_of_8 rfl ?_
    refine r_ldc C dX10_of_9 kc_X10_90 ?_
    refine r_cvi (c := 1) C dX10_of_11 mv_X10_91 (c_X10_finding e l _ _) (by decide) rfl rfl rfl rfl (by decide) rfl rfl (Nat.le_of_ble_eq_true rfl) (fun z11 σ11 h11 => ?_)
    obtain ⟨rfl, rfl⟩ := h11
    refine r_iret C dX10_of_14 ?_
    have e1 : oOf w k A = fnd A (-100001) := by unfold oOf; repeat (first | rw [if_pos (by omega)] | rw [if_neg (by omega)])
    exact ⟨_, rfl, by rw [e1]; rfl, by rw [e1]; exact rel_fnd hR _⟩
set_option maxRecDepth 20000 in
theorem o_told (e : qR) (l : Launch) (σ : qSt) (x k : Int) (A : aSt) (hR : RelD σ A) (hA : AOk A) (h_x : InI x) (h_k : InI k)  : CM (ED e) l yX10_told cX10_told 3 (some .int) 20 [qr 0 0, qi x, qi k] σ (Ri fun z σ' => z = (oTold x k A).1 ∧ RelD σ' (oTold x k A).2) := by
  refine CM.mk tD_ok (by decide +kernel) (Nat.le_of_ble_eq_true rfl) (fun G C => ?_)
  show G σ 0 [some (qr 0 0), some (qi x), some (qi k)] []
  obtain ⟨hb, e10, n10, m10, e11, n11, m11, e5, n5, m5, e4, n4, m4, h381, h382, h383, h384⟩ := dF hR hA
  refine r_aload_n C dX10_told_0 rfl ?_
  refine r_iload_n C dX10_told_1 rfl ?_
  refine r_cvi (c := 1) C dX10_told_2 mv_X10_104 (c_X10_isLine e l _ _ hb (by omega)) (by decide) rfl rfl rfl rfl (by decide) rfl rfl (Nat.le_of_ble_eq_true rfl) (fun z2 σ2 h2 => ?_)
  obtain ⟨rfl, rfl⟩ := h2
  refine r_ifb_ne 15 C dX10_told_5 (by decide) (fun h5 => ?_) (fun h5 => ?_)
  · have lf := ln_f hR hA (x := x) (by omega)
    refine r_iload_n C dX10_told_15 rfl ?_
    rcases (by omega : k = 0 ∨ k = 1 ∨ k = 2 ∨ (k < 0 ∨ 2 < k)) with h16 | h16 | h16 | h16
    · refine r_v h16 ?_
      refine r_tabIn 44 C dX10_told_16 (by decide) (by decide) (by decide) rfl (by decide) ?_
      refine r_aload_n C dX10_told_44 rfl ?_
      refine r_get_r (c := 1) C dX10_told_45 fl_X10_11 rfl rfl rfl (by decide) rfl ?_
      refine r_iload_n C dX10_told_48 rfl ?_
      refine r_aald (c := 1) (N := 12) C dX10_told_49 rfl (by decide) rfl (by decide) (by omega) rfl ?_
      refine r_get_i (c := 12) 1 C dX10_told_50 fl_X10_151 rfl rfl rfl rfl (by omega) ?_
      have b50 := hb 81 x 1 (by omega) (by omega)
      refine r_iret C dX10_told_53 ?_
      have e1 : oTold x k A = ((lnAt A x).1, A) := by unfold oTold; repeat (first | rw [if_pos (by omega)] | rw [if_neg (by omega)])
      exact ⟨_, rfl, by rw [e1] <;> (try (show _ = _; omega)), by rw [e1]; exact hR⟩
    · refine r_v h16 ?_
      refine r_tabIn 54 C dX10_told_16 (by decide) (by decide) (by decide) rfl (by decide) ?_
      refine r_aload_n C dX10_told_54 rfl ?_
      refine r_get_r (c := 1) C dX10_told_55 fl_X10_11 rfl rfl rfl (by decide) rfl ?_
      refine r_iload_n C dX10_told_58 rfl ?_
      refine r_aald (c := 1) (N := 12) C dX10_told_59 rfl (by decide) rfl (by decide) (by omega) rfl ?_
      refine r_get_i (c := 12) 2 C dX10_told_60 fl_X10_108 rfl rfl rfl rfl (by omega) ?_
      have b60 := hb 81 x 2 (by omega) (by omega)
      refine r_iret C dX10_told_63 ?_
      have e1 : oTold x k A = (((lnAt A x).2.length : Int), A) := by unfold oTold; repeat (first | rw [if_pos (by omega)] | rw [if_neg (by omega)])
      exact ⟨_, rfl, by rw [e1] <;> (try (show _ = _; omega)), by rw [e1]; exact hR⟩
    · refine r_v h16 ?_
      refine r_tabIn 64 C dX10_told_16 (by decide) (by decide) (by decide) rfl (by decide) ?_
      refine r_aload_n C dX10_told_64 rfl ?_
      refine r_iload_n C dX10_told_65 rfl ?_
      refine r_cvi (c := 1) C dX10_told_66 mv_X10_154 (c_X10_countWordings e l _ _ hb (by omega) (by omega)) (by decide) rfl rfl rfl rfl (by decide) rfl rfl (Nat.le_of_ble_eq_true rfl) (fun z66 σ66 h66 => ?_)
      obtain ⟨rfl, rfl⟩ := h66
      refine r_iret C dX10_told_69 ?_
      have e1 : oTold x k A = (cntE (fun i => (wdAt A i).1) x (cW A.1).length, A) := by unfold oTold; repeat (first | rw [if_pos (by omega)] | rw [if_neg (by omega)])
      exact ⟨_, rfl, by rw [e1, show (σ 0 0 11).toNat = (cW A.1).length by have : σ 0 0 11 = ((cW A.1).length : Int) := e11; omega]; exact cntE_cg _ (fun i hi => (wd_f hR hA (x := i) ⟨by omega, by show (i : Int) < ((cW A.1).length : Int); omega⟩).1), by rw [e1]; exact hR⟩
    · refine r_tabOut 70 C dX10_told_16 (by decide) (by omega) h16 ?_
      refine r_aload_n C dX10_told_70 rfl ?_
      refine r_ldc C dX10_told_71 kc_X10_90 ?_
      refine r_cvi (c := 1) C dX10_told_73 mv_X10_91 (c_X10_finding e l _ _) (by decide) rfl rfl rfl rfl (by decide) rfl rfl (Nat.le_of_ble_eq_true rfl) (fun z73 σ73 h73 => ?_)
      obtain ⟨rfl, rfl⟩ := h73
      refine r_iret C dX10_told_76 ?_
      have e1 : oTold x k A = fnd A (-100001) := by unfold oTold; repeat (first | rw [if_pos (by omega)] | rw [if_neg (by omega)])
      exact ⟨_, rfl, by rw [e1]; rfl, by rw [e1]; exact rel_fnd hR _⟩
  · refine r_aload_n C dX10_told_8 rfl ?_
    refine r_ldc C dX10_told_9 kc_X10_90 ?_
    refine r_cvi (c := 1) C dX10_told_11 mv_X10_91 (c_X10_finding e l _ _) (by decide) rfl rfl rfl rfl (by decide) rfl rfl (Nat.le_of_ble_eq_true rfl) (fun z11 σ11 h11 => ?_)
    obtain ⟨rfl, rfl⟩ := h11
    refine r_iret C dX10_told_14 ?_
    have e1 : oTold x k A = fnd A (-100001) := by unfold oTold; repeat (first | rw [if_pos (by omega)] | rw [if_neg (by omega)])
    exact ⟨_, rfl, by rw [e1]; rfl, by rw [e1]; exact rel_fnd hR _⟩
set_option maxRecDepth 20000 in
theorem o_shape (e : qR) (l : Launch) (σ : qSt) (x i : Int) (A : aSt) (hR : RelD σ A) (hA : AOk A) (h_x : InI x) (h_i : InI i)  : CM (ED e) l yX10_shape cX10_shape 3 (some .int) 20 [qr 0 0, qi x, qi i] σ (Ri fun z σ' => z = (oShape x i A).1 ∧ RelD σ' (oShape x i A).2) := by
  refine CM.mk tD_ok (by decide +kernel) (Nat.le_of_ble_eq_true rfl) (fun G C => ?_)
  show G σ 0 [some (qr 0 0), some (qi x), some (qi i)] []
  obtain ⟨hb, e10, n10, m10, e11, n11, m11, e5, n5, m5, e4, n4, m4, h381, h382, h383, h384⟩ := dF hR hA
  refine r_aload_n C dX10_shape_0 rfl ?_
  refine r_iload_n C dX10_shape_1 rfl ?_
  refine r_cvi (c := 1) C dX10_shape_2 mv_X10_104 (c_X10_isLine e l _ _ hb (by omega)) (by decide) rfl rfl rfl rfl (by decide) rfl rfl (Nat.le_of_ble_eq_true rfl) (fun z2 σ2 h2 => ?_)
  obtain ⟨rfl, rfl⟩ := h2
  refine r_ifb_eq 24 C dX10_shape_5 (by decide) (fun h5 => ?_) (fun h5 => ?_)
  · refine r_aload_n C dX10_shape_24 rfl ?_
    refine r_ldc C dX10_shape_25 kc_X10_90 ?_
    refine r_cvi (c := 1) C dX10_shape_27 mv_X10_91 (c_X10_finding e l _ _) (by decide) rfl rfl rfl rfl (by decide) rfl rfl (Nat.le_of_ble_eq_true rfl) (fun z27 σ27 h27 => ?_)
    obtain ⟨rfl, rfl⟩ := h27
    refine r_iret C dX10_shape_30 ?_
    have e1 : oShape x i A = fnd A (-100001) := by unfold oShape; repeat (first | rw [if_pos (by omega)] | rw [if_neg (by omega)])
    exact ⟨_, rfl, by rw [e1]; rfl, by rw [e1]; exact rel_fnd hR _⟩
  · have lf := ln_f hR hA (x := x) (by omega)
    refine r_iload_n C dX10_shape_8 rfl ?_
    refine r_aload_n C dX10_shape_9 rfl ?_
    refine r_get_r (c := 1) C dX10_shape_10 fl_X10_11 rfl rfl rfl (by decide) rfl ?_
    refine r_iload_n C dX10_shape_13 rfl ?_
    refine r_aald (c := 1) (N := 12) C dX10_shape_14 rfl (by decide) rfl (by decide) (by omega) rfl ?_
    refine r_get_i (c := 12) 2 C dX10_shape_15 fl_X10_108 rfl rfl rfl rfl (by omega) ?_
    have b15 := hb 81 x 2 (by omega) (by omega)
    refine r_csi C dX10_shape_18 ms_X10_86 (c_X10_within e l _ _ _ (by omega) (by omega)) (by decide) rfl rfl (Nat.le_of_ble_eq_true rfl) (fun z18 σ18 h18 => ?_)
    obtain ⟨rfl, rfl⟩ := h18
    refine r_ifb_ne 31 C dX10_shape_21 (by decide) (fun h21 => ?_) (fun h21 => ?_)
    · refine r_aload_n C dX10_shape_31 rfl ?_
      refine r_get_r (c := 1) C dX10_shape_32 fl_X10_11 rfl rfl rfl (by decide) rfl ?_
      refine r_iload_n C dX10_shape_35 rfl ?_
      refine r_aald (c := 1) (N := 12) C dX10_shape_36 rfl (by decide) rfl (by decide) (by omega) rfl ?_
      refine r_get_r (c := 12) C dX10_shape_37 fl_X10_111 rfl rfl rfl (by omega) rfl ?_
      refine r_iload_n C dX10_shape_40 rfl ?_
      refine r_iald (c := 12) (N := 24) C dX10_shape_41 rfl rfl (by omega) (by omega) ?_
      have b41 := hb 82 x i (by omega) (by omega)
      refine r_iret C dX10_shape_42 ?_
      have e1 : oShape x i A = (frAt (lnAt A x) i, A) := by unfold oShape; repeat (first | rw [if_pos (by omega)] | rw [if_neg (by omega)])
      have lq := lf.2.2.2.2.2 i (by omega) (by omega)
      exact ⟨_, rfl, by rw [e1] <;> (try (show _ = _; omega)), by rw [e1]; exact hR⟩
    · refine r_aload_n C dX10_shape_24 rfl ?_
      refine r_ldc C dX10_shape_25 kc_X10_90 ?_
      refine r_cvi (c := 1) C dX10_shape_27 mv_X10_91 (c_X10_finding e l _ _) (by decide) rfl rfl rfl rfl (by decide) rfl rfl (Nat.le_of_ble_eq_true rfl) (fun z27 σ27 h27 => ?_)
      obtain ⟨rfl, rfl⟩ := h27
      refine r_iret C dX10_shape_30 ?_
      have e1 : oShape x i A = fnd A (-100001) := by unfold oShape; repeat (first | rw [if_pos (by omega)] | rw [if_neg (by omega)])
      exact ⟨_, rfl, by rw [e1]; rfl, by rw [e1]; exact rel_fnd hR _⟩
set_option maxRecDepth 20000 in
theorem o_name (e : qR) (l : Launch) (σ : qSt) (x n : Int) (A : aSt) (hR : RelD σ A) (hA : AOk A) (h_x : InI x) (h_n : InI n)  : CM (ED e) l yX10_name cX10_name 4 (some .int) 20 [qr 0 0, qi x, qi n] σ (Ri fun z σ' => z = (oName x n A).1 ∧ RelD σ' (oName x n A).2) := by
  refine CM.mk tD_ok (by decide +kernel) (Nat.le_of_ble_eq_true rfl) (fun G C => ?_)
  show G σ 0 [some (qr 0 0), some (qi x), some (qi n), none] []
  obtain ⟨hb, e10, n10, m10, e11, n11, m11, e5, n5, m5, e4, n4, m4, h381, h382, h383, h384⟩ := dF hR hA
  refine r_iload_n C dX10_name_0 rfl ?_
  refine r_bipush C dX10_name_1 ?_
  refine r_csi C dX10_name_3 ms_X10_86 (c_X10_within e l _ _ _ (by omega) (by omega)) (by decide) rfl rfl (Nat.le_of_ble_eq_true rfl) (fun z3 σ3 h3 => ?_)
  obtain ⟨rfl, rfl⟩ := h3
  refine r_ifb_eq 18 C dX10_name_6 (by decide) (fun h6 => ?_) (fun h6 => ?_)
  · refine r_aload_n C dX10_name_18 rfl ?_
    refine r_ldc C dX10_name_19 kc_X10_90 ?_
    refine r_cvi (c := 1) C dX10_name_21 mv_X10_91 (c_X10_finding e l _ _) (by decide) rfl rfl rfl rfl (by decide) rfl rfl (Nat.le_of_ble_eq_true rfl) (fun z21 σ21 h21 => ?_)
    obtain ⟨rfl, rfl⟩ := h21
    refine r_iret C dX10_name_24 ?_
    have e1 : oName x n A = fnd A (-100001) := by unfold oName; repeat (first | rw [if_pos (by omega)] | rw [if_neg (by omega)])
    exact ⟨_, rfl, by rw [e1]; rfl, by rw [e1]; exact rel_fnd hR _⟩
  · refine r_iload_n C dX10_name_9 rfl ?_
    refine r_bipush C dX10_name_10 ?_
    refine r_csi C dX10_name_12 ms_X10_172 (c_X10_isNoneOrWithin e l _ _ _ (by omega) (by omega)) (by decide) rfl rfl (Nat.le_of_ble_eq_true rfl) (fun z12 σ12 h12 => ?_)
    obtain ⟨rfl, rfl⟩ := h12
    refine r_ifb_ne 25 C dX10_name_15 (by decide) (fun h15 => ?_) (fun h15 => ?_)
    · have ew : σ 5 0 x = cN A.1 x := hR.2.2.1.2.2.2.1 x (by omega) (by omega)
      refine r_aload_n C dX10_name_25 rfl ?_
      refine r_get_r (c := 1) C dX10_name_26 fl_X10_30 rfl rfl rfl (by decide) rfl ?_
      refine r_get_r (c := 1) C dX10_name_29 fl_X10_175 rfl rfl rfl (by decide) rfl ?_
      refine r_iload_n C dX10_name_32 rfl ?_
      refine r_iald (c := 1) (N := 32) C dX10_name_33 rfl rfl (by decide) (by omega) ?_
      have b33 := hb 5 0 x (by omega) (by omega)
      refine r_istore_n C dX10_name_34 rfl rfl (by decide) ?_
      refine r_aload_n C dX10_name_35 rfl ?_
      refine r_get_r (c := 1) C dX10_name_36 fl_X10_30 rfl rfl rfl (by decide) rfl ?_
      refine r_get_r (c := 1) C dX10_name_39 fl_X10_175 rfl rfl rfl (by decide) rfl ?_
      refine r_iload_n C dX10_name_42 rfl ?_
      refine r_iload_n C dX10_name_43 rfl ?_
      refine r_iast (c := 1) (N := 32) C dX10_name_44 rfl rfl (by decide) (by omega) ?_
      refine r_aload_n C dX10_name_45 rfl ?_
      refine r_iconst C dX10_name_46 ?_
      refine r_iload_n C dX10_name_47 rfl ?_
      refine r_iload_n C dX10_name_48 rfl ?_
      refine r_cvr (c := 1) C dX10_name_49 mv_X10_100 (c_X10_remember e l _ _ _ _ (by simp [qUp]; omega) (by simp [qUp]; omega)) (by decide) rfl rfl rfl rfl (by decide) rfl rfl (Nat.le_of_ble_eq_true rfl) (fun k49 i49 σ49 h49 => ?_)
      obtain ⟨rfl, rfl, rfl⟩ := h49
      refine r_pop C dX10_name_52 ?_
      refine r_iload_n C dX10_name_53 rfl ?_
      refine r_iret C dX10_name_54 ?_
      have e1 : oName x n A = (cN A.1 x, psh A (5, x, cN A.1 x, []) (sN A.1 (updF (cN A.1) x n))) := by unfold oName; repeat (first | rw [if_pos (by omega)] | rw [if_neg (by omega)])
      rw [← ew] at e1
      exact ⟨_, rfl, by rw [e1], by rw [e1]; exact rel_rem hR (fun a b c h => by repeat rw [qUp_ne (by omega)]) (by (repeat (refine Iv1.up ?_ (by omega) (by omega) (by omega) (by omega) (by omega))); exact hR.1.one) (cur_name hR.2.2.1) (by omega) (by omega) (by omega)⟩
    · refine r_aload_n C dX10_name_18 rfl ?_
      refine r_ldc C dX10_name_19 kc_X10_90 ?_
      refine r_cvi (c := 1) C dX10_name_21 mv_X10_91 (c_X10_finding e l _ _) (by decide) rfl rfl rfl rfl (by decide) rfl rfl (Nat.le_of_ble_eq_true rfl) (fun z21 σ21 h21 => ?_)
      obtain ⟨rfl, rfl⟩ := h21
      refine r_iret C dX10_name_24 ?_
      have e1 : oName x n A = fnd A (-100001) := by unfold oName; repeat (first | rw [if_pos (by omega)] | rw [if_neg (by omega)])
      exact ⟨_, rfl, by rw [e1]; rfl, by rw [e1]; exact rel_fnd hR _⟩
set_option maxRecDepth 20000 in
theorem o_actor (e : qR) (l : Launch) (σ : qSt) (x n : Int) (A : aSt) (hR : RelD σ A) (hA : AOk A) (h_x : InI x) (h_n : InI n)  : CM (ED e) l yX10_actor cX10_actor 4 (some .int) 20 [qr 0 0, qi x, qi n] σ (Ri fun z σ' => z = (oActor x n A).1 ∧ RelD σ' (oActor x n A).2) := by
  refine CM.mk tD_ok (by decide +kernel) (Nat.le_of_ble_eq_true rfl) (fun G C => ?_)
  show G σ 0 [some (qr 0 0), some (qi x), some (qi n), none] []
  obtain ⟨hb, e10, n10, m10, e11, n11, m11, e5, n5, m5, e4, n4, m4, h381, h382, h383, h384⟩ := dF hR hA
  refine r_iload_n C dX10_actor_0 rfl ?_
  refine r_bipush C dX10_actor_1 ?_
  refine r_csi C dX10_actor_3 ms_X10_86 (c_X10_within e l _ _ _ (by omega) (by omega)) (by decide) rfl rfl (Nat.le_of_ble_eq_true rfl) (fun z3 σ3 h3 => ?_)
  obtain ⟨rfl, rfl⟩ := h3
  refine r_ifb_eq 18 C dX10_actor_6 (by decide) (fun h6 => ?_) (fun h6 => ?_)
  · refine r_aload_n C dX10_actor_18 rfl ?_
    refine r_ldc C dX10_actor_19 kc_X10_90 ?_
    refine r_cvi (c := 1) C dX10_actor_21 mv_X10_91 (c_X10_finding e l _ _) (by decide) rfl rfl rfl rfl (by decide) rfl rfl (Nat.le_of_ble_eq_true rfl) (fun z21 σ21 h21 => ?_)
    obtain ⟨rfl, rfl⟩ := h21
    refine r_iret C dX10_actor_24 ?_
    have e1 : oActor x n A = fnd A (-100001) := by unfold oActor; repeat (first | rw [if_pos (by omega)] | rw [if_neg (by omega)])
    exact ⟨_, rfl, by rw [e1]; rfl, by rw [e1]; exact rel_fnd hR _⟩
  · refine r_iload_n C dX10_actor_9 rfl ?_
    refine r_bipush C dX10_actor_10 ?_
    refine r_csi C dX10_actor_12 ms_X10_172 (c_X10_isNoneOrWithin e l _ _ _ (by omega) (by omega)) (by decide) rfl rfl (Nat.le_of_ble_eq_true rfl) (fun z12 σ12 h12 => ?_)
    obtain ⟨rfl, rfl⟩ := h12
    refine r_ifb_ne 25 C dX10_actor_15 (by decide) (fun h15 => ?_) (fun h15 => ?_)
    · have ew : σ 11 0 x = cA A.1 x := hR.2.2.1.2.2.2.2.1 x (by omega) (by omega)
      refine r_aload_n C dX10_actor_25 rfl ?_
      refine r_get_r (c := 1) C dX10_actor_26 fl_X10_37 rfl rfl rfl (by decide) rfl ?_
      refine r_get_r (c := 1) C dX10_actor_29 fl_X10_200 rfl rfl rfl (by decide) rfl ?_
      refine r_iload_n C dX10_actor_32 rfl ?_
      refine r_iald (c := 1) (N := 6) C dX10_actor_33 rfl rfl (by decide) (by omega) ?_
      have b33 := hb 11 0 x (by omega) (by omega)
      refine r_istore_n C dX10_actor_34 rfl rfl (by decide) ?_
      refine r_aload_n C dX10_actor_35 rfl ?_
      refine r_get_r (c := 1) C dX10_actor_36 fl_X10_37 rfl rfl rfl (by decide) rfl ?_
      refine r_get_r (c := 1) C dX10_actor_39 fl_X10_200 rfl rfl rfl (by decide) rfl ?_
      refine r_iload_n C dX10_actor_42 rfl ?_
      refine r_iload_n C dX10_actor_43 rfl ?_
      refine r_iast (c := 1) (N := 6) C dX10_actor_44 rfl rfl (by decide) (by omega) ?_
      refine r_aload_n C dX10_actor_45 rfl ?_
      refine r_bipush C dX10_actor_46 ?_
      refine r_iload_n C dX10_actor_48 rfl ?_
      refine r_iload_n C dX10_actor_49 rfl ?_
      refine r_cvr (c := 1) C dX10_actor_50 mv_X10_100 (c_X10_remember e l _ _ _ _ (by simp [qUp]; omega) (by simp [qUp]; omega)) (by decide) rfl rfl rfl rfl (by decide) rfl rfl (Nat.le_of_ble_eq_true rfl) (fun k50 i50 σ50 h50 => ?_)
      obtain ⟨rfl, rfl, rfl⟩ := h50
      refine r_pop C dX10_actor_53 ?_
      refine r_iload_n C dX10_actor_54 rfl ?_
      refine r_iret C dX10_actor_55 ?_
      have e1 : oActor x n A = (cA A.1 x, psh A (7, x, cA A.1 x, []) (sA A.1 (updF (cA A.1) x n))) := by unfold oActor; repeat (first | rw [if_pos (by omega)] | rw [if_neg (by omega)])
      rw [← ew] at e1
      exact ⟨_, rfl, by rw [e1], by rw [e1]; exact rel_rem hR (fun a b c h => by repeat rw [qUp_ne (by omega)]) (by (repeat (refine Iv1.up ?_ (by omega) (by omega) (by omega) (by omega) (by omega))); exact hR.1.one) (cur_actor hR.2.2.1) (by omega) (by omega) (by omega)⟩
    · refine r_aload_n C dX10_actor_18 rfl ?_
      refine r_ldc C dX10_actor_19 kc_X10_90 ?_
      refine r_cvi (c := 1) C dX10_actor_21 mv_X10_91 (c_X10_finding e l _ _) (by decide) rfl rfl rfl rfl (by decide) rfl rfl (Nat.le_of_ble_eq_true rfl) (fun z21 σ21 h21 => ?_)
      obtain ⟨rfl, rfl⟩ := h21
      refine r_iret C dX10_actor_24 ?_
      have e1 : oActor x n A = fnd A (-100001) := by unfold oActor; repeat (first | rw [if_pos (by omega)] | rw [if_neg (by omega)])
      exact ⟨_, rfl, by rw [e1]; rfl, by rw [e1]; exact rel_fnd hR _⟩
set_option maxRecDepth 20000 in
theorem o_free (e : qR) (l : Launch) (σ : qSt) (x n : Int) (A : aSt) (hR : RelD σ A) (hA : AOk A) (h_x : InI x) (h_n : InI n)  : CM (ED e) l yX10_free cX10_free 4 (some .int) 20 [qr 0 0, qi x, qi n] σ (Ri fun z σ' => z = (oFree x n A).1 ∧ RelD σ' (oFree x n A).2) := by
  refine CM.mk tD_ok (by decide +kernel) (Nat.le_of_ble_eq_true rfl) (fun G C => ?_)
  show G σ 0 [some (qr 0 0), some (qi x), some (qi n), none] []
  obtain ⟨hb, e10, n10, m10, e11, n11, m11, e5, n5, m5, e4, n4, m4, h381, h382, h383, h384⟩ := dF hR hA
  refine r_iload_n C dX10_free_0 rfl ?_
  refine r_bipush C dX10_free_1 ?_
  refine r_csi C dX10_free_3 ms_X10_86 (c_X10_within e l _ _ _ (by omega) (by omega)) (by decide) rfl rfl (Nat.le_of_ble_eq_true rfl) (fun z3 σ3 h3 => ?_)
  obtain ⟨rfl, rfl⟩ := h3
  refine r_ifb_eq 18 C dX10_free_6 (by decide) (fun h6 => ?_) (fun h6 => ?_)
  · refine r_aload_n C dX10_free_18 rfl ?_
    refine r_ldc C dX10_free_19 kc_X10_90 ?_
    refine r_cvi (c := 1) C dX10_free_21 mv_X10_91 (c_X10_finding e l _ _) (by decide) rfl rfl rfl rfl (by decide) rfl rfl (Nat.le_of_ble_eq_true rfl) (fun z21 σ21 h21 => ?_)
    obtain ⟨rfl, rfl⟩ := h21
    refine r_iret C dX10_free_24 ?_
    have e1 : oFree x n A = fnd A (-100001) := by unfold oFree; repeat (first | rw [if_pos (by omega)] | rw [if_neg (by omega)])
    exact ⟨_, rfl, by rw [e1]; rfl, by rw [e1]; exact rel_fnd hR _⟩
  · refine r_iload_n C dX10_free_9 rfl ?_
    refine r_bipush C dX10_free_10 ?_
    refine r_csi C dX10_free_12 ms_X10_86 (c_X10_within e l _ _ _ (by omega) (by omega)) (by decide) rfl rfl (Nat.le_of_ble_eq_true rfl) (fun z12 σ12 h12 => ?_)
    obtain ⟨rfl, rfl⟩ := h12
    refine r_ifb_ne 25 C dX10_free_15 (by decide) (fun h15 => ?_) (fun h15 => ?_)
    · have ew : σ 12 0 x = cF A.1 x := hR.2.2.1.2.2.2.2.2.1 x (by omega) (by omega)
      refine r_aload_n C dX10_free_25 rfl ?_
      refine r_get_r (c := 1) C dX10_free_26 fl_X10_37 rfl rfl rfl (by decide) rfl ?_
      refine r_get_r (c := 1) C dX10_free_29 fl_X10_203 rfl rfl rfl (by decide) rfl ?_
      refine r_iload_n C dX10_free_32 rfl ?_
      refine r_iald (c := 1) (N := 8) C dX10_free_33 rfl rfl (by decide) (by omega) ?_
      have b33 := hb 12 0 x (by omega) (by omega)
      refine r_istore_n C dX10_free_34 rfl rfl (by decide) ?_
      refine r_aload_n C dX10_free_35 rfl ?_
      refine r_get_r (c := 1) C dX10_free_36 fl_X10_37 rfl rfl rfl (by decide) rfl ?_
      refine r_get_r (c := 1) C dX10_free_39 fl_X10_203 rfl rfl rfl (by decide) rfl ?_
      refine r_iload_n C dX10_free_42 rfl ?_
      refine r_iload_n C dX10_free_43 rfl ?_
      refine r_iast (c := 1) (N := 8) C dX10_free_44 rfl rfl (by decide) (by omega) ?_
      refine r_aload_n C dX10_free_45 rfl ?_
      refine r_bipush C dX10_free_46 ?_
      refine r_iload_n C dX10_free_48 rfl ?_
      refine r_iload_n C dX10_free_49 rfl ?_
      refine r_cvr (c := 1) C dX10_free_50 mv_X10_100 (c_X10_remember e l _ _ _ _ (by simp [qUp]; omega) (by simp [qUp]; omega)) (by decide) rfl rfl rfl rfl (by decide) rfl rfl (Nat.le_of_ble_eq_true rfl) (fun k50 i50 σ50 h50 => ?_)
      obtain ⟨rfl, rfl, rfl⟩ := h50
      refine r_pop C dX10_free_53 ?_
      refine r_iload_n C dX10_free_54 rfl ?_
      refine r_iret C dX10_free_55 ?_
      have e1 : oFree x n A = (cF A.1 x, psh A (8, x, cF A.1 x, []) (sF A.1 (updF (cF A.1) x n))) := by unfold oFree; repeat (first | rw [if_pos (by omega)] | rw [if_neg (by omega)])
      rw [← ew] at e1
      exact ⟨_, rfl, by rw [e1], by rw [e1]; exact rel_rem hR (fun a b c h => by repeat rw [qUp_ne (by omega)]) (by (repeat (refine Iv1.up ?_ (by omega) (by omega) (by omega) (by omega) (by omega))); exact hR.1.one) (cur_free hR.2.2.1) (by omega) (by omega) (by omega)⟩
    · refine r_aload_n C dX10_free_18 rfl ?_
      refine r_ldc C dX10_free_19 kc_X10_90 ?_
      refine r_cvi (c := 1) C dX10_free_21 mv_X10_91 (c_X10_finding e l _ _) (by decide) rfl rfl rfl rfl (by decide) rfl rfl (Nat.le_of_ble_eq_true rfl) (fun z21 σ21 h21 => ?_)
      obtain ⟨rfl, rfl⟩ := h21
      refine r_iret C dX10_free_24 ?_
      have e1 : oFree x n A = fnd A (-100001) := by unfold oFree; repeat (first | rw [if_pos (by omega)] | rw [if_neg (by omega)])
      exact ⟨_, rfl, by rw [e1]; rfl, by rw [e1]; exact rel_fnd hR _⟩
set_option maxRecDepth 20000 in
theorem o_room (e : qR) (l : Launch) (σ : qSt) (x n : Int) (A : aSt) (hR : RelD σ A) (hA : AOk A) (h_x : InI x) (h_n : InI n)  : CM (ED e) l yX10_room cX10_room 4 (some .int) 20 [qr 0 0, qi x, qi n] σ (Ri fun z σ' => z = (oRoom x n A).1 ∧ RelD σ' (oRoom x n A).2) := by
  refine CM.mk tD_ok (by decide +kernel) (Nat.le_of_ble_eq_true rfl) (fun G C => ?_)
  show G σ 0 [some (qr 0 0), some (qi x), some (qi n), none] []
  obtain ⟨hb, e10, n10, m10, e11, n11, m11, e5, n5, m5, e4, n4, m4, h381, h382, h383, h384⟩ := dF hR hA
  refine r_iload_n C dX10_room_0 rfl ?_
  refine r_iconst C dX10_room_1 ?_
  refine r_csi C dX10_room_2 ms_X10_86 (c_X10_within e l _ _ _ (by omega) (by omega)) (by decide) rfl rfl (Nat.le_of_ble_eq_true rfl) (fun z2 σ2 h2 => ?_)
  obtain ⟨rfl, rfl⟩ := h2
  refine r_ifb_eq 17 C dX10_room_5 (by decide) (fun h5 => ?_) (fun h5 => ?_)
  · refine r_aload_n C dX10_room_17 rfl ?_
    refine r_ldc C dX10_room_18 kc_X10_90 ?_
    refine r_cvi (c := 1) C dX10_room_20 mv_X10_91 (c_X10_finding e l _ _) (by decide) rfl rfl rfl rfl (by decide) rfl rfl (Nat.le_of_ble_eq_true rfl) (fun z20 σ20 h20 => ?_)
    obtain ⟨rfl, rfl⟩ := h20
    refine r_iret C dX10_room_23 ?_
    have e1 : oRoom x n A = fnd A (-100001) := by unfold oRoom; repeat (first | rw [if_pos (by omega)] | rw [if_neg (by omega)])
    exact ⟨_, rfl, by rw [e1]; rfl, by rw [e1]; exact rel_fnd hR _⟩
  · refine r_iload_n C dX10_room_8 rfl ?_
    refine r_bipush C dX10_room_9 ?_
    refine r_csi C dX10_room_11 ms_X10_86 (c_X10_within e l _ _ _ (by omega) (by omega)) (by decide) rfl rfl (Nat.le_of_ble_eq_true rfl) (fun z11 σ11 h11 => ?_)
    obtain ⟨rfl, rfl⟩ := h11
    refine r_ifb_ne 24 C dX10_room_14 (by decide) (fun h14 => ?_) (fun h14 => ?_)
    · have ew : σ 13 0 x = cR A.1 x := hR.2.2.1.2.2.2.2.2.2.1 x (by omega) (by omega)
      refine r_aload_n C dX10_room_24 rfl ?_
      refine r_get_r (c := 1) C dX10_room_25 fl_X10_37 rfl rfl rfl (by decide) rfl ?_
      refine r_get_r (c := 1) C dX10_room_28 fl_X10_206 rfl rfl rfl (by decide) rfl ?_
      refine r_iload_n C dX10_room_31 rfl ?_
      refine r_iald (c := 1) (N := 4) C dX10_room_32 rfl rfl (by decide) (by omega) ?_
      have b32 := hb 13 0 x (by omega) (by omega)
      refine r_istore_n C dX10_room_33 rfl rfl (by decide) ?_
      refine r_aload_n C dX10_room_34 rfl ?_
      refine r_get_r (c := 1) C dX10_room_35 fl_X10_37 rfl rfl rfl (by decide) rfl ?_
      refine r_get_r (c := 1) C dX10_room_38 fl_X10_206 rfl rfl rfl (by decide) rfl ?_
      refine r_iload_n C dX10_room_41 rfl ?_
      refine r_iload_n C dX10_room_42 rfl ?_
      refine r_iast (c := 1) (N := 4) C dX10_room_43 rfl rfl (by decide) (by omega) ?_
      refine r_aload_n C dX10_room_44 rfl ?_
      refine r_bipush C dX10_room_45 ?_
      refine r_iload_n C dX10_room_47 rfl ?_
      refine r_iload_n C dX10_room_48 rfl ?_
      refine r_cvr (c := 1) C dX10_room_49 mv_X10_100 (c_X10_remember e l _ _ _ _ (by simp [qUp]; omega) (by simp [qUp]; omega)) (by decide) rfl rfl rfl rfl (by decide) rfl rfl (Nat.le_of_ble_eq_true rfl) (fun k49 i49 σ49 h49 => ?_)
      obtain ⟨rfl, rfl, rfl⟩ := h49
      refine r_pop C dX10_room_52 ?_
      refine r_iload_n C dX10_room_53 rfl ?_
      refine r_iret C dX10_room_54 ?_
      have e1 : oRoom x n A = (cR A.1 x, psh A (9, x, cR A.1 x, []) (sR A.1 (updF (cR A.1) x n))) := by unfold oRoom; repeat (first | rw [if_pos (by omega)] | rw [if_neg (by omega)])
      rw [← ew] at e1
      exact ⟨_, rfl, by rw [e1], by rw [e1]; exact rel_rem hR (fun a b c h => by repeat rw [qUp_ne (by omega)]) (by (repeat (refine Iv1.up ?_ (by omega) (by omega) (by omega) (by omega) (by omega))); exact hR.1.one) (cur_room hR.2.2.1) (by omega) (by omega) (by omega)⟩
    · refine r_aload_n C dX10_room_17 rfl ?_
      refine r_ldc C dX10_room_18 kc_X10_90 ?_
      refine r_cvi (c := 1) C dX10_room_20 mv_X10_91 (c_X10_finding e l _ _) (by decide) rfl rfl rfl rfl (by decide) rfl rfl (Nat.le_of_ble_eq_true rfl) (fun z20 σ20 h20 => ?_)
      obtain ⟨rfl, rfl⟩ := h20
      refine r_iret C dX10_room_23 ?_
      have e1 : oRoom x n A = fnd A (-100001) := by unfold oRoom; repeat (first | rw [if_pos (by omega)] | rw [if_neg (by omega)])
      exact ⟨_, rfl, by rw [e1]; rfl, by rw [e1]; exact rel_fnd hR _⟩
set_option maxRecDepth 20000 in
theorem o_text (e : qR) (l : Launch) (σ : qSt) (a b x d : Int) (A : aSt) (hR : RelD σ A) (hA : AOk A) (h_a : InI a) (h_b : InI b) (h_x : InI x) (h_d : InI d)  : CM (ED e) l yX10_text cX10_text 5 (some .int) 20 [qr 0 0, qi a, qi b, qi x, qi d] σ (Ri fun z σ' => z = (oText a b x d A).1 ∧ RelD σ' (oText a b x d A).2) := by
  refine CM.mk tD_ok (by decide +kernel) (Nat.le_of_ble_eq_true rfl) (fun G C => ?_)
  show G σ 0 [some (qr 0 0), some (qi a), some (qi b), some (qi x), some (qi d)] []
  obtain ⟨hb, e10, n10, m10, e11, n11, m11, e5, n5, m5, e4, n4, m4, h381, h382, h383, h384⟩ := dF hR hA
  refine r_iload_n C dX10_text_0 rfl ?_
  refine r_iconst C dX10_text_1 ?_
  refine r_csi C dX10_text_2 ms_X10_86 (c_X10_within e l _ _ _ (by omega) (by omega)) (by decide) rfl rfl (Nat.le_of_ble_eq_true rfl) (fun z2 σ2 h2 => ?_)
  obtain ⟨rfl, rfl⟩ := h2
  refine r_ifb_eq 36 C dX10_text_5 (by decide) (fun h5 => ?_) (fun h5 => ?_)
  · refine r_aload_n C dX10_text_36 rfl ?_
    refine r_ldc C dX10_text_37 kc_X10_90 ?_
    refine r_cvi (c := 1) C dX10_text_39 mv_X10_91 (c_X10_finding e l _ _) (by decide) rfl rfl rfl rfl (by decide) rfl rfl (Nat.le_of_ble_eq_true rfl) (fun z39 σ39 h39 => ?_)
    obtain ⟨rfl, rfl⟩ := h39
    refine r_iret C dX10_text_42 ?_
    have e1 : oText a b x d A = fnd A (-100001) := by unfold oText; repeat (first | rw [if_pos (by omega)] | rw [if_neg (by omega)])
    exact ⟨_, rfl, by rw [e1]; rfl, by rw [e1]; exact rel_fnd hR _⟩
  · refine r_iload_n C dX10_text_8 rfl ?_
    refine r_iconst C dX10_text_9 ?_
    refine r_csi C dX10_text_10 ms_X10_86 (c_X10_within e l _ _ _ (by omega) (by omega)) (by decide) rfl rfl (Nat.le_of_ble_eq_true rfl) (fun z10 σ10 h10 => ?_)
    obtain ⟨rfl, rfl⟩ := h10
    refine r_ifb_eq 36 C dX10_text_13 (by decide) (fun h13 => ?_) (fun h13 => ?_)
    · refine r_aload_n C dX10_text_36 rfl ?_
      refine r_ldc C dX10_text_37 kc_X10_90 ?_
      refine r_cvi (c := 1) C dX10_text_39 mv_X10_91 (c_X10_finding e l _ _) (by decide) rfl rfl rfl rfl (by decide) rfl rfl (Nat.le_of_ble_eq_true rfl) (fun z39 σ39 h39 => ?_)
      obtain ⟨rfl, rfl⟩ := h39
      refine r_iret C dX10_text_42 ?_
      have e1 : oText a b x d A = fnd A (-100001) := by unfold oText; repeat (first | rw [if_pos (by omega)] | rw [if_neg (by omega)])
      exact ⟨_, rfl, by rw [e1]; rfl, by rw [e1]; exact rel_fnd hR _⟩
    · refine r_iload_n C dX10_text_16 rfl ?_
      refine r_bipush C dX10_text_17 ?_
      refine r_csi C dX10_text_19 ms_X10_86 (c_X10_within e l _ _ _ (by omega) (by omega)) (by decide) rfl rfl (Nat.le_of_ble_eq_true rfl) (fun z19 σ19 h19 => ?_)
      obtain ⟨rfl, rfl⟩ := h19
      refine r_ifb_eq 36 C dX10_text_22 (by decide) (fun h22 => ?_) (fun h22 => ?_)
      · refine r_aload_n C dX10_text_36 rfl ?_
        refine r_ldc C dX10_text_37 kc_X10_90 ?_
        refine r_cvi (c := 1) C dX10_text_39 mv_X10_91 (c_X10_finding e l _ _) (by decide) rfl rfl rfl rfl (by decide) rfl rfl (Nat.le_of_ble_eq_true rfl) (fun z39 σ39 h39 => ?_)
        obtain ⟨rfl, rfl⟩ := h39
        refine r_iret C dX10_text_42 ?_
        have e1 : oText a b x d A = fnd A (-100001) := by unfold oText; repeat (first | rw [if_pos (by omega)] | rw [if_neg (by omega)])
        exact ⟨_, rfl, by rw [e1]; rfl, by rw [e1]; exact rel_fnd hR _⟩
      · refine r_iload C dX10_text_25 rfl ?_
        refine r_sipush C dX10_text_27 ?_
        refine r_csi C dX10_text_30 ms_X10_86 (c_X10_within e l _ _ _ (by omega) (by omega)) (by decide) rfl rfl (Nat.le_of_ble_eq_true rfl) (fun z30 σ30 h30 => ?_)
        obtain ⟨rfl, rfl⟩ := h30
        refine r_ifb_ne 43 C dX10_text_33 (by decide) (fun h33 => ?_) (fun h33 => ?_)
        · refine r_aload_n C dX10_text_43 rfl ?_
          refine r_get_r (c := 1) C dX10_text_44 fl_X10_30 rfl rfl rfl (by decide) rfl ?_
          refine r_get_i (c := 1) 5 C dX10_text_47 fl_X10_178 rfl rfl rfl rfl (by decide) ?_
          have b47 := hb 4 0 5 (by omega) (by omega)
          refine r_bipush C dX10_text_50 ?_
          refine r_ic_lt 62 C dX10_text_52 (by decide) (by omega) (by omega) (fun h52 => ?_) (fun h52 => ?_)
          · refine r_aload_n C dX10_text_62 rfl ?_
            refine r_get_r (c := 1) C dX10_text_63 fl_X10_30 rfl rfl rfl (by decide) rfl ?_
            refine r_iload_n C dX10_text_66 rfl ?_
            refine r_iload_n C dX10_text_67 rfl ?_
            refine r_iload_n C dX10_text_68 rfl ?_
            refine r_iload C dX10_text_69 rfl ?_
            refine r_cvv (c := 1) C dX10_text_71 mv_X10_181 (c_X4_append e l _ _ _ _ _ (by omega)) (by decide) rfl rfl rfl rfl (by decide) rfl rfl (Nat.le_of_ble_eq_true rfl) (fun σ71 h71 => ?_)
            subst h71
            refine r_aload_n C dX10_text_74 rfl ?_
            refine r_bipush C dX10_text_75 ?_
            refine r_iconst C dX10_text_77 ?_
            refine r_iconst C dX10_text_78 ?_
            refine r_cvr (c := 1) C dX10_text_79 mv_X10_100 (c_X10_remember e l _ _ _ _ (by simp [qUp]; omega) (by simp [qUp]; omega)) (by decide) rfl rfl rfl rfl (by decide) rfl rfl (Nat.le_of_ble_eq_true rfl) (fun k79 i79 σ79 h79 => ?_)
            obtain ⟨rfl, rfl, rfl⟩ := h79
            refine r_pop C dX10_text_82 ?_
            refine r_aload_n C dX10_text_83 rfl ?_
            refine r_get_r (c := 1) C dX10_text_84 fl_X10_30 rfl rfl rfl (by decide) rfl ?_
            refine r_get_i (c := 1) 5 C dX10_text_87 fl_X10_178 rfl rfl rfl rfl (by decide) ?_
            refine r_v (b := (σ 4 0 5 + 1)) (by simp [pRem, pApp, qUp, qCpy]) ?_
            refine r_iret C dX10_text_90 ?_
            have e1 : oText a b x d A = (nTx A + 1, psh A (6, 0, 0, []) (sT A.1 (cT A.1 ++ [(a, b, x, d)]))) := by unfold oText; repeat (first | rw [if_pos (by omega)] | rw [if_neg (by omega)])
            exact ⟨_, rfl, by rw [e1]; show _ = _; omega, by rw [e1]; exact rel_rem hR (fun a b c h => by repeat rw [qUp_ne (by omega)]) (by (repeat (refine Iv1.up ?_ (by omega) (by omega) (by omega) (by omega) (by omega))); exact hR.1.one) (cur_text hR.2.2.1 rfl rfl) (by omega) (by omega) (by omega)⟩
          · refine r_aload_n C dX10_text_55 rfl ?_
            refine r_ldc C dX10_text_56 kc_X10_95 ?_
            refine r_cvi (c := 1) C dX10_text_58 mv_X10_91 (c_X10_finding e l _ _) (by decide) rfl rfl rfl rfl (by decide) rfl rfl (Nat.le_of_ble_eq_true rfl) (fun z58 σ58 h58 => ?_)
            obtain ⟨rfl, rfl⟩ := h58
            refine r_iret C dX10_text_61 ?_
            have e1 : oText a b x d A = fnd A (-100005) := by unfold oText; repeat (first | rw [if_pos (by omega)] | rw [if_neg (by omega)])
            exact ⟨_, rfl, by rw [e1]; rfl, by rw [e1]; exact rel_fnd hR _⟩
        · refine r_aload_n C dX10_text_36 rfl ?_
          refine r_ldc C dX10_text_37 kc_X10_90 ?_
          refine r_cvi (c := 1) C dX10_text_39 mv_X10_91 (c_X10_finding e l _ _) (by decide) rfl rfl rfl rfl (by decide) rfl rfl (Nat.le_of_ble_eq_true rfl) (fun z39 σ39 h39 => ?_)
          obtain ⟨rfl, rfl⟩ := h39
          refine r_iret C dX10_text_42 ?_
          have e1 : oText a b x d A = fnd A (-100001) := by unfold oText; repeat (first | rw [if_pos (by omega)] | rw [if_neg (by omega)])
          exact ⟨_, rfl, by rw [e1]; rfl, by rw [e1]; exact rel_fnd hR _⟩
set_option maxRecDepth 20000 in
theorem o_all (e : qR) (l : Launch) (σ : qSt) (k : Int) (A : aSt) (hR : RelD σ A) (hA : AOk A) (h_k : InI k)  : CM (ED e) l yX10_all cX10_all 2 (some .int) 20 [qr 0 0, qi k] σ (Ri fun z σ' => z = (oAll k A).1 ∧ RelD σ' (oAll k A).2) := by
  refine CM.mk tD_ok (by decide +kernel) (Nat.le_of_ble_eq_true rfl) (fun G C => ?_)
  show G σ 0 [some (qr 0 0), some (qi k)] []
  obtain ⟨hb, e10, n10, m10, e11, n11, m11, e5, n5, m5, e4, n4, m4, h381, h382, h383, h384⟩ := dF hR hA
  refine r_iload_n C dX10_all_0 rfl ?_
  rcases (by omega : k = 0 ∨ k = 1 ∨ k = 2 ∨ k = 3 ∨ k = 4 ∨ (k < 0 ∨ 4 < k)) with h1 | h1 | h1 | h1 | h1 | h1
  · refine r_v h1 ?_
    refine r_tabIn 36 C dX10_all_1 (by decide) (by decide) (by decide) rfl (by decide) ?_
    refine r_aload_n C dX10_all_36 rfl ?_
    refine r_get_i (c := 1) 10 C dX10_all_37 fl_X10_73 rfl rfl rfl rfl (by decide) ?_
    have b37 := hb 0 0 10 (by omega) (by omega)
    refine r_iret C dX10_all_40 ?_
    have e1 : oAll k A = (nLn A, A) := by unfold oAll; repeat (first | rw [if_pos (by omega)] | rw [if_neg (by omega)])
    exact ⟨_, rfl, by rw [e1] <;> (try (show _ = _; omega)), by rw [e1]; exact hR⟩
  · refine r_v h1 ?_
    refine r_tabIn 41 C dX10_all_1 (by decide) (by decide) (by decide) rfl (by decide) ?_
    refine r_aload_n C dX10_all_41 rfl ?_
    refine r_get_i (c := 1) 11 C dX10_all_42 fl_X10_77 rfl rfl rfl rfl (by decide) ?_
    have b42 := hb 0 0 11 (by omega) (by omega)
    refine r_iret C dX10_all_45 ?_
    have e1 : oAll k A = (nWd A, A) := by unfold oAll; repeat (first | rw [if_pos (by omega)] | rw [if_neg (by omega)])
    exact ⟨_, rfl, by rw [e1] <;> (try (show _ = _; omega)), by rw [e1]; exact hR⟩
  · refine r_v h1 ?_
    refine r_tabIn 46 C dX10_all_1 (by decide) (by decide) (by decide) rfl (by decide) ?_
    refine r_aload_n C dX10_all_46 rfl ?_
    refine r_get_r (c := 1) C dX10_all_47 fl_X10_30 rfl rfl rfl (by decide) rfl ?_
    refine r_get_i (c := 1) 5 C dX10_all_50 fl_X10_178 rfl rfl rfl rfl (by decide) ?_
    have b50 := hb 4 0 5 (by omega) (by omega)
    refine r_iret C dX10_all_53 ?_
    have e1 : oAll k A = (nTx A, A) := by unfold oAll; repeat (first | rw [if_pos (by omega)] | rw [if_neg (by omega)])
    exact ⟨_, rfl, by rw [e1] <;> (try (show _ = _; omega)), by rw [e1]; exact hR⟩
  · refine r_v h1 ?_
    refine r_tabIn 54 C dX10_all_1 (by decide) (by decide) (by decide) rfl (by decide) ?_
    refine r_aload_n C dX10_all_54 rfl ?_
    refine r_get_r (c := 1) C dX10_all_55 fl_X10_37 rfl rfl rfl (by decide) rfl ?_
    refine r_get_i (c := 1) 4 C dX10_all_58 fl_X10_209 rfl rfl rfl rfl (by decide) ?_
    have b58 := hb 10 0 4 (by omega) (by omega)
    refine r_iret C dX10_all_61 ?_
    have e1 : oAll k A = (nLp A, A) := by unfold oAll; repeat (first | rw [if_pos (by omega)] | rw [if_neg (by omega)])
    exact ⟨_, rfl, by rw [e1] <;> (try (show _ = _; omega)), by rw [e1]; exact hR⟩
  · refine r_v h1 ?_
    refine r_tabIn 62 C dX10_all_1 (by decide) (by decide) (by decide) rfl (by decide) ?_
    refine r_aload_n C dX10_all_62 rfl ?_
    refine r_get_i (c := 1) 12 C dX10_all_63 fl_X10_80 rfl rfl rfl rfl (by decide) ?_
    refine r_iret C dX10_all_66 ?_
    have e1 : oAll k A = (A.2.2.1, A) := by unfold oAll; repeat (first | rw [if_pos (by omega)] | rw [if_neg (by omega)])
    exact ⟨_, rfl, by rw [e1]; exact hR.2.2.2.2.2, by rw [e1]; exact hR⟩
  · refine r_tabOut 67 C dX10_all_1 (by decide) (by omega) h1 ?_
    refine r_aload_n C dX10_all_67 rfl ?_
    refine r_ldc C dX10_all_68 kc_X10_90 ?_
    refine r_cvi (c := 1) C dX10_all_70 mv_X10_91 (c_X10_finding e l _ _) (by decide) rfl rfl rfl rfl (by decide) rfl rfl (Nat.le_of_ble_eq_true rfl) (fun z70 σ70 h70 => ?_)
    obtain ⟨rfl, rfl⟩ := h70
    refine r_iret C dX10_all_73 ?_
    have e1 : oAll k A = fnd A (-100001) := by unfold oAll; repeat (first | rw [if_pos (by omega)] | rw [if_neg (by omega)])
    exact ⟨_, rfl, by rw [e1]; rfl, by rw [e1]; exact rel_fnd hR _⟩
set_option maxRecDepth 20000 in
theorem o_loop (e : qR) (l : Launch) (σ : qSt) (x : Int) (A : aSt) (hR : RelD σ A) (hA : AOk A) (h_x : InI x)  : CM (ED e) l yX10_loop cX10_loop 3 (some .int) 20 [qr 0 0, qi x] σ (Ri fun z σ' => z = (oLoop x A).1 ∧ RelD σ' (oLoop x A).2) := by
  refine CM.mk tD_ok (by decide +kernel) (Nat.le_of_ble_eq_true rfl) (fun G C => ?_)
  show G σ 0 [some (qr 0 0), some (qi x), none] []
  obtain ⟨hb, e10, n10, m10, e11, n11, m11, e5, n5, m5, e4, n4, m4, h381, h382, h383, h384⟩ := dF hR hA
  have hk : (σ 0 0 10).toNat = (cL A.1).length := by have : σ 0 0 10 = ((cL A.1).length : Int) := e10; omega
  have hk2 : (cL A.1).length ≤ 12 := by have : ((cL A.1).length : Int) ≤ 12 := m10; omega
  obtain ⟨g1, g2, g3, g4, g5, g6⟩ := hi_rng (x := x) hk2 (by omega)
  obtain ⟨wn, hwn⟩ := w_ex (Int32.ofInt (2 ^ (cL A.1).length - 1) ^^^ Int32.ofInt (-1))
  refine r_iconst C dX10_loop_0 ?_
  refine r_aload_n C dX10_loop_1 rfl ?_
  refine r_get_i (c := 1) 10 C dX10_loop_2 fl_X10_73 rfl rfl rfl rfl (by decide) ?_
  have b2 := hb 0 0 10 (by omega) (by omega)
  refine r_ishl _ C dX10_loop_5 (z_shl1 (by omega)) ?_
  refine r_iconst C dX10_loop_6 ?_
  refine r_isub C dX10_loop_7 ?_
  rw [hk]
  refine r_istore_n C dX10_loop_8 rfl rfl (by decide) ?_
  refine r_iload_n C dX10_loop_9 rfl ?_
  refine r_iload_n C dX10_loop_10 rfl ?_
  refine r_iconst C dX10_loop_11 ?_
  refine r_ixor wn C dX10_loop_12 hwn ?_
  refine r_iand _ C dX10_loop_13 (z_dif x _ wn _ hwn (z_mask x (cL A.1).length _ g3 g4 (by omega))) ?_
  refine r_if_eq 24 C dX10_loop_14 (by decide) (by omega) (fun h14 => ?_) (fun h14 => ?_)
  · refine r_iload_n C dX10_loop_24 rfl ?_
    refine r_if_ne 35 C dX10_loop_25 (by decide) (by omega) (fun h25 => ?_) (fun h25 => ?_)
    · refine r_aload_n C dX10_loop_35 rfl ?_
      refine r_get_r (c := 1) C dX10_loop_36 fl_X10_37 rfl rfl rfl (by decide) rfl ?_
      refine r_get_i (c := 1) 4 C dX10_loop_39 fl_X10_209 rfl rfl rfl rfl (by decide) ?_
      have b39 := hb 10 0 4 (by omega) (by omega)
      refine r_bipush C dX10_loop_42 ?_
      refine r_ic_lt 54 C dX10_loop_44 (by decide) (by omega) (by omega) (fun h44 => ?_) (fun h44 => ?_)
      · refine r_aload_n C dX10_loop_54 rfl ?_
        refine r_get_r (c := 1) C dX10_loop_55 fl_X10_37 rfl rfl rfl (by decide) rfl ?_
        refine r_iload_n C dX10_loop_58 rfl ?_
        refine r_cvv (c := 1) C dX10_loop_59 mv_X10_212 (c_X1_appendLoop e l _ _ (by omega)) (by decide) rfl rfl rfl rfl (by decide) rfl rfl (Nat.le_of_ble_eq_true rfl) (fun σ59 h59 => ?_)
        subst h59
        refine r_aload_n C dX10_loop_62 rfl ?_
        refine r_bipush C dX10_loop_63 ?_
        refine r_iconst C dX10_loop_65 ?_
        refine r_iconst C dX10_loop_66 ?_
        refine r_cvr (c := 1) C dX10_loop_67 mv_X10_100 (c_X10_remember e l _ _ _ _ (by simp [qUp]; omega) (by simp [qUp]; omega)) (by decide) rfl rfl rfl rfl (by decide) rfl rfl (Nat.le_of_ble_eq_true rfl) (fun k67 i67 σ67 h67 => ?_)
        obtain ⟨rfl, rfl, rfl⟩ := h67
        refine r_pop C dX10_loop_70 ?_
        refine r_aload_n C dX10_loop_71 rfl ?_
        refine r_get_r (c := 1) C dX10_loop_72 fl_X10_37 rfl rfl rfl (by decide) rfl ?_
        refine r_get_i (c := 1) 4 C dX10_loop_75 fl_X10_209 rfl rfl rfl rfl (by decide) ?_
        refine r_v (b := (σ 10 0 4 + 1)) (by simp [pRem, pApp, qUp, qCpy]) ?_
        refine r_iconst C dX10_loop_78 ?_
        refine r_isub C dX10_loop_79 ?_
        refine r_iret C dX10_loop_80 ?_
        have e1 : oLoop x A = (nLp A, psh A (10, 0, 0, []) (sO A.1 (cO A.1 ++ [x]))) := by unfold oLoop; repeat (first | rw [if_pos (by omega)] | rw [if_neg (by omega)])
        exact ⟨_, rfl, by rw [e1]; show _ = _; omega, by rw [e1]; exact rel_rem hR (fun a b c h => by repeat rw [qUp_ne (by omega)]) (by (repeat (refine Iv1.up ?_ (by omega) (by omega) (by omega) (by omega) (by omega))); exact hR.1.one) (cur_loop hR.2.2.1 rfl rfl) (by omega) (by omega) (by omega)⟩
      · refine r_aload_n C dX10_loop_47 rfl ?_
        refine r_ldc C dX10_loop_48 kc_X10_95 ?_
        refine r_cvi (c := 1) C dX10_loop_50 mv_X10_91 (c_X10_finding e l _ _) (by decide) rfl rfl rfl rfl (by decide) rfl rfl (Nat.le_of_ble_eq_true rfl) (fun z50 σ50 h50 => ?_)
        obtain ⟨rfl, rfl⟩ := h50
        refine r_iret C dX10_loop_53 ?_
        have e1 : oLoop x A = fnd A (-100005) := by unfold oLoop; repeat (first | rw [if_pos (by omega)] | rw [if_neg (by omega)])
        exact ⟨_, rfl, by rw [e1]; rfl, by rw [e1]; exact rel_fnd hR _⟩
    · refine r_aload_n C dX10_loop_28 rfl ?_
      refine r_ldc C dX10_loop_29 kc_X10_127 ?_
      refine r_cvi (c := 1) C dX10_loop_31 mv_X10_91 (c_X10_finding e l _ _) (by decide) rfl rfl rfl rfl (by decide) rfl rfl (Nat.le_of_ble_eq_true rfl) (fun z31 σ31 h31 => ?_)
      obtain ⟨rfl, rfl⟩ := h31
      refine r_iret C dX10_loop_34 ?_
      have e1 : oLoop x A = fnd A (-100003) := by unfold oLoop; repeat (first | rw [if_pos (by omega)] | rw [if_neg (by omega)])
      exact ⟨_, rfl, by rw [e1]; rfl, by rw [e1]; exact rel_fnd hR _⟩
  · refine r_aload_n C dX10_loop_17 rfl ?_
    refine r_ldc C dX10_loop_18 kc_X10_90 ?_
    refine r_cvi (c := 1) C dX10_loop_20 mv_X10_91 (c_X10_finding e l _ _) (by decide) rfl rfl rfl rfl (by decide) rfl rfl (Nat.le_of_ble_eq_true rfl) (fun z20 σ20 h20 => ?_)
    obtain ⟨rfl, rfl⟩ := h20
    refine r_iret C dX10_loop_23 ?_
    have e1 : oLoop x A = fnd A (-100001) := by unfold oLoop; repeat (first | rw [if_pos (by omega)] | rw [if_neg (by omega)])
    exact ⟨_, rfl, by rw [e1]; rfl, by rw [e1]; exact rel_fnd hR _⟩
set_option maxRecDepth 20000 in
theorem o_unloop (e : qR) (l : Launch) (σ : qSt) (A : aSt) (hR : RelD σ A) (hA : AOk A)   : CM (ED e) l yX10_unloop cX10_unloop 1 (some .int) 20 [qr 0 0] σ (Ri fun z σ' => z = (oUnloop A).1 ∧ RelD σ' (oUnloop A).2) := by
  refine CM.mk tD_ok (by decide +kernel) (Nat.le_of_ble_eq_true rfl) (fun G C => ?_)
  show G σ 0 [some (qr 0 0)] []
  obtain ⟨hb, e10, n10, m10, e11, n11, m11, e5, n5, m5, e4, n4, m4, h381, h382, h383, h384⟩ := dF hR hA
  refine r_aload_n C dX10_unloop_0 rfl ?_
  refine r_get_r (c := 1) C dX10_unloop_1 fl_X10_37 rfl rfl rfl (by decide) rfl ?_
  refine r_get_i (c := 1) 4 C dX10_unloop_4 fl_X10_209 rfl rfl rfl rfl (by decide) ?_
  have b4 := hb 10 0 4 (by omega) (by omega)
  refine r_if_gt 17 C dX10_unloop_7 (by decide) (by omega) (fun h7 => ?_) (fun h7 => ?_)
  · have ew : σ 14 0 (σ 10 0 4 - 1) = (cO A.1).getD ((cO A.1).length - 1) 0 := by
      have h1 : ((cO A.1).length : Int) = σ 10 0 4 := e4.symm
      have h2 := hR.2.2.1.2.2.2.2.2.2.2.2 ((cO A.1).length - 1) _ (get_of_lt _ 0 (by omega))
      rw [show σ 10 0 4 - 1 = (((cO A.1).length - 1 : Nat) : Int) by omega]
      exact h2
    refine r_aload_n C dX10_unloop_17 rfl ?_
    refine r_get_r (c := 1) C dX10_unloop_18 fl_X10_37 rfl rfl rfl (by decide) rfl ?_
    refine r_dup C dX10_unloop_21 ?_
    refine r_get_i (c := 1) 4 C dX10_unloop_22 fl_X10_209 rfl rfl rfl rfl (by decide) ?_
    have b22 := hb 10 0 4 (by omega) (by omega)
    refine r_iconst C dX10_unloop_25 ?_
    refine r_isub C dX10_unloop_26 ?_
    refine r_put_i (c := 1) 4 C dX10_unloop_27 fw_X10_209 rfl rfl rfl rfl (by decide) rfl rfl ?_
    refine r_aload_n C dX10_unloop_30 rfl ?_
    refine r_bipush C dX10_unloop_31 ?_
    refine r_iconst C dX10_unloop_33 ?_
    refine r_aload_n C dX10_unloop_34 rfl ?_
    refine r_get_r (c := 1) C dX10_unloop_35 fl_X10_37 rfl rfl rfl (by decide) rfl ?_
    refine r_get_r (c := 1) C dX10_unloop_38 fl_X10_215 rfl rfl rfl (by decide) rfl ?_
    refine r_aload_n C dX10_unloop_41 rfl ?_
    refine r_get_r (c := 1) C dX10_unloop_42 fl_X10_37 rfl rfl rfl (by decide) rfl ?_
    refine r_get_i (c := 1) 4 C dX10_unloop_45 fl_X10_209 rfl rfl rfl rfl (by decide) ?_
    refine r_v (b := ((σ 10 0 4) - 1)) (by simp [qUp, qCpy]) ?_
    refine r_iald (c := 1) (N := 7) C dX10_unloop_48 rfl rfl (by decide) (by omega) ?_
    refine r_v (b := (σ 14 0 ((σ 10 0 4) - 1))) (by simp [qUp, qCpy]) ?_
    have b48 := hb 14 0 ((σ 10 0 4) - 1) (by omega) (by omega)
    refine r_cvr (c := 1) C dX10_unloop_49 mv_X10_100 (c_X10_remember e l _ _ _ _ (by simp [qUp]; omega) (by simp [qUp]; omega)) (by decide) rfl rfl rfl rfl (by decide) rfl rfl (Nat.le_of_ble_eq_true rfl) (fun k49 i49 σ49 h49 => ?_)
    obtain ⟨rfl, rfl, rfl⟩ := h49
    refine r_pop C dX10_unloop_52 ?_
    refine r_aload_n C dX10_unloop_53 rfl ?_
    refine r_get_r (c := 1) C dX10_unloop_54 fl_X10_37 rfl rfl rfl (by decide) rfl ?_
    refine r_get_i (c := 1) 4 C dX10_unloop_57 fl_X10_209 rfl rfl rfl rfl (by decide) ?_
    refine r_v (b := ((σ 10 0 4) - 1)) (by simp [pRem, pApp, qUp, qCpy]) ?_
    refine r_iret C dX10_unloop_60 ?_
    have e1 : oUnloop A = (nLp A - 1, psh A (11, 0, (cO A.1).getD ((cO A.1).length - 1) 0, []) (sO A.1 (cO A.1).dropLast)) := by unfold oUnloop; repeat (first | rw [if_pos (by omega)] | rw [if_neg (by omega)])
    rw [← ew] at e1
    exact ⟨_, rfl, by rw [e1]; show _ = _; omega, by rw [e1]; exact rel_rem hR (fun a b c h => by repeat rw [qUp_ne (by omega)]) (by (repeat (refine Iv1.up ?_ (by omega) (by omega) (by omega) (by omega) (by omega))); exact hR.1.one) (cur_unloop hR.2.2.1 (by have : ((cO A.1).length : Int) = σ 10 0 4 := e4.symm; omega)) (by omega) (by omega) (by omega)⟩
  · refine r_aload_n C dX10_unloop_10 rfl ?_
    refine r_ldc C dX10_unloop_11 kc_X10_135 ?_
    refine r_cvi (c := 1) C dX10_unloop_13 mv_X10_91 (c_X10_finding e l _ _) (by decide) rfl rfl rfl rfl (by decide) rfl rfl (Nat.le_of_ble_eq_true rfl) (fun z13 σ13 h13 => ?_)
    obtain ⟨rfl, rfl⟩ := h13
    refine r_iret C dX10_unloop_16 ?_
    have e1 : oUnloop A = fnd A (-100006) := by unfold oUnloop; repeat (first | rw [if_pos (by omega)] | rw [if_neg (by omega)])
    exact ⟨_, rfl, by rw [e1]; rfl, by rw [e1]; exact rel_fnd hR _⟩
