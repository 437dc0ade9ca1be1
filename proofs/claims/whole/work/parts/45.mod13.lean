set_option maxRecDepth 20000 in
theorem m_cost (e : qR) (l : Launch) (σ : qSt) (w : Int) (A : aSt) (hR : RelM σ A) (hA : AOk A) (h_w : InI w)  : CM (EM e) l yX11_cost cX11_cost 3 (some .int) 20 [qr 0 0, qi w] σ (Ri fun z σ' => z = (oCost w A).1 ∧ RelM σ' (oCost w A).2) := by
  refine CM.mk tM_ok (by decide +kernel) (Nat.le_of_ble_eq_true rfl) (fun G C => ?_)
  show G σ 0 [some (qr 0 0), some (qi w), none] []
  obtain ⟨hb, e0, n0, m0, e1w, n1, m1, e2t, n2, m2, e3l, n3, m3, hk0, hk20⟩ := mF hR hA
  refine r_aload_n C dX11_cost_0 rfl ?_
  refine r_iload_n C dX11_cost_1 rfl ?_
  refine r_cvi (c := 1) C dX11_cost_2 mv_X11_85 (c_X11_isWording e l _ _ hb (by omega)) (by decide) rfl rfl rfl rfl (by decide) rfl rfl (Nat.le_of_ble_eq_true rfl) (fun z2 σ2 h2 => ?_)
  obtain ⟨rfl, rfl⟩ := h2
  refine r_ifb_ne 15 C dX11_cost_5 (by decide) (fun h5 => ?_) (fun h5 => ?_)
  · refine r_aload_n C dX11_cost_15 rfl ?_
    refine r_iload_n C dX11_cost_16 rfl ?_
    refine r_cvi (c := 1) C dX11_cost_17 mv_X11_129 (c_X11_fit e l _ _ A hR hA (by omega)) (by decide) rfl rfl rfl rfl (by decide) rfl rfl (Nat.le_of_ble_eq_true rfl) (fun z17 σ17 h17 => ?_)
    obtain ⟨hR17, f1, f2, f3, f4⟩ := h17
    refine r_istore_n C dX11_cost_20 rfl rfl (by decide) ?_
    refine r_iload_n C dX11_cost_21 rfl ?_
    refine r_ldc C dX11_cost_22 kc_X11_103 ?_
    refine r_ic_ne 36 C dX11_cost_24 (by decide) (by omega) (by omega) (fun h24 => ?_) (fun h24 => ?_)
    · refine r_iload_n C dX11_cost_36 rfl ?_
      refine r_iret C dX11_cost_37 ?_
      first
      | (have e1 : oCost w A = fnd A (-100006) := by unfold oCost; repeat (first | rw [if_pos (by omega)] | rw [if_neg (by omega)])
         exact ⟨_, rfl, by rw [e1]; rfl, by rw [e1]; exact rel_mfnd hR17 _⟩)
      | (have e1 : oCost w A = (fitT A w 0 0, A) := by unfold oCost; repeat (first | rw [if_pos (by omega)] | rw [if_neg (by omega)])
         exact ⟨_, rfl, by rw [e1]; exact f1, by rw [e1]; exact hR17⟩)
    · refine r_aload_n C dX11_cost_27 rfl ?_
      refine r_ldc C dX11_cost_28 kc_X11_67 ?_
      refine r_cvi (c := 1) C dX11_cost_30 mv_X11_68 (c_X11_finding e l _ _) (by decide) rfl rfl rfl rfl (by decide) rfl rfl (Nat.le_of_ble_eq_true rfl) (fun z30 σ30 h30 => ?_)
      obtain ⟨rfl, rfl⟩ := h30
      refine r_goto 37 C dX11_cost_33 (by decide) ?_
      refine r_iret C dX11_cost_37 ?_
      first
      | (have e1 : oCost w A = fnd A (-100006) := by unfold oCost; repeat (first | rw [if_pos (by omega)] | rw [if_neg (by omega)])
         exact ⟨_, rfl, by rw [e1]; rfl, by rw [e1]; exact rel_mfnd hR17 _⟩)
      | (have e1 : oCost w A = (fitT A w 0 0, A) := by unfold oCost; repeat (first | rw [if_pos (by omega)] | rw [if_neg (by omega)])
         exact ⟨_, rfl, by rw [e1]; exact f1, by rw [e1]; exact hR17⟩)
  · refine r_aload_n C dX11_cost_8 rfl ?_
    refine r_ldc C dX11_cost_9 kc_X11_72 ?_
    refine r_cvi (c := 1) C dX11_cost_11 mv_X11_68 (c_X11_finding e l _ _) (by decide) rfl rfl rfl rfl (by decide) rfl rfl (Nat.le_of_ble_eq_true rfl) (fun z11 σ11 h11 => ?_)
    obtain ⟨rfl, rfl⟩ := h11
    refine r_iret C dX11_cost_14 ?_
    have e1 : oCost w A = fnd A (-100001) := by unfold oCost; repeat (first | rw [if_pos (by omega)] | rw [if_neg (by omega)])
    exact ⟨_, rfl, by rw [e1]; rfl, by rw [e1]; exact rel_mfnd hR _⟩
set_option maxRecDepth 20000 in
theorem m_place (e : qR) (l : Launch) (σ : qSt) (w i k : Int) (A : aSt) (hR : RelM σ A) (hA : AOk A) (h_w : InI w) (h_i : InI i) (h_k : InI k)  : CM (EM e) l yX11_place cX11_place 4 (some .int) 20 [qr 0 0, qi w, qi i, qi k] σ (Ri fun z σ' => z = (oPlace w i k A).1 ∧ RelM σ' (oPlace w i k A).2) := by
  refine CM.mk tM_ok (by decide +kernel) (Nat.le_of_ble_eq_true rfl) (fun G C => ?_)
  show G σ 0 [some (qr 0 0), some (qi w), some (qi i), some (qi k)] []
  obtain ⟨hb, e0, n0, m0, e1w, n1, m1, e2t, n2, m2, e3l, n3, m3, hk0, hk20⟩ := mF hR hA
  refine r_aload_n C dX11_place_0 rfl ?_
  refine r_iload_n C dX11_place_1 rfl ?_
  refine r_cvi (c := 1) C dX11_place_2 mv_X11_85 (c_X11_isWording e l _ _ hb (by omega)) (by decide) rfl rfl rfl rfl (by decide) rfl rfl (Nat.le_of_ble_eq_true rfl) (fun z2 σ2 h2 => ?_)
  obtain ⟨rfl, rfl⟩ := h2
  refine r_ifb_eq 27 C dX11_place_5 (by decide) (fun h5 => ?_) (fun h5 => ?_)
  · refine r_aload_n C dX11_place_27 rfl ?_
    refine r_ldc C dX11_place_28 kc_X11_72 ?_
    refine r_cvi (c := 1) C dX11_place_30 mv_X11_68 (c_X11_finding e l _ _) (by decide) rfl rfl rfl rfl (by decide) rfl rfl (Nat.le_of_ble_eq_true rfl) (fun z30 σ30 h30 => ?_)
    obtain ⟨rfl, rfl⟩ := h30
    refine r_iret C dX11_place_33 ?_
    have e1 : oPlace w i k A = fnd A (-100001) := by unfold oPlace; repeat (first | rw [if_pos (by omega)] | rw [if_neg (by omega)])
    exact ⟨_, rfl, by rw [e1]; rfl, by rw [e1]; exact rel_mfnd hR _⟩
  · have wl := wl_m hR hA (w := w) (by omega)
    refine r_iload_n C dX11_place_8 rfl ?_
    refine r_iconst C dX11_place_9 ?_
    refine r_aload_n C dX11_place_10 rfl ?_
    refine r_get_r (c := 1) C dX11_place_11 fl_X11_9 rfl rfl rfl (by decide) rfl ?_
    refine r_bipush C dX11_place_14 ?_
    refine r_iload_n C dX11_place_16 rfl ?_
    refine r_iadd C dX11_place_17 ?_
    refine r_iald (c := 1) (N := 365) C dX11_place_18 rfl rfl (by decide) (by omega) ?_
    have b18 := hb 1 0 (88 + w) (by omega) (by omega)
    refine r_iconst C dX11_place_19 ?_
    refine r_isub C dX11_place_20 ?_
    refine r_csi C dX11_place_21 ms_X11_60 (c_X11_within e l _ _ _ _ (by omega) (by omega) (by omega)) (by decide) rfl rfl (Nat.le_of_ble_eq_true rfl) (fun z21 σ21 h21 => ?_)
    obtain ⟨rfl, rfl⟩ := h21
    refine r_ifb_ne 34 C dX11_place_24 (by decide) (fun h24 => ?_) (fun h24 => ?_)
    · refine r_aload_n C dX11_place_34 rfl ?_
      refine r_iload_n C dX11_place_35 rfl ?_
      refine r_cvi (c := 1) C dX11_place_36 mv_X11_129 (c_X11_fit e l _ _ A hR hA (by omega)) (by decide) rfl rfl rfl rfl (by decide) rfl rfl (Nat.le_of_ble_eq_true rfl) (fun z36 σ36 h36 => ?_)
      obtain ⟨hR36, f1, f2, f3, f4⟩ := h36
      refine r_ldc C dX11_place_39 kc_X11_103 ?_
      refine r_ic_ne 53 C dX11_place_41 (by decide) (by omega) (by omega) (fun h41 => ?_) (fun h41 => ?_)
      · refine r_iload_n C dX11_place_53 rfl ?_
        refine r_if_eq 66 C dX11_place_54 (by decide) (by omega) (fun h54 => ?_) (fun h54 => ?_)
        · refine r_aload_n C dX11_place_66 rfl ?_
          refine r_get_r (c := 1) C dX11_place_67 fl_X11_35 rfl rfl rfl (by decide) rfl ?_
          refine r_iload_n C dX11_place_70 rfl ?_
          refine r_iald (c := 1) (N := 8) C dX11_place_71 rfl rfl (by decide) (by omega) ?_
          refine r_iret C dX11_place_72 ?_
          first
          | (have e1 : oPlace w i k A = fnd A (-100006) := by unfold oPlace; repeat (first | rw [if_pos (by omega)] | rw [if_neg (by omega)])
             exact ⟨_, rfl, by rw [e1]; rfl, by rw [e1]; exact rel_mfnd hR36 _⟩)
          | (have e1 : oPlace w i k A = (if k = 0 then (fitBL A w).1 i else (fitBL A w).2 i, A) := by unfold oPlace; rw [if_neg (by omega), if_neg (by omega)]
             have f6 := f4 (by omega) i (by omega) (by omega)
             exact ⟨_, rfl, by rw [e1]; first | (rw [if_pos h54]; exact f6.1) | (rw [if_neg h54]; exact f6.2), by rw [e1]; exact hR36⟩)
        · refine r_aload_n C dX11_place_57 rfl ?_
          refine r_get_r (c := 1) C dX11_place_58 fl_X11_38 rfl rfl rfl (by decide) rfl ?_
          refine r_iload_n C dX11_place_61 rfl ?_
          refine r_iald (c := 1) (N := 8) C dX11_place_62 rfl rfl (by decide) (by omega) ?_
          refine r_goto 72 C dX11_place_63 (by decide) ?_
          refine r_iret C dX11_place_72 ?_
          first
          | (have e1 : oPlace w i k A = fnd A (-100006) := by unfold oPlace; repeat (first | rw [if_pos (by omega)] | rw [if_neg (by omega)])
             exact ⟨_, rfl, by rw [e1]; rfl, by rw [e1]; exact rel_mfnd hR36 _⟩)
          | (have e1 : oPlace w i k A = (if k = 0 then (fitBL A w).1 i else (fitBL A w).2 i, A) := by unfold oPlace; rw [if_neg (by omega), if_neg (by omega)]
             have f6 := f4 (by omega) i (by omega) (by omega)
             exact ⟨_, rfl, by rw [e1]; first | (rw [if_pos h54]; exact f6.1) | (rw [if_neg h54]; exact f6.2), by rw [e1]; exact hR36⟩)
      · refine r_aload_n C dX11_place_44 rfl ?_
        refine r_ldc C dX11_place_45 kc_X11_67 ?_
        refine r_cvi (c := 1) C dX11_place_47 mv_X11_68 (c_X11_finding e l _ _) (by decide) rfl rfl rfl rfl (by decide) rfl rfl (Nat.le_of_ble_eq_true rfl) (fun z47 σ47 h47 => ?_)
        obtain ⟨rfl, rfl⟩ := h47
        refine r_goto 72 C dX11_place_50 (by decide) ?_
        refine r_iret C dX11_place_72 ?_
        first
        | (have e1 : oPlace w i k A = fnd A (-100006) := by unfold oPlace; repeat (first | rw [if_pos (by omega)] | rw [if_neg (by omega)])
           exact ⟨_, rfl, by rw [e1]; rfl, by rw [e1]; exact rel_mfnd hR36 _⟩)
        | (have e1 : oPlace w i k A = (if k = 0 then (fitBL A w).1 i else (fitBL A w).2 i, A) := by unfold oPlace; rw [if_neg (by omega), if_neg (by omega)]
           have f6 := f4 (by omega) i (by omega) (by omega)
           exact ⟨_, rfl, by rw [e1]; first | (rw [if_pos h54]; exact f6.1) | (rw [if_neg h54]; exact f6.2), by rw [e1]; exact hR36⟩)
    · refine r_aload_n C dX11_place_27 rfl ?_
      refine r_ldc C dX11_place_28 kc_X11_72 ?_
      refine r_cvi (c := 1) C dX11_place_30 mv_X11_68 (c_X11_finding e l _ _) (by decide) rfl rfl rfl rfl (by decide) rfl rfl (Nat.le_of_ble_eq_true rfl) (fun z30 σ30 h30 => ?_)
      obtain ⟨rfl, rfl⟩ := h30
      refine r_iret C dX11_place_33 ?_
      have e1 : oPlace w i k A = fnd A (-100001) := by unfold oPlace; repeat (first | rw [if_pos (by omega)] | rw [if_neg (by omega)])
      exact ⟨_, rfl, by rw [e1]; rfl, by rw [e1]; exact rel_mfnd hR _⟩
theorem on_st {A : aSt} {w : Int} {T : Int → Int → Int} {b l : Int → Int} (h : TrA A w T b l) : ∀ k : Nat, (k : Int) ≤ mA A w → 0 ≤ stB b l k ∧ ∀ j : Nat, j < k → b j + l j ≤ stB b l k := by
  intro k
  induction k with
  | zero => intro _; exact ⟨by simp [stB], fun j q => by omega⟩
  | succ k ih =>
    intro hk
    obtain ⟨i1, i2⟩ := ih (by omega)
    obtain ⟨a1, a2, a3, a4, a5⟩ := h k (by omega) (by omega)
    have e : stB b l ((k + 1 : Nat) : Int) = b k + l k := by unfold stB; rw [if_neg (by omega), show ((k + 1 : Nat) : Int) - 1 = (k : Int) by omega]
    rw [e]
    refine ⟨by omega, fun j q => ?_⟩
    by_cases u : j = k
    · rw [u]; exact Int.le_refl _
    · have := i2 j (by omega)
      omega
theorem on_last {A : aSt} {w x : Int} {T : Int → Int → Int} {b l : Int → Int} (h : TrA A w T b l) (k : Nat) (hk : (k : Int) < mA A w) (hx : b k ≤ x ∧ x < b k + l k) : onF b l x k = -1 := by
  have hs := on_st h k (by omega)
  obtain ⟨a1, a2, a3, a4, a5⟩ := h k (by omega) hk
  have : ∀ m : Nat, m ≤ k → onF b l x m = -1 := by
    intro m
    induction m with
    | zero => intro _; rfl
    | succ m ih =>
      intro hm
      have := hs.2 m (by omega)
      simp only [onF]
      rw [ih (by omega), if_neg (by omega), if_neg (by omega)]
  exact this k (Nat.le_refl _)
theorem fitBL_tr {A : aSt} {w : Int} {T : Int → Int → Int} {b l : Int → Int} (h : DPA A w T) (hP : TrA A w T b l) : TrA A w (fitT A w) b l := by
  have e : ∀ j f, 0 ≤ j → j < mA A w → 0 ≤ f → f < nA A w → shX (ocA A w) (loA A w) (hiA A w) (nA A w) T j f = shX (ocA A w) (loA A w) (hiA A w) (nA A w) (fitT A w) j f := fun j f a1 a2 a3 a4 => shX.cg ⟨a1, a2⟩ ⟨a3, a4⟩ (fun _ _ _ _ _ _ => rfl) (fun _ _ _ => ⟨rfl, rfl⟩) (fitT_one h)
  exact (TrP.cg (Int.le_refl _) e hP).2
