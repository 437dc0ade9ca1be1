/-! the reference's calls: change -/
theorem ro_or {r d i : Int} (hi : 0 ≤ i) (hr : 0 ≤ r ∧ r < 4 ^ i.toNat) (hd : 0 ≤ d) : Int64.ofInt r ||| Int64.ofInt (d * 2 ^ (2 * i).toNat) = Int64.ofInt (r + d * 4 ^ i.toNat) := by
  have e4 : (4 : Int) ^ i.toNat = ((2 ^ (2 * i).toNat : Nat) : Int) := by
    rw [p4, show (2 * i).toNat = 2 * i.toNat by omega]
    norm_cast
  have h := xl_or r.toNat (d.toNat * 2 ^ (2 * i).toNat)
  rw [Nat.or_comm, or_add (by omega)] at h
  have e : ((d.toNat * 2 ^ (2 * i).toNat : Nat) : Int) = d * 2 ^ (2 * i).toNat := by
    rw [Int.natCast_mul, Int.toNat_of_nonneg hd]
    norm_cast
  rw [Int.natCast_add, e, Int.toNat_of_nonneg hr.1] at h
  rw [h, Int.add_comm]
  congr 2
  rw [e4]
  norm_cast
def roI (A : aSt) (s : Int) (i : Nat) (r : Int) : Prop := 0 ≤ r ∧ r < 4 ^ i ∧ ∀ j : Nat, j < i → dg r j = nuA A s j
theorem ro_step {A : aSt} {s r d : Int} {i : Nat} (h : roI A s i r) (hd : 0 ≤ d ∧ d < 4) (hn : d = nuA A s i) : roI A s (i + 1) (r + d * 4 ^ i) := by
  obtain ⟨h1, h2, h3⟩ := h
  have hp : (0 : Int) < 4 ^ i := Int.pow_pos (by decide)
  have e0 : dg r i = 0 := by
    unfold dg
    rw [Int.toNat_natCast, Int.ediv_eq_zero_of_lt h1 h2]
    rfl
  obtain ⟨d1, d2⟩ := dg_put r d i hd
  rw [e0, Int.zero_mul, Int.sub_zero] at d1 d2
  have e1 : (4 : Int) ^ (i + 1) = 4 * 4 ^ i := by rw [Int.pow_succ]; omega
  have hd0 : 0 ≤ d * 4 ^ i := Int.mul_nonneg hd.1 (by omega)
  have hd3 : d * 4 ^ i ≤ 3 * 4 ^ i := Int.mul_le_mul_of_nonneg_right (by omega) (by omega)
  refine ⟨by omega, by rw [e1]; omega, fun j hj => ?_⟩
  by_cases e : j = i
  · rw [e, d1, hn]
  · rw [d2 j e]
    exact h3 j (by omega)
theorem ro_b {A : aSt} {s r : Int} {i : Nat} (h : roI A s i r) (hi : i ≤ 24) : 0 ≤ r ∧ r < 281474976710656 := by
  have hp : ∀ n : Nat, n ≤ 24 → (4 : Int) ^ n ≤ 281474976710656 := by decide
  have := hp i hi
  have h1 := h.1
  have h2 := h.2.1
  omega
set_option maxRecDepth 20000 in
theorem lp_X11_change {G : qSt → Nat → List (Option qV) → List qV → Prop} {Ret : Option qV → qSt → Prop} (e : qR) (l : Launch) (σ : qSt) (x s : Int) (A : aSt) (hA : AOk A) (hs : 0 ≤ s ∧ s < 4) (h6 : σ 6 0 s = szA A s) (h7 : ∀ j, 0 ≤ j → j < 30 → σ 7 0 (30 * s + j) % 4 = nuA A s j) (hz : 0 ≤ szA A s ∧ szA A s ≤ 24) (C : Cx (EM e) l RX11 cX11_change 6 (some .int) 20 Ret G) (hN : ∀ r y, roI A s (szA A s).toNat r → G σ 105 [some (qr 0 0), some (qi x), some (qi s), some (ql r), none, some (qi y)] []) : ∀ (k : Nat) (m : Nat) (r : Int), (m : Int) + (k : Int) = szA A s → roI A s m r → G σ 65 [some (qr 0 0), some (qi x), some (qi s), some (ql r), none, some (qi (m : Int))] [] := by
  intro k
  induction k with
  | zero =>
    intro m r hm hI
    have hI1 := hI.1
    have hI2 := hI.2.1
    refine r_iload C dX11_change_65 rfl ?_
    refine r_aload_n C dX11_change_67 rfl ?_
    refine r_get_r (c := 1) C dX11_change_68 fl_X11_26 rfl rfl rfl (by decide) rfl ?_
    refine r_iload_n C dX11_change_71 rfl ?_
    refine r_iald (c := 1) (N := 4) C dX11_change_72 rfl rfl (by decide) (by omega) ?_
    refine r_ic_ge 105 C dX11_change_73 (by decide) (by omega) (by omega) (fun h73 => ?_) (fun h73 => ?_)
    · rw [show m = (szA A s).toNat by omega] at hI
      exact hN _ _ hI
    · exfalso; omega
  | succ k ih =>
    intro m r hm hI
    have hI1 := hI.1
    have hI2 := hI.2.1
    refine r_iload C dX11_change_65 rfl ?_
    refine r_aload_n C dX11_change_67 rfl ?_
    refine r_get_r (c := 1) C dX11_change_68 fl_X11_26 rfl rfl rfl (by decide) rfl ?_
    refine r_iload_n C dX11_change_71 rfl ?_
    refine r_iald (c := 1) (N := 4) C dX11_change_72 rfl rfl (by decide) (by omega) ?_
    refine r_ic_ge 105 C dX11_change_73 (by decide) (by omega) (by omega) (fun h73 => ?_) (fun h73 => ?_)
    · exfalso; omega
    · refine r_lload_n C dX11_change_76 rfl ?_
      refine r_aload_n C dX11_change_77 rfl ?_
      refine r_get_r (c := 1) C dX11_change_78 fl_X11_29 rfl rfl rfl (by decide) rfl ?_
      refine r_bipush C dX11_change_81 ?_
      refine r_iload_n C dX11_change_83 rfl ?_
      refine r_imul C dX11_change_84 ?_
      refine r_iload C dX11_change_85 rfl ?_
      refine r_iadd C dX11_change_87 ?_
      refine r_iald (c := 1) (N := 120) C dX11_change_88 rfl rfl (by decide) (by omega) ?_
      refine r_iconst C dX11_change_89 ?_
      refine r_iand (σ 7 0 (30 * s + (m : Int)) % 4) C dX11_change_90 (z_mask _ 2 4 rfl (by decide) (by decide)) ?_
      refine r_i2l C dX11_change_91 (by omega) ?_
      refine r_iconst C dX11_change_92 ?_
      refine r_iload C dX11_change_93 rfl ?_
      refine r_imul C dX11_change_95 ?_
      refine r_lshl _ C dX11_change_96 (xl_shlI _ _ (by omega) (by omega)) ?_
      refine r_lor (r + σ 7 0 (30 * s + (m : Int)) % 4 * 4 ^ m) C dX11_change_97 (by have q := ro_or (r := r) (d := σ 7 0 (30 * s + (m : Int)) % 4) (i := (m : Int)) (by omega) (by rw [Int.toNat_natCast]; exact ⟨hI1, hI2⟩) (by omega); rw [Int.toNat_natCast] at q; exact q) ?_
      refine r_lstore_n C dX11_change_98 rfl rfl rfl (by decide) ?_
      refine r_iinc C dX11_change_99 rfl rfl rfl (by decide) ?_
      refine r_goto 65 C dX11_change_102 (by decide) ?_
      exact ih (m + 1) _ (by push_cast; omega) (ro_step hI (by omega) (h7 m (by omega) (by omega)))
set_option maxRecDepth 20000 in
theorem m_change (e : qR) (l : Launch) (σ : qSt) (x s : Int) (A : aSt) (hR : RelM σ A) (hA : AOk A) (h_x : InI x) (h_s : InI s)  : CM (EM e) l yX11_change cX11_change 6 (some .int) 20 [qr 0 0, qi x, qi s] σ (Ri fun z σ' => z = (oChange x s A).1 ∧ RelM σ' (oChange x s A).2) := by
  refine CM.mk tM_ok (by decide +kernel) (Nat.le_of_ble_eq_true rfl) (fun G C => ?_)
  show G σ 0 [some (qr 0 0), some (qi x), some (qi s), none, none, none] []
  obtain ⟨hb, e0, n0, m0, e1w, n1, m1, e2t, n2, m2, e3l, n3, m3, hk0, hk20⟩ := mF hR hA
  refine r_aload_n C dX11_change_0 rfl ?_
  refine r_iload_n C dX11_change_1 rfl ?_
  refine r_cvi (c := 1) C dX11_change_2 mv_X11_77 (c_X11_isLine e l _ _ hb (by omega)) (by decide) rfl rfl rfl rfl (by decide) rfl rfl (Nat.le_of_ble_eq_true rfl) (fun z2 σ2 h2 => ?_)
  obtain ⟨rfl, rfl⟩ := h2
  refine r_ifb_eq 15 C dX11_change_5 (by decide) (fun h5 => ?_) (fun h5 => ?_)
  · refine r_aload_n C dX11_change_15 rfl ?_
    refine r_ldc C dX11_change_16 kc_X11_72 ?_
    refine r_cvi (c := 1) C dX11_change_18 mv_X11_68 (c_X11_finding e l _ _) (by decide) rfl rfl rfl rfl (by decide) rfl rfl (Nat.le_of_ble_eq_true rfl) (fun z18 σ18 h18 => ?_)
    obtain ⟨rfl, rfl⟩ := h18
    refine r_iret C dX11_change_21 ?_
    have e1 : oChange x s A = fnd A (-100001) := by unfold oChange; repeat (first | rw [if_pos (by omega)] | rw [if_neg (by omega)])
    exact ⟨_, rfl, by rw [e1]; rfl, by rw [e1]; exact rel_mfnd hR _⟩
  · refine r_iload_n C dX11_change_8 rfl ?_
    refine r_csi C dX11_change_9 ms_X11_184 (c_X11_isSheet e l _ _ (by omega)) (by decide) rfl rfl (Nat.le_of_ble_eq_true rfl) (fun z9 σ9 h9 => ?_)
    obtain ⟨rfl, rfl⟩ := h9
    refine r_ifb_ne 22 C dX11_change_12 (by decide) (fun h12 => ?_) (fun h12 => ?_)
    · have sm := sh_m hR hA (s := s) (by omega)
      refine r_aload_n C dX11_change_22 rfl ?_
      refine r_get_r (c := 1) C dX11_change_23 fl_X11_23 rfl rfl rfl (by decide) rfl ?_
      refine r_iload_n C dX11_change_26 rfl ?_
      refine r_iald (c := 1) (N := 4) C dX11_change_27 rfl rfl (by decide) (by omega) ?_
      have b27 := hb 5 0 s (by omega) (by omega)
      refine r_if_ne 38 C dX11_change_28 (by decide) (by omega) (fun h28 => ?_) (fun h28 => ?_)
      · refine r_aload_n C dX11_change_38 rfl ?_
        refine r_get_r (c := 1) C dX11_change_39 fl_X11_26 rfl rfl rfl (by decide) rfl ?_
        refine r_iload_n C dX11_change_42 rfl ?_
        refine r_iald (c := 1) (N := 4) C dX11_change_43 rfl rfl (by decide) (by omega) ?_
        have b43 := hb 6 0 s (by omega) (by omega)
        refine r_bipush C dX11_change_44 ?_
        refine r_ic_le 56 C dX11_change_46 (by decide) (by omega) (by omega) (fun h46 => ?_) (fun h46 => ?_)
        · refine r_aload_n C dX11_change_56 rfl ?_
          refine r_cvv (c := 1) C dX11_change_57 mv_X11_74 (c_X11_keep e l _ (by omega)) (by decide) rfl rfl rfl rfl (by decide) rfl rfl (Nat.le_of_ble_eq_true rfl) (fun σ57 h57 => ?_)
          have hk := kp_of (σ := σ) (by omega)
          rw [← h57] at hk
          have hbk : Bm σ57 := hk.2.2.2.2.2.2.1 hb
          have hlk : Bl σ57 := hk.2.2.2.2.2.2.2 hR.2.1
          have ek : ∀ j, σ57 1 0 j = σ 1 0 j := fun j => hk.1 _ _ _ (by omega) (by omega) (by omega)
          have ek2 : ∀ j, σ57 2 0 j = σ 2 0 j := fun j => hk.1 _ _ _ (by omega) (by omega) (by omega)
          refine r_lconst0 C dX11_change_60 ?_
          refine r_lstore_n C dX11_change_61 rfl rfl rfl (by decide) ?_
          refine r_iconst C dX11_change_62 ?_
          refine r_istore C dX11_change_63 rfl rfl (by decide) ?_
          have k6 : σ57 6 0 s = szA A s := by rw [hk.1 _ _ _ (by omega) (by omega) (by omega)]; exact sm.2.1
          refine lp_X11_change e l σ57 x s A hA (by omega) k6 (fun j j1 j2 => by rw [hk.1 _ _ _ (by omega) (by omega) (by omega)]; exact (hR.2.2.2.2.2.1 s (by omega) (by omega)).2.2 j j1 j2) (by omega) C (fun r y hr => ?_) (szA A s).toNat 0 _ (by omega) ⟨by omega, by decide, fun j q => by omega⟩
          have lm := ln_m hR hA (x := x) (by omega)
          have hrb := ro_b hr (by omega)
          have k16 : σ57 1 0 (16 + x) = ((lnAt A x).2.length : Int) := by rw [ek]; exact lm.2.1
          refine r_aload_n C dX11_change_105 rfl ?_
          refine r_aload_n C dX11_change_106 rfl ?_
          refine r_get_r (c := 1) C dX11_change_107 fl_X11_13 rfl rfl rfl (by decide) rfl ?_
          refine r_iload_n C dX11_change_110 rfl ?_
          refine r_lald (c := 1) (N := 12) C dX11_change_111 rfl rfl (by decide) (by omega) ?_
          refine r_vl (b := σ 2 0 x) (ek2 x) ?_
          refine r_aload_n C dX11_change_112 rfl ?_
          refine r_get_r (c := 1) C dX11_change_113 fl_X11_9 rfl rfl rfl (by decide) rfl ?_
          refine r_bipush C dX11_change_116 ?_
          refine r_iload_n C dX11_change_118 rfl ?_
          refine r_iadd C dX11_change_119 ?_
          refine r_iald (c := 1) (N := 365) C dX11_change_120 rfl rfl (by decide) (by omega) ?_
          refine r_v (b := ((lnAt A x).2.length : Int)) k16 ?_
          refine r_lload_n C dX11_change_121 rfl ?_
          refine r_aload_n C dX11_change_122 rfl ?_
          refine r_get_r (c := 1) C dX11_change_123 fl_X11_26 rfl rfl rfl (by decide) rfl ?_
          refine r_iload_n C dX11_change_126 rfl ?_
          refine r_iald (c := 1) (N := 4) C dX11_change_127 rfl rfl (by decide) (by omega) ?_
          refine r_v (b := szA A s) k6 ?_
          refine r_cvi (c := 1) C dX11_change_128 mv_X11_188 (c_X11_keptOf e l _ _ _ _ _ (hR.2.1 2 x (by omega)) hrb (by omega) (by omega) hbk) (by decide) rfl rfl rfl rfl (by decide) rfl rfl (Nat.le_of_ble_eq_true rfl) (fun z128 σ128 h128 => ?_)
          obtain ⟨hz, ha, hb2⟩ := h128
          refine r_istore C dX11_change_131 rfl rfl (by decide) ?_
          refine r_aload_n C dX11_change_133 rfl ?_
          refine r_get_r (c := 1) C dX11_change_134 fl_X11_13 rfl rfl rfl (by decide) rfl ?_
          refine r_iload_n C dX11_change_137 rfl ?_
          refine r_lload_n C dX11_change_138 rfl ?_
          refine r_last (c := 1) (N := 12) C dX11_change_139 rfl rfl (by decide) (by omega) ?_
          refine r_aload_n C dX11_change_140 rfl ?_
          refine r_get_r (c := 1) C dX11_change_141 fl_X11_9 rfl rfl rfl (by decide) rfl ?_
          refine r_bipush C dX11_change_144 ?_
          refine r_iload_n C dX11_change_146 rfl ?_
          refine r_iadd C dX11_change_147 ?_
          refine r_aload_n C dX11_change_148 rfl ?_
          refine r_get_r (c := 1) C dX11_change_149 fl_X11_26 rfl rfl rfl (by decide) rfl ?_
          refine r_iload_n C dX11_change_152 rfl ?_
          refine r_iald (c := 1) (N := 4) C dX11_change_153 rfl rfl (by decide) (by omega) ?_
          refine r_v (b := (σ128 6 0 s)) (by simp [qUp, qCpy]) ?_
          refine r_v (b := szA A s) (by rw [ha _ _ _ (by omega)]; exact k6) ?_
          refine r_iast (c := 1) (N := 365) C dX11_change_154 rfl rfl (by decide) (by omega) ?_
          refine r_iload C dX11_change_155 rfl ?_
          refine r_iret C dX11_change_157 ?_
          have e1 : oChange x s A = (lcs (frAt (lnAt A x)) (nuA A s) (lnAt A x).2.length (szA A s).toNat, psh A (12, x, 0, (lnAt A x).2) (sL A.1 (mdf (fun y => (y.1, rowA A s)) (cL A.1) x.toNat))) := by unfold oChange; rw [if_neg (by omega), if_neg (by omega), if_neg (by omega)]
          have r0 : RelM (qUp (qUp σ57 2 0 x r) 1 0 (16 + x) (szA A s)) (psh A (12, x, 0, (lnAt A x).2) (sL A.1 (mdf (fun y => (y.1, rowA A s)) (cL A.1) x.toNat))) := rel_mpsh hR hA hk (fun x b z q1 q2 => by (repeat rw [qUp_ne (by omega)])) (by (repeat (first | refine Bm.ul ?_ (by omega) | refine Bm.up ?_ (by omega))); exact hbk) (by (repeat (first | refine Bl.up ?_ (by omega) | refine Bl.ul ?_ (by omega))); exact hlk) (RN_row (F := fun y => (y.1, rowA A s)) hR.2.2.1 hA.1 (by omega) (ln_get (by omega)) rfl (by rw [qUp_eq]; exact (row_len A s (by omega)).symm) (fun j q => by rw [qUp_ne (by omega), qUp_ne (by omega)]; exact ek j) (fun j t ht => by obtain ⟨j1, j2⟩ := row_get (A := A) (s := s) ht; rw [qUp_ne (by omega), qUp_eq, j2]; exact hr.2.2 j (by omega)) (fun j q => by rw [qUp_ne (by omega), qUp_ne (by omega)]; exact ek2 j)) (un_change (by omega) (rowA A s))
          have r1 : RelM (qUp (qUp σ128 2 0 x r) 1 0 (16 + x) (szA A s)) (psh A (12, x, 0, (lnAt A x).2) (sL A.1 (mdf (fun y => (y.1, rowA A s)) (cL A.1) x.toNat))) := rel_mscr r0 (fun a b c q1 q2 => by unfold qUp; rw [ha a b c (by omega)]) ((hb2.ul (by omega)).up (by omega))
          exact ⟨_, rfl, by rw [e1, hz, Int.toNat_natCast]; exact lcs_cg (n := (lnAt A x).2.length) (m := (szA A s).toNat) (fun i q => (lm.2.2.2.2.2 i (by omega) (by omega)).1) (fun i q => hr.2.2 i q) _ _ _ (Nat.le_refl _) (Nat.le_refl _) (Nat.le_refl _), by rw [e1]; exact r1⟩
        · refine r_aload_n C dX11_change_49 rfl ?_
          refine r_ldc C dX11_change_50 kc_X11_92 ?_
          refine r_cvi (c := 1) C dX11_change_52 mv_X11_68 (c_X11_finding e l _ _) (by decide) rfl rfl rfl rfl (by decide) rfl rfl (Nat.le_of_ble_eq_true rfl) (fun z52 σ52 h52 => ?_)
          obtain ⟨rfl, rfl⟩ := h52
          refine r_iret C dX11_change_55 ?_
          have e1 : oChange x s A = fnd A (-100003) := by unfold oChange; repeat (first | rw [if_pos (by omega)] | rw [if_neg (by omega)])
          exact ⟨_, rfl, by rw [e1]; rfl, by rw [e1]; exact rel_mfnd hR _⟩
      · refine r_aload_n C dX11_change_31 rfl ?_
        refine r_ldc C dX11_change_32 kc_X11_187 ?_
        refine r_cvi (c := 1) C dX11_change_34 mv_X11_68 (c_X11_finding e l _ _) (by decide) rfl rfl rfl rfl (by decide) rfl rfl (Nat.le_of_ble_eq_true rfl) (fun z34 σ34 h34 => ?_)
        obtain ⟨rfl, rfl⟩ := h34
        refine r_iret C dX11_change_37 ?_
        have e1 : oChange x s A = fnd A (-100002) := by unfold oChange; repeat (first | rw [if_pos (by omega)] | rw [if_neg (by omega)])
        exact ⟨_, rfl, by rw [e1]; rfl, by rw [e1]; exact rel_mfnd hR _⟩
    · refine r_aload_n C dX11_change_15 rfl ?_
      refine r_ldc C dX11_change_16 kc_X11_72 ?_
      refine r_cvi (c := 1) C dX11_change_18 mv_X11_68 (c_X11_finding e l _ _) (by decide) rfl rfl rfl rfl (by decide) rfl rfl (Nat.le_of_ble_eq_true rfl) (fun z18 σ18 h18 => ?_)
      obtain ⟨rfl, rfl⟩ := h18
      refine r_iret C dX11_change_21 ?_
      have e1 : oChange x s A = fnd A (-100001) := by unfold oChange; repeat (first | rw [if_pos (by omega)] | rw [if_neg (by omega)])
      exact ⟨_, rfl, by rw [e1]; rfl, by rw [e1]; exact rel_mfnd hR _⟩
