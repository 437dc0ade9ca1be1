/-! the reference's calls: frames kept -/
theorem lcs_lip (o f : Int → Int) : ∀ (k i j : Nat), i + j ≤ k → lcs o f i j ≤ lcs o f (i + 1) j ∧ lcs o f (i + 1) j ≤ lcs o f i j + 1 ∧ lcs o f i j ≤ lcs o f i (j + 1) ∧ lcs o f i (j + 1) ≤ lcs o f i j + 1 := by
  intro k
  induction k with
  | zero =>
    intro i j h
    rw [show i = 0 by omega, show j = 0 by omega, lcs_0, lcs_z, lcs_0]
    omega
  | succ k ih =>
    intro i j h
    have A1 : lcs o f i j ≤ lcs o f (i + 1) j ∧ lcs o f (i + 1) j ≤ lcs o f i j + 1 := by
      cases j with
      | zero => rw [lcs_z, lcs_z]; omega
      | succ j =>
        have q := ih i j (by omega)
        rw [lcs_s]
        split <;> omega
    have A2 : lcs o f i j ≤ lcs o f i (j + 1) ∧ lcs o f i (j + 1) ≤ lcs o f i j + 1 := by
      cases i with
      | zero => rw [lcs_0, lcs_0]; omega
      | succ i =>
        have q := ih i j (by omega)
        rw [lcs_s]
        split <;> omega
    exact ⟨A1.1, A1.2, A2.1, A2.2⟩
def kI (σ : qSt) (o f : Int → Int) (m : Int) (i j : Nat) (σ1 : qSt) : Prop := (∀ (a : Nat) (b c : Int), a ≠ 14 → σ1 a b c = σ a b c) ∧ Bm σ1 ∧ ∀ s t : Nat, (s < i ∧ (t : Int) ≤ m) ∨ (s = i ∧ t < j) → σ1 14 0 (25 * (s : Int) + t) = lcs o f s t
theorem kI_step {σ σ1 : qSt} {o f : Int → Int} {m z x : Int} {i j : Nat} (h : kI σ o f m i j σ1) (hm : m ≤ 24) (hj : (j : Int) ≤ m) (hx : x = 25 * (i : Int) + j) (hz : z = lcs o f i j) : kI σ o f m i (j + 1) (qUp σ1 14 0 x z) := by
  obtain ⟨h1, h2, h3⟩ := h
  have hr := lcs_rng o f _ i j (Nat.le_refl _)
  refine ⟨fun a b c q => by rw [qUp_ne (by omega)]; exact h1 a b c q, h2.up (by omega), fun s t q => ?_⟩
  by_cases e : s = i ∧ t = j
  · obtain ⟨rfl, rfl⟩ := e
    rw [hx, qUp_eq, hz]
  · rw [qUp_ne (by omega)]
    exact h3 s t (by omega)
set_option maxRecDepth 20000 in
theorem c_X11_shapeIn (e : qR) (l : Launch) (σ : qSt) (g i : Int) (hg : 0 ≤ g ∧ g < 281474976710656) (hi : 0 ≤ i ∧ i < 32) : CM (EM e) l yX11_shapeIn cX11_shapeIn 3 (some .int) 2 [ql g, qi i] σ (Ri fun z σ' => z = dg g i ∧ σ = σ') := by
  refine CM.mk tM_ok (by decide +kernel) (Nat.le_of_ble_eq_true rfl) (fun G C => ?_)
  show G σ 0 [some (ql g), none, some (qi i)] []
  refine r_lload_n C dX11_shapeIn_0 rfl ?_
  refine r_iconst C dX11_shapeIn_1 ?_
  refine r_iload_n C dX11_shapeIn_2 rfl ?_
  refine r_imul C dX11_shapeIn_3 ?_
  refine r_lshr _ C dX11_shapeIn_4 (xl_shr (by omega) (by omega)) ?_
  refine r_ldc2 C dX11_shapeIn_5 kc_X11_81 ?_
  refine r_land _ C dX11_shapeIn_8 (xl_m3 (Int.ediv_nonneg hg.1 (Int.pow_nonneg (by decide)))) ?_
  refine r_l2i _ C dX11_shapeIn_9 (xl_l2i _) ?_
  refine r_iret C dX11_shapeIn_10 ?_
  exact ⟨_, rfl, by unfold dg; rw [p4, show (2 * i).toNat = 2 * i.toNat by omega], rfl⟩
set_option maxRecDepth 20000 in
theorem lp_X11_keptJ {G : qSt → Nat → List (Option qV) → List qV → Prop} {Ret : Option qV → qSt → Prop} (e : qR) (l : Launch) (σ : qSt) (g n h m : Int) (i : Nat) (hg : 0 ≤ g ∧ g < 281474976710656) (hh : 0 ≤ h ∧ h < 281474976710656) (hn : 0 ≤ n ∧ n ≤ 24) (hm : 0 ≤ m ∧ m ≤ 24) (hi : (i : Int) ≤ n) (C : Cx (EM e) l RX11 cX11_keptOf 11 (some .int) 4 Ret G) (hN : ∀ σ2 y o9 o10, kI σ (dg g) (dg h) m (i + 1) 0 σ2 → G σ2 135 [some (qr 0 0), some (ql g), none, some (qi n), some (ql h), none, some (qi m), some (qi (i : Int)), some (qi y), o9, o10] []) : ∀ (k : Nat) (j : Nat) (σ1 : qSt) (o9 o10 : Option qV), (j : Int) + (k : Int) = m + 1 → kI σ (dg g) (dg h) m i j σ1 → G σ1 12 [some (qr 0 0), some (ql g), none, some (qi n), some (ql h), none, some (qi m), some (qi (i : Int)), some (qi (j : Int)), o9, o10] [] := by
  intro k
  induction k with
  | zero =>
    intro j σ1 o9 o10 hm2 hI
    have hb1 := hI.2.1
    refine r_iload C dX11_keptOf_12 rfl ?_
    refine r_iload C dX11_keptOf_14 rfl ?_
    refine r_ic_gt 135 C dX11_keptOf_16 (by decide) (by omega) (by omega) (fun h16 => ?_) (fun h16 => ?_)
    · exact hN _ _ _ _ ⟨hI.1, hI.2.1, fun s t q => hI.2.2 s t (by omega)⟩
    · exfalso; omega
  | succ k ih =>
    intro j σ1 o9 o10 hm2 hI
    have hb1 := hI.2.1
    refine r_iload C dX11_keptOf_12 rfl ?_
    refine r_iload C dX11_keptOf_14 rfl ?_
    refine r_ic_gt 135 C dX11_keptOf_16 (by decide) (by omega) (by omega) (fun h16 => ?_) (fun h16 => ?_)
    · exfalso; omega
    · refine r_iconst C dX11_keptOf_19 ?_
      refine r_istore C dX11_keptOf_20 rfl rfl (by decide) ?_
      refine r_iload C dX11_keptOf_22 rfl ?_
      refine r_if_le 114 C dX11_keptOf_24 (by decide) (by omega) (fun h24 => ?_) (fun h24 => ?_)
      · have hvv : (0 : Int) = lcs (dg g) (dg h) i j := by
          rcases (by omega : i = 0 ∨ j = 0) with q | q
          · rw [q, lcs_0]
          · rw [q, lcs_z]
        refine r_aload_n C dX11_keptOf_114 rfl ?_
        refine r_get_r (c := 1) C dX11_keptOf_115 fl_X11_50 rfl rfl rfl (by decide) rfl ?_
        refine r_bipush C dX11_keptOf_118 ?_
        refine r_iload C dX11_keptOf_120 rfl ?_
        refine r_imul C dX11_keptOf_122 ?_
        refine r_iload C dX11_keptOf_123 rfl ?_
        refine r_iadd C dX11_keptOf_125 ?_
        refine r_iload C dX11_keptOf_126 rfl ?_
        refine r_iast (c := 1) (N := 625) C dX11_keptOf_128 rfl rfl (by decide) (by omega) ?_
        refine r_iinc C dX11_keptOf_129 rfl rfl rfl (by decide) ?_
        refine r_goto 12 C dX11_keptOf_132 (by decide) ?_
        exact ih (j + 1) _ _ _ (by push_cast; omega) (kI_step hI (by omega) (by omega) rfl hvv)
      · refine r_iload C dX11_keptOf_27 rfl ?_
        refine r_if_le 114 C dX11_keptOf_29 (by decide) (by omega) (fun h29 => ?_) (fun h29 => ?_)
        · have hvv : (0 : Int) = lcs (dg g) (dg h) i j := by
            rcases (by omega : i = 0 ∨ j = 0) with q | q
            · rw [q, lcs_0]
            · rw [q, lcs_z]
          refine r_aload_n C dX11_keptOf_114 rfl ?_
          refine r_get_r (c := 1) C dX11_keptOf_115 fl_X11_50 rfl rfl rfl (by decide) rfl ?_
          refine r_bipush C dX11_keptOf_118 ?_
          refine r_iload C dX11_keptOf_120 rfl ?_
          refine r_imul C dX11_keptOf_122 ?_
          refine r_iload C dX11_keptOf_123 rfl ?_
          refine r_iadd C dX11_keptOf_125 ?_
          refine r_iload C dX11_keptOf_126 rfl ?_
          refine r_iast (c := 1) (N := 625) C dX11_keptOf_128 rfl rfl (by decide) (by omega) ?_
          refine r_iinc C dX11_keptOf_129 rfl rfl rfl (by decide) ?_
          refine r_goto 12 C dX11_keptOf_132 (by decide) ?_
          exact ih (j + 1) _ _ _ (by push_cast; omega) (kI_step hI (by omega) (by omega) rfl hvv)
        · obtain ⟨i2, rfl⟩ : ∃ i2, i = i2 + 1 := ⟨i - 1, by omega⟩
          obtain ⟨j2, rfl⟩ : ∃ j2, j = j2 + 1 := ⟨j - 1, by omega⟩
          have c1 := hI.2.2 (i2 + 1) j2 (by omega)
          have c2 := hI.2.2 i2 (j2 + 1) (by omega)
          have c3 := hI.2.2 i2 j2 (by omega)
          have l1 := lcs_lip (dg g) (dg h) _ i2 j2 (Nat.le_refl _)
          have l2 := lcs_rng (dg g) (dg h) _ i2 j2 (Nat.le_refl _)
          have ls := lcs_s (dg g) (dg h) i2 j2
          refine r_bipush C dX11_keptOf_32 ?_
          refine r_iload C dX11_keptOf_34 rfl ?_
          refine r_imul C dX11_keptOf_36 ?_
          refine r_iload C dX11_keptOf_37 rfl ?_
          refine r_iadd C dX11_keptOf_39 ?_
          refine r_istore C dX11_keptOf_40 rfl rfl (by decide) ?_
          refine r_aload_n C dX11_keptOf_42 rfl ?_
          refine r_get_r (c := 1) C dX11_keptOf_43 fl_X11_50 rfl rfl rfl (by decide) rfl ?_
          refine r_iload C dX11_keptOf_46 rfl ?_
          refine r_iconst C dX11_keptOf_48 ?_
          refine r_isub C dX11_keptOf_49 ?_
          refine r_iald (c := 1) (N := 625) C dX11_keptOf_50 rfl rfl (by decide) (by omega) ?_
          refine r_v (b := lcs (dg g) (dg h) (i2 + 1) j2) (by rw [← c1]; congr 1; push_cast; omega) ?_
          refine r_aload_n C dX11_keptOf_51 rfl ?_
          refine r_get_r (c := 1) C dX11_keptOf_52 fl_X11_50 rfl rfl rfl (by decide) rfl ?_
          refine r_iload C dX11_keptOf_55 rfl ?_
          refine r_bipush C dX11_keptOf_57 ?_
          refine r_isub C dX11_keptOf_59 ?_
          refine r_iconst C dX11_keptOf_60 ?_
          refine r_isub C dX11_keptOf_61 ?_
          refine r_iald (c := 1) (N := 625) C dX11_keptOf_62 rfl rfl (by decide) (by omega) ?_
          refine r_v (b := lcs (dg g) (dg h) i2 (j2 + 1)) (by rw [← c2]; congr 1; push_cast; omega) ?_
          refine r_csi C dX11_keptOf_63 ms_X11_177 (c_max (EM e) tM_ok l _ _ _ (by omega) (by omega)) (by decide) rfl rfl (Nat.le_of_ble_eq_true rfl) (fun z63 σ63 h63 => ?_)
          obtain ⟨rfl, rfl⟩ := h63
          refine r_istore C dX11_keptOf_66 rfl rfl (by decide) ?_
          refine r_lload_n C dX11_keptOf_68 rfl ?_
          refine r_iload C dX11_keptOf_69 rfl ?_
          refine r_iconst C dX11_keptOf_71 ?_
          refine r_isub C dX11_keptOf_72 ?_
          refine r_csi C dX11_keptOf_73 ms_X11_180 (c_X11_shapeIn e l _ _ _ (by omega) (by push_cast; omega)) (by decide) rfl rfl (Nat.le_of_ble_eq_true rfl) (fun z73 σ73 h73 => ?_)
          obtain ⟨hz73, rfl⟩ := h73
          have dr73 : 0 ≤ z73 ∧ z73 < 4 := by rw [hz73]; exact dg_r _ _
          refine r_lload C dX11_keptOf_76 rfl ?_
          refine r_iload C dX11_keptOf_78 rfl ?_
          refine r_iconst C dX11_keptOf_80 ?_
          refine r_isub C dX11_keptOf_81 ?_
          refine r_csi C dX11_keptOf_82 ms_X11_180 (c_X11_shapeIn e l _ _ _ (by omega) (by push_cast; omega)) (by decide) rfl rfl (Nat.le_of_ble_eq_true rfl) (fun z82 σ82 h82 => ?_)
          obtain ⟨hz82, rfl⟩ := h82
          have dr82 : 0 ≤ z82 ∧ z82 < 4 := by rw [hz82]; exact dg_r _ _
          refine r_ic_ne 110 C dX11_keptOf_85 (by decide) (by omega) (by omega) (fun h85 => ?_) (fun h85 => ?_)
          · have hvv : max (lcs (dg g) (dg h) (i2 + 1) j2) (lcs (dg g) (dg h) i2 (j2 + 1)) = lcs (dg g) (dg h) (i2 + 1) (j2 + 1) := by
              rw [ls, if_neg (fun q => h85 (by rw [hz73, hz82]; refine Eq.trans ?_ (q.trans ?_) <;> (congr 1; push_cast; omega)))]; omega
            refine r_iload C dX11_keptOf_110 rfl ?_
            refine r_istore C dX11_keptOf_112 rfl rfl (by decide) ?_
            refine r_aload_n C dX11_keptOf_114 rfl ?_
            refine r_get_r (c := 1) C dX11_keptOf_115 fl_X11_50 rfl rfl rfl (by decide) rfl ?_
            refine r_bipush C dX11_keptOf_118 ?_
            refine r_iload C dX11_keptOf_120 rfl ?_
            refine r_imul C dX11_keptOf_122 ?_
            refine r_iload C dX11_keptOf_123 rfl ?_
            refine r_iadd C dX11_keptOf_125 ?_
            refine r_iload C dX11_keptOf_126 rfl ?_
            refine r_iast (c := 1) (N := 625) C dX11_keptOf_128 rfl rfl (by decide) (by omega) ?_
            refine r_iinc C dX11_keptOf_129 rfl rfl rfl (by decide) ?_
            refine r_goto 12 C dX11_keptOf_132 (by decide) ?_
            exact ih ((j2 + 1) + 1) _ _ _ (by push_cast; omega) (kI_step hI (by omega) (by omega) rfl hvv)
          · have hvv : max (max (lcs (dg g) (dg h) (i2 + 1) j2) (lcs (dg g) (dg h) i2 (j2 + 1))) (lcs (dg g) (dg h) i2 j2 + 1) = lcs (dg g) (dg h) (i2 + 1) (j2 + 1) := by
              have q85 : z73 = z82 := by omega
              rw [ls, if_pos (by rw [hz73, hz82] at q85; refine Eq.trans ?_ (q85.trans ?_) <;> (congr 1; push_cast; omega))]; omega
            refine r_iload C dX11_keptOf_88 rfl ?_
            refine r_aload_n C dX11_keptOf_90 rfl ?_
            refine r_get_r (c := 1) C dX11_keptOf_91 fl_X11_50 rfl rfl rfl (by decide) rfl ?_
            refine r_iload C dX11_keptOf_94 rfl ?_
            refine r_bipush C dX11_keptOf_96 ?_
            refine r_isub C dX11_keptOf_98 ?_
            refine r_iconst C dX11_keptOf_99 ?_
            refine r_isub C dX11_keptOf_100 ?_
            refine r_iald (c := 1) (N := 625) C dX11_keptOf_101 rfl rfl (by decide) (by omega) ?_
            refine r_v (b := lcs (dg g) (dg h) i2 j2) (by rw [← c3]; congr 1; push_cast; omega) ?_
            refine r_iconst C dX11_keptOf_102 ?_
            refine r_iadd C dX11_keptOf_103 ?_
            refine r_csi C dX11_keptOf_104 ms_X11_177 (c_max (EM e) tM_ok l _ _ _ (by omega) (by omega)) (by decide) rfl rfl (Nat.le_of_ble_eq_true rfl) (fun z104 σ104 h104 => ?_)
            obtain ⟨rfl, rfl⟩ := h104
            refine r_goto 112 C dX11_keptOf_107 (by decide) ?_
            refine r_istore C dX11_keptOf_112 rfl rfl (by decide) ?_
            refine r_aload_n C dX11_keptOf_114 rfl ?_
            refine r_get_r (c := 1) C dX11_keptOf_115 fl_X11_50 rfl rfl rfl (by decide) rfl ?_
            refine r_bipush C dX11_keptOf_118 ?_
            refine r_iload C dX11_keptOf_120 rfl ?_
            refine r_imul C dX11_keptOf_122 ?_
            refine r_iload C dX11_keptOf_123 rfl ?_
            refine r_iadd C dX11_keptOf_125 ?_
            refine r_iload C dX11_keptOf_126 rfl ?_
            refine r_iast (c := 1) (N := 625) C dX11_keptOf_128 rfl rfl (by decide) (by omega) ?_
            refine r_iinc C dX11_keptOf_129 rfl rfl rfl (by decide) ?_
            refine r_goto 12 C dX11_keptOf_132 (by decide) ?_
            exact ih ((j2 + 1) + 1) _ _ _ (by push_cast; omega) (kI_step hI (by omega) (by omega) rfl hvv)
set_option maxRecDepth 20000 in
theorem lp_X11_keptI {G : qSt → Nat → List (Option qV) → List qV → Prop} {Ret : Option qV → qSt → Prop} (e : qR) (l : Launch) (σ : qSt) (g n h m : Int) (hg : 0 ≤ g ∧ g < 281474976710656) (hh : 0 ≤ h ∧ h < 281474976710656) (hn : 0 ≤ n ∧ n ≤ 24) (hm : 0 ≤ m ∧ m ≤ 24) (C : Cx (EM e) l RX11 cX11_keptOf 11 (some .int) 4 Ret G) (hN : ∀ σ2, kI σ (dg g) (dg h) m (n + 1).toNat 0 σ2 → Ret (some (qi (σ2 14 0 (25 * n + m)))) σ2) : ∀ (k : Nat) (i : Nat) (σ1 : qSt) (o8 o9 o10 : Option qV), (i : Int) + (k : Int) = n + 1 → kI σ (dg g) (dg h) m i 0 σ1 → G σ1 3 [some (qr 0 0), some (ql g), none, some (qi n), some (ql h), none, some (qi m), some (qi (i : Int)), o8, o9, o10] [] := by
  intro k
  induction k with
  | zero =>
    intro i σ1 o8 o9 o10 hm2 hI
    refine r_iload C dX11_keptOf_3 rfl ?_
    refine r_iload_n C dX11_keptOf_5 rfl ?_
    refine r_ic_gt 141 C dX11_keptOf_6 (by decide) (by omega) (by omega) (fun h6 => ?_) (fun h6 => ?_)
    · refine r_aload_n C dX11_keptOf_141 rfl ?_
      refine r_get_r (c := 1) C dX11_keptOf_142 fl_X11_50 rfl rfl rfl (by decide) rfl ?_
      refine r_bipush C dX11_keptOf_145 ?_
      refine r_iload_n C dX11_keptOf_147 rfl ?_
      refine r_imul C dX11_keptOf_148 ?_
      refine r_iload C dX11_keptOf_149 rfl ?_
      refine r_iadd C dX11_keptOf_151 ?_
      refine r_iald (c := 1) (N := 625) C dX11_keptOf_152 rfl rfl (by decide) (by omega) ?_
      refine r_iret C dX11_keptOf_153 ?_
      rw [show i = (n + 1).toNat by omega] at hI
      exact hN _ hI
    · exfalso; omega
  | succ k ih =>
    intro i σ1 o8 o9 o10 hm2 hI
    refine r_iload C dX11_keptOf_3 rfl ?_
    refine r_iload_n C dX11_keptOf_5 rfl ?_
    refine r_ic_gt 141 C dX11_keptOf_6 (by decide) (by omega) (by omega) (fun h6 => ?_) (fun h6 => ?_)
    · exfalso; omega
    · refine r_iconst C dX11_keptOf_9 ?_
      refine r_istore C dX11_keptOf_10 rfl rfl (by decide) ?_
      refine lp_X11_keptJ e l σ g n h m i hg hh hn hm (by omega) C (fun σ2 y o9 o10 hI2 => ?_) (m + 1).toNat 0 _ _ _ (by omega) hI
      refine r_iinc C dX11_keptOf_135 rfl rfl rfl (by decide) ?_
      refine r_goto 3 C dX11_keptOf_138 (by decide) ?_
      exact ih (i + 1) _ _ _ _ (by push_cast; omega) hI2
set_option maxRecDepth 20000 in
theorem c_X11_keptOf (e : qR) (l : Launch) (σ : qSt) (g n h m : Int) (hg : 0 ≤ g ∧ g < 281474976710656) (hh : 0 ≤ h ∧ h < 281474976710656) (hn : 0 ≤ n ∧ n ≤ 24) (hm : 0 ≤ m ∧ m ≤ 24) (hb : Bm σ) : CM (EM e) l yX11_keptOf cX11_keptOf 11 (some .int) 4 [qr 0 0, ql g, qi n, ql h, qi m] σ (Ri fun z σ' => z = lcs (dg g) (dg h) n.toNat m.toNat ∧ (∀ (a : Nat) (b c : Int), a ≠ 14 → σ' a b c = σ a b c) ∧ Bm σ') := by
  refine CM.mk tM_ok (by decide +kernel) (Nat.le_of_ble_eq_true rfl) (fun G C => ?_)
  show G σ 0 [some (qr 0 0), some (ql g), none, some (qi n), some (ql h), none, some (qi m), none, none, none, none] []
  refine r_iconst C dX11_keptOf_0 ?_
  refine r_istore C dX11_keptOf_1 rfl rfl (by decide) ?_
  exact lp_X11_keptI e l σ g n h m hg hh hn hm C (fun σ2 h2 => ⟨_, rfl, by have q := h2.2.2 n.toNat m.toNat (by omega); rw [Int.toNat_of_nonneg hn.1, Int.toNat_of_nonneg hm.1] at q; exact q, h2.1, h2.2.1⟩) (n + 1).toNat 0 _ _ _ _ (by omega) ⟨fun _ _ _ _ => rfl, hb, fun s t q => by omega⟩
set_option maxRecDepth 20000 in
theorem m_kept (e : qR) (l : Launch) (σ : qSt) (x y : Int) (A : aSt) (hR : RelM σ A) (hA : AOk A) (h_x : InI x) (h_y : InI y)  : CM (EM e) l yX11_kept cX11_kept 3 (some .int) 20 [qr 0 0, qi x, qi y] σ (Ri fun z σ' => z = (oKept x y A).1 ∧ RelM σ' (oKept x y A).2) := by
  refine CM.mk tM_ok (by decide +kernel) (Nat.le_of_ble_eq_true rfl) (fun G C => ?_)
  show G σ 0 [some (qr 0 0), some (qi x), some (qi y)] []
  obtain ⟨hb, e0, n0, m0, e1w, n1, m1, e2t, n2, m2, e3l, n3, m3, hk0, hk20⟩ := mF hR hA
  refine r_aload_n C dX11_kept_0 rfl ?_
  refine r_iload_n C dX11_kept_1 rfl ?_
  refine r_cvi (c := 1) C dX11_kept_2 mv_X11_77 (c_X11_isLine e l _ _ hb (by omega)) (by decide) rfl rfl rfl rfl (by decide) rfl rfl (Nat.le_of_ble_eq_true rfl) (fun z2 σ2 h2 => ?_)
  obtain ⟨rfl, rfl⟩ := h2
  refine r_ifb_eq 16 C dX11_kept_5 (by decide) (fun h5 => ?_) (fun h5 => ?_)
  · refine r_aload_n C dX11_kept_16 rfl ?_
    refine r_ldc C dX11_kept_17 kc_X11_72 ?_
    refine r_cvi (c := 1) C dX11_kept_19 mv_X11_68 (c_X11_finding e l _ _) (by decide) rfl rfl rfl rfl (by decide) rfl rfl (Nat.le_of_ble_eq_true rfl) (fun z19 σ19 h19 => ?_)
    obtain ⟨rfl, rfl⟩ := h19
    refine r_iret C dX11_kept_22 ?_
    have e1 : oKept x y A = fnd A (-100001) := by unfold oKept; repeat (first | rw [if_pos (by omega)] | rw [if_neg (by omega)])
    exact ⟨_, rfl, by rw [e1]; rfl, by rw [e1]; exact rel_mfnd hR _⟩
  · refine r_aload_n C dX11_kept_8 rfl ?_
    refine r_iload_n C dX11_kept_9 rfl ?_
    refine r_cvi (c := 1) C dX11_kept_10 mv_X11_77 (c_X11_isLine e l _ _ hb (by omega)) (by decide) rfl rfl rfl rfl (by decide) rfl rfl (Nat.le_of_ble_eq_true rfl) (fun z10 σ10 h10 => ?_)
    obtain ⟨rfl, rfl⟩ := h10
    refine r_ifb_ne 23 C dX11_kept_13 (by decide) (fun h13 => ?_) (fun h13 => ?_)
    · have lm := ln_m hR hA (x := x) (by omega)
      have ln := ln_m hR hA (x := y) (by omega)
      refine r_aload_n C dX11_kept_23 rfl ?_
      refine r_aload_n C dX11_kept_24 rfl ?_
      refine r_get_r (c := 1) C dX11_kept_25 fl_X11_13 rfl rfl rfl (by decide) rfl ?_
      refine r_iload_n C dX11_kept_28 rfl ?_
      refine r_lald (c := 1) (N := 12) C dX11_kept_29 rfl rfl (by decide) (by omega) ?_
      refine r_aload_n C dX11_kept_30 rfl ?_
      refine r_get_r (c := 1) C dX11_kept_31 fl_X11_9 rfl rfl rfl (by decide) rfl ?_
      refine r_bipush C dX11_kept_34 ?_
      refine r_iload_n C dX11_kept_36 rfl ?_
      refine r_iadd C dX11_kept_37 ?_
      refine r_iald (c := 1) (N := 365) C dX11_kept_38 rfl rfl (by decide) (by omega) ?_
      have b38 := hb 1 0 (16 + x) (by omega) (by omega)
      refine r_aload_n C dX11_kept_39 rfl ?_
      refine r_get_r (c := 1) C dX11_kept_40 fl_X11_13 rfl rfl rfl (by decide) rfl ?_
      refine r_iload_n C dX11_kept_43 rfl ?_
      refine r_lald (c := 1) (N := 12) C dX11_kept_44 rfl rfl (by decide) (by omega) ?_
      refine r_aload_n C dX11_kept_45 rfl ?_
      refine r_get_r (c := 1) C dX11_kept_46 fl_X11_9 rfl rfl rfl (by decide) rfl ?_
      refine r_bipush C dX11_kept_49 ?_
      refine r_iload_n C dX11_kept_51 rfl ?_
      refine r_iadd C dX11_kept_52 ?_
      refine r_iald (c := 1) (N := 365) C dX11_kept_53 rfl rfl (by decide) (by omega) ?_
      have b53 := hb 1 0 (16 + y) (by omega) (by omega)
      refine r_cvi (c := 1) C dX11_kept_54 mv_X11_188 (c_X11_keptOf e l _ _ _ _ _ (hR.2.1 2 x (by omega)) (hR.2.1 2 y (by omega)) (by omega) (by omega) hb) (by decide) rfl rfl rfl rfl (by decide) rfl rfl (Nat.le_of_ble_eq_true rfl) (fun z54 σ54 h54 => ?_)
      obtain ⟨hz, ha, hb2⟩ := h54
      refine r_iret C dX11_kept_57 ?_
      have e1 : oKept x y A = (lcs (frAt (lnAt A x)) (frAt (lnAt A y)) (lnAt A x).2.length (lnAt A y).2.length, A) := by unfold oKept; repeat (first | rw [if_pos (by omega)] | rw [if_neg (by omega)])
      exact ⟨_, rfl, by rw [e1, hz, lm.2.1, ln.2.1, Int.toNat_natCast, Int.toNat_natCast]; exact lcs_cg (n := (lnAt A x).2.length) (m := (lnAt A y).2.length) (fun i q => (lm.2.2.2.2.2 i (by omega) (by omega)).1) (fun i q => (ln.2.2.2.2.2 i (by omega) (by omega)).1) _ _ _ (Nat.le_refl _) (Nat.le_refl _) (Nat.le_refl _), by rw [e1]; exact rel_mscr hR (fun a b c q1 q2 => ha a b c (by omega)) hb2⟩
    · refine r_aload_n C dX11_kept_16 rfl ?_
      refine r_ldc C dX11_kept_17 kc_X11_72 ?_
      refine r_cvi (c := 1) C dX11_kept_19 mv_X11_68 (c_X11_finding e l _ _) (by decide) rfl rfl rfl rfl (by decide) rfl rfl (Nat.le_of_ble_eq_true rfl) (fun z19 σ19 h19 => ?_)
      obtain ⟨rfl, rfl⟩ := h19
      refine r_iret C dX11_kept_22 ?_
      have e1 : oKept x y A = fnd A (-100001) := by unfold oKept; repeat (first | rw [if_pos (by omega)] | rw [if_neg (by omega)])
      exact ⟨_, rfl, by rw [e1]; rfl, by rw [e1]; exact rel_mfnd hR _⟩
