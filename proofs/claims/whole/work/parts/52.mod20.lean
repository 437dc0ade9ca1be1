set_option maxRecDepth 20000 in
theorem lp_X11_clK {G : qSt → Nat → List (Option qV) → List qV → Prop} {Ret : Option qV → qSt → Prop} (e : qR) (l : Launch) (σ : qSt) (P n : Int) (N O Mi R : Int → Int) (hn : 0 ≤ n ∧ n ≤ 7) (hP : 0 ≤ P ∧ P < 16384) (hT : ∀ j, 0 ≤ j → j < n → σ 11 0 j = N j ∧ σ 12 0 j = O j ∧ σ 13 0 j = Mi j ∧ 0 ≤ N j ∧ N j < 256 ∧ 0 ≤ O j ∧ O j < 16 ∧ 0 ≤ Mi j ∧ Mi j ≤ 60) (cc d : Int) (hd : 0 ≤ d ∧ d < 4) (C : Cx (EM e) l RX11 cX11_callsOf 8 (some .int) 4 Ret G) (hN : ∀ c mi y, clK N O Mi (dPl n P) d n.toNat = (true, c, mi) → (0 ≤ c ∧ c < 256) → (0 ≤ mi ∧ mi ≤ 420) → G σ 100 [some (qr 0 0), some (qi P), some (qi n), some (qi cc), some (qi d), some (qi c), some (qi mi), some (qi y)] []) (hE : (clK N O Mi (dPl n P) d n.toNat).1 = false → Ret (some (qi (-1))) σ) : ∀ (k : Nat) (m : Nat) (c mi : Int), (m : Int) + (k : Int) = n → clK N O Mi (dPl n P) d m = (true, c, mi) → (0 ≤ c ∧ c < 256) → (0 ≤ mi ∧ mi ≤ 60 * (m : Int)) → G σ 27 [some (qr 0 0), some (qi P), some (qi n), some (qi cc), some (qi d), some (qi c), some (qi mi), some (qi (m : Int))] [] := by
  intro k
  induction k with
  | zero =>
    intro m c mi hm hI hc hmi
    refine r_iload C dX11_callsOf_27 rfl ?_
    refine r_iload_n C dX11_callsOf_29 rfl ?_
    refine r_ic_ge 100 C dX11_callsOf_30 (by decide) (by omega) (by omega) (fun h30 => ?_) (fun h30 => ?_)
    · rw [show m = n.toNat by omega] at hI
      exact hN _ _ _ hI hc (by omega)
    · exfalso; omega
  | succ k ih =>
    intro m c mi hm hI hc hmi
    refine r_iload C dX11_callsOf_27 rfl ?_
    refine r_iload_n C dX11_callsOf_29 rfl ?_
    refine r_ic_ge 100 C dX11_callsOf_30 (by decide) (by omega) (by omega) (fun h30 => ?_) (fun h30 => ?_)
    · exfalso; omega
    · have tm := hT m (by omega) (by omega)
      refine r_iload_n C dX11_callsOf_33 rfl ?_
      refine r_iconst C dX11_callsOf_34 ?_
      refine r_iload_n C dX11_callsOf_35 rfl ?_
      refine r_iconst C dX11_callsOf_36 ?_
      refine r_isub C dX11_callsOf_37 ?_
      refine r_iload C dX11_callsOf_38 rfl ?_
      refine r_isub C dX11_callsOf_40 ?_
      refine r_imul C dX11_callsOf_41 ?_
      refine r_ishr _ C dX11_callsOf_42 (z_shr (by omega) (by omega)) ?_
      refine r_iconst C dX11_callsOf_43 ?_
      refine r_iand _ C dX11_callsOf_44 (z_mask _ 2 4 rfl (by decide) (by decide)) ?_
      refine r_v (b := dPl n P m) rfl ?_
      have dr : 0 ≤ dPl n P m ∧ dPl n P m < 4 := by unfold dPl; omega
      refine r_iload C dX11_callsOf_45 rfl ?_
      refine r_ic_eq 53 C dX11_callsOf_47 (by decide) (by omega) (by omega) (fun h47 => ?_) (fun h47 => ?_)
      · refine r_aload_n C dX11_callsOf_53 rfl ?_
        refine r_get_r (c := 1) C dX11_callsOf_54 fl_X11_44 rfl rfl rfl (by decide) rfl ?_
        refine r_iload C dX11_callsOf_57 rfl ?_
        refine r_iald (c := 1) (N := 7) C dX11_callsOf_59 rfl rfl (by decide) (by omega) ?_
        refine r_iload C dX11_callsOf_60 rfl ?_
        refine r_ishr _ C dX11_callsOf_62 (z_shr (by omega) (by omega)) ?_
        refine r_iconst C dX11_callsOf_63 ?_
        refine r_iand _ C dX11_callsOf_64 z_bit ?_
        refine r_if_ne 70 C dX11_callsOf_65 (by decide) (by omega) (fun h65 => ?_) (fun h65 => ?_)
        · refine r_iload C dX11_callsOf_70 rfl ?_
          refine r_aload_n C dX11_callsOf_72 rfl ?_
          refine r_get_r (c := 1) C dX11_callsOf_73 fl_X11_41 rfl rfl rfl (by decide) rfl ?_
          refine r_iload C dX11_callsOf_76 rfl ?_
          refine r_iald (c := 1) (N := 7) C dX11_callsOf_78 rfl rfl (by decide) (by omega) ?_
          refine r_ior _ C dX11_callsOf_79 (bor_v (by omega) (by omega)) ?_
          refine r_istore C dX11_callsOf_80 rfl rfl (by decide) ?_
          refine r_iload C dX11_callsOf_82 rfl ?_
          refine r_aload_n C dX11_callsOf_84 rfl ?_
          refine r_get_r (c := 1) C dX11_callsOf_85 fl_X11_47 rfl rfl rfl (by decide) rfl ?_
          refine r_iload C dX11_callsOf_88 rfl ?_
          refine r_iald (c := 1) (N := 7) C dX11_callsOf_90 rfl rfl (by decide) (by omega) ?_
          refine r_iadd C dX11_callsOf_91 ?_
          refine r_istore C dX11_callsOf_92 rfl rfl (by decide) ?_
          refine r_iinc C dX11_callsOf_94 rfl rfl rfl (by decide) ?_
          refine r_goto 27 C dX11_callsOf_97 (by decide) ?_
          have ek : clK N O Mi (dPl n P) d (m + 1) = (true, bor c (σ 11 0 m), mi + σ 13 0 m) := by
            simp only [clK]
            rw [if_pos (by omega), hI, tm.1, tm.2.2.1]
            simp only [Bool.true_and]
            rw [decide_eq_true (show O m / 2 ^ d.toNat % 2 ≠ 0 by rw [← tm.2.1]; omega)]
          exact ih (m + 1) _ _ (by push_cast; omega) ek (bor_r (by omega) (by omega)) (by push_cast; omega)
        · refine r_iconst C dX11_callsOf_68 ?_
          refine r_iret C dX11_callsOf_69 ?_
          refine hE (clK_no (m := m + 1) ?_ _ (by omega))
          simp only [clK]
          rw [if_pos (by omega), ← tm.2.1]
          simp only
          rw [decide_eq_false (by omega), Bool.and_false]
      · refine r_goto 94 C dX11_callsOf_50 (by decide) ?_
        refine r_iinc C dX11_callsOf_94 rfl rfl rfl (by decide) ?_
        refine r_goto 27 C dX11_callsOf_97 (by decide) ?_
        have ek : clK N O Mi (dPl n P) d (m + 1) = (true, c, mi) := by simp only [clK]; rw [if_neg (by omega)]; exact hI
        exact ih (m + 1) _ _ (by push_cast; omega) ek (by omega) (by push_cast; omega)
set_option maxRecDepth 20000 in
theorem lp_X11_clS {G : qSt → Nat → List (Option qV) → List qV → Prop} {Ret : Option qV → qSt → Prop} (e : qR) (l : Launch) (σ : qSt) (P n : Int) (N O Mi R : Int → Int) (hn : 0 ≤ n ∧ n ≤ 7) (hP : 0 ≤ P ∧ P < 16384) (hT : ∀ j, 0 ≤ j → j < n → σ 11 0 j = N j ∧ σ 12 0 j = O j ∧ σ 13 0 j = Mi j ∧ 0 ≤ N j ∧ N j < 256 ∧ 0 ≤ O j ∧ O j < 16 ∧ 0 ≤ Mi j ∧ Mi j ≤ 60) (hRm : ∀ d : Nat, d < 4 → σ 1 0 (354 + d) = R d ∧ 0 ≤ R d ∧ R d ≤ 100) (C : Cx (EM e) l RX11 cX11_callsOf 8 (some .int) 4 Ret G) (hN : Ret (some (qi (clS N O Mi R (dPl n P) n.toNat 4))) σ) : ∀ (k : Nat) (m : Nat) (cc : Int) (o5 o6 o7 : Option qV), (m : Int) + (k : Int) = 4 → cc = clS N O Mi R (dPl n P) n.toNat m → (0 ≤ cc ∧ cc ≤ 12 * (m : Int)) → G σ 12 [some (qr 0 0), some (qi P), some (qi n), some (qi cc), some (qi (m : Int)), o5, o6, o7] [] := by
  intro k
  induction k with
  | zero =>
    intro m cc o5 o6 o7 hm hI hcc
    refine r_iload C dX11_callsOf_12 rfl ?_
    refine r_iconst C dX11_callsOf_14 ?_
    refine r_ic_ge 132 C dX11_callsOf_15 (by decide) (by omega) (by omega) (fun h15 => ?_) (fun h15 => ?_)
    · refine r_iload_n C dX11_callsOf_132 rfl ?_
      refine r_iret C dX11_callsOf_133 ?_
      rw [show (4 : Nat) = m by omega, ← hI] at hN
      exact hN
    · exfalso; omega
  | succ k ih =>
    intro m cc o5 o6 o7 hm hI hcc
    refine r_iload C dX11_callsOf_12 rfl ?_
    refine r_iconst C dX11_callsOf_14 ?_
    refine r_ic_ge 132 C dX11_callsOf_15 (by decide) (by omega) (by omega) (fun h15 => ?_) (fun h15 => ?_)
    · exfalso; omega
    · refine r_iconst C dX11_callsOf_18 ?_
      refine r_istore C dX11_callsOf_19 rfl rfl (by decide) ?_
      refine r_iconst C dX11_callsOf_21 ?_
      refine r_istore C dX11_callsOf_22 rfl rfl (by decide) ?_
      refine r_iconst C dX11_callsOf_24 ?_
      refine r_istore C dX11_callsOf_25 rfl rfl (by decide) ?_
      refine lp_X11_clK e l σ P n N O Mi R hn hP hT cc (m : Int) (by omega) C (fun c mi y hI2 hc hmi => ?_) (fun hf => ?_) n.toNat 0 _ _ (by omega) rfl (by omega) (by omega)
      focus
        have e2 := hRm m (by omega)
        refine r_iload C dX11_callsOf_100 rfl ?_
        refine r_aload_n C dX11_callsOf_102 rfl ?_
        refine r_get_r (c := 1) C dX11_callsOf_103 fl_X11_9 rfl rfl rfl (by decide) rfl ?_
        refine r_sipush C dX11_callsOf_106 ?_
        refine r_iload C dX11_callsOf_109 rfl ?_
        refine r_iadd C dX11_callsOf_111 ?_
        refine r_iald (c := 1) (N := 365) C dX11_callsOf_112 rfl rfl (by decide) (by omega) ?_
        refine r_ic_le 118 C dX11_callsOf_113 (by decide) (by omega) (by omega) (fun h113 => ?_) (fun h113 => ?_)
        · refine r_iload_n C dX11_callsOf_118 rfl ?_
          refine r_iload C dX11_callsOf_119 rfl ?_
          refine r_csi C dX11_callsOf_121 ms_X11_156 (c_X11_many e l _ _ (by omega)) (by decide) rfl rfl (Nat.le_of_ble_eq_true rfl) (fun z121 σ121 h121 => ?_)
          obtain ⟨rfl, rfl⟩ := h121
          refine r_iadd C dX11_callsOf_124 ?_
          refine r_istore_n C dX11_callsOf_125 rfl rfl (by decide) ?_
          refine r_iinc C dX11_callsOf_126 rfl rfl rfl (by decide) ?_
          refine r_goto 12 C dX11_callsOf_129 (by decide) ?_
          have e3 : clS N O Mi R (dPl n P) n.toNat (m + 1) = cc + pop12 c := by simp only [clS]; rw [if_neg (by omega), if_pos (by rw [hI2]; exact ⟨rfl, by show mi ≤ R m; omega⟩), hI2, hI]
          have pr := pop12_r (z := c) (by omega)
          exact ih (m + 1) _ _ _ _ (by push_cast; omega) e3.symm (by push_cast; omega)
        · refine r_iconst C dX11_callsOf_116 ?_
          refine r_iret C dX11_callsOf_117 ?_
          have e3 : clS N O Mi R (dPl n P) n.toNat (m + 1) = -1 := by simp only [clS]; rw [if_neg (by omega), if_neg (fun u => by rw [hI2] at u; have u2 : mi ≤ R m := u.2; omega)]
          have e4 : clS N O Mi R (dPl n P) n.toNat 4 = -1 := clS_m1 4 (clS_no (m := m + 1) (show clS N O Mi R (dPl n P) n.toNat (m + 1) < 0 by omega) 4 (by omega))
          rw [e4] at hN
          exact hN
      have e3 : clS N O Mi R (dPl n P) n.toNat (m + 1) = -1 := by simp only [clS]; rw [if_neg (by omega), if_neg (fun u => by rw [hf] at u; exact absurd u.1 (by decide))]
      have e4 : clS N O Mi R (dPl n P) n.toNat 4 = -1 := clS_m1 4 (clS_no (m := m + 1) (show clS N O Mi R (dPl n P) n.toNat (m + 1) < 0 by omega) 4 (by omega))
      rw [e4] at hN
      exact hN
set_option maxRecDepth 20000 in
theorem c_X11_callsOf (e : qR) (l : Launch) (σ : qSt) (P : Int) (n : Int) (he : σ 1 0 3 = n) (N O Mi R : Int → Int) (hn : 0 ≤ n ∧ n ≤ 7) (hP : 0 ≤ P ∧ P < 16384) (hT : ∀ j, 0 ≤ j → j < n → σ 11 0 j = N j ∧ σ 12 0 j = O j ∧ σ 13 0 j = Mi j ∧ 0 ≤ N j ∧ N j < 256 ∧ 0 ≤ O j ∧ O j < 16 ∧ 0 ≤ Mi j ∧ Mi j ≤ 60) (hRm : ∀ d : Nat, d < 4 → σ 1 0 (354 + d) = R d ∧ 0 ≤ R d ∧ R d ≤ 100) : CM (EM e) l yX11_callsOf cX11_callsOf 8 (some .int) 4 [qr 0 0, qi P] σ (Ri fun z σ' => z = clS N O Mi R (dPl n P) n.toNat 4 ∧ σ = σ') := by
  refine CM.mk tM_ok (by decide +kernel) (Nat.le_of_ble_eq_true rfl) (fun G C => ?_)
  show G σ 0 [some (qr 0 0), some (qi P), none, none, none, none, none, none] []
  refine r_aload_n C dX11_callsOf_0 rfl ?_
  refine r_get_r (c := 1) C dX11_callsOf_1 fl_X11_9 rfl rfl rfl (by decide) rfl ?_
  refine r_iconst C dX11_callsOf_4 ?_
  refine r_iald (c := 1) (N := 365) C dX11_callsOf_5 rfl rfl (by decide) (by omega) ?_
  refine r_v (b := n) he ?_
  refine r_istore_n C dX11_callsOf_6 rfl rfl (by decide) ?_
  refine r_iconst C dX11_callsOf_7 ?_
  refine r_istore_n C dX11_callsOf_8 rfl rfl (by decide) ?_
  refine r_iconst C dX11_callsOf_9 ?_
  refine r_istore C dX11_callsOf_10 rfl rfl (by decide) ?_
  exact lp_X11_clS e l σ P n N O Mi R hn hP hT hRm C ⟨_, rfl, rfl, rfl⟩ 4 0 _ _ _ _ (by omega) rfl (by omega)
