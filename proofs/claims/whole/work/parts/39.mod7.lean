/-! the reference's calls: texts -/
theorem z_shrP (a b P : Int) (hP : P = 2 ^ b.toNat) (ha : InI a) (hb : 0 ≤ b ∧ b < 32) : Int32.ofInt a >>> (Int32.ofInt b &&& 31) = Int32.ofInt (a / P) := by rw [z_shr ha hb, hP]
theorem tx_m {σ : qSt} {A : aSt} (hR : RelM σ A) (hA : AOk A) {k : Int} (hk : 0 ≤ k ∧ k < nTx A) : σ 1 0 (268 + k) = (txAt A k).1 + 4 * (txAt A k).2.1 + 16 * (txAt A k).2.2.1 + 512 * (txAt A k).2.2.2 ∧ 0 ≤ (txAt A k).1 ∧ (txAt A k).1 < 3 ∧ 0 ≤ (txAt A k).2.1 ∧ (txAt A k).2.1 < 3 ∧ 0 ≤ (txAt A k).2.2.1 ∧ (txAt A k).2.2.1 < 32 ∧ 0 ≤ (txAt A k).2.2.2 ∧ (txAt A k).2.2.2 < 1000 := by
  have hg := tx_get hk
  have a := hR.2.2.1.2.2.1.2 _ _ hg
  have b := hA.1.2.2.1.2 _ _ hg
  rw [Int.toNat_of_nonneg hk.1] at a
  exact ⟨a, b⟩
def bkT (A : aSt) (m f b : Int) : Prop := (f < 0 ∧ b = -1) ∨ (0 ≤ f ∧ f < m ∧ b = (txAt A f).1 + 4 * (txAt A f).2.1 + 16 * (txAt A f).2.2.1 + 512 * (txAt A f).2.2.2 ∧ 0 ≤ (txAt A f).1 ∧ (txAt A f).1 < 3 ∧ 0 ≤ (txAt A f).2.1 ∧ (txAt A f).2.1 < 3 ∧ 0 ≤ (txAt A f).2.2.1 ∧ (txAt A f).2.2.1 < 32 ∧ 0 ≤ (txAt A f).2.2.2 ∧ (txAt A f).2.2.2 < 1000)
theorem bkT.r {A : aSt} {m f b : Int} (h : bkT A m f b) : -1 ≤ b ∧ b < 600000 := by unfold bkT at h; omega
theorem bkT.s {A : aSt} {m f b : Int} (h : bkT A m f b) : bkT A (m + 1) f b := by unfold bkT at h ⊢; omega
set_option maxRecDepth 20000 in
theorem c_X11_isOf (e : qR) (l : Launch) (σ : qSt) (t a d : Int) (ht : 0 ≤ t ∧ t < 600000) (ha : InI a) (hd : InI d) : CM (EM e) l yX11_isOf cX11_isOf 4 (some .boolean) 2 [qr 0 0, qi t, qi a, qi d] σ (Ri fun z σ' => z = (if t % 4 = a ∧ t / 512 ≤ d then 1 else 0) ∧ σ = σ') := by
  refine CM.mk tM_ok (by decide +kernel) (Nat.le_of_ble_eq_true rfl) (fun G C => ?_)
  show G σ 0 [some (qr 0 0), some (qi t), some (qi a), some (qi d)] []
  refine r_iload_n C dX11_isOf_0 rfl ?_
  refine r_iconst C dX11_isOf_1 ?_
  refine r_iand (t % 4) C dX11_isOf_2 (z_mask t 2 4 rfl (by decide) (by decide)) ?_
  refine r_iload_n C dX11_isOf_3 rfl ?_
  refine r_ic_ne 19 C dX11_isOf_4 (by decide) (by omega) (by omega) (fun h4 => ?_) (fun h4 => ?_)
  · refine r_iconst C dX11_isOf_19 ?_
    refine r_zret C dX11_isOf_20 (by decide) ?_
    exact ⟨_, rfl, by first | rw [if_pos (by omega)] | rw [if_neg (by omega)], rfl⟩
  · refine r_iload_n C dX11_isOf_7 rfl ?_
    refine r_bipush C dX11_isOf_8 ?_
    refine r_ishr (t / 512) C dX11_isOf_10 (z_shrP t 9 512 rfl (by omega) (by omega)) ?_
    refine r_iload_n C dX11_isOf_11 rfl ?_
    refine r_ic_gt 19 C dX11_isOf_12 (by decide) (by omega) (by omega) (fun h12 => ?_) (fun h12 => ?_)
    · refine r_iconst C dX11_isOf_19 ?_
      refine r_zret C dX11_isOf_20 (by decide) ?_
      exact ⟨_, rfl, by first | rw [if_pos (by omega)] | rw [if_neg (by omega)], rfl⟩
    · refine r_iconst C dX11_isOf_15 ?_
      refine r_goto 20 C dX11_isOf_16 (by decide) ?_
      refine r_zret C dX11_isOf_20 (by decide) ?_
      exact ⟨_, rfl, by first | rw [if_pos (by omega)] | rw [if_neg (by omega)], rfl⟩
set_option maxRecDepth 20000 in
theorem lp_X11_isBarred {G : qSt → Nat → List (Option qV) → List qV → Prop} {Ret : Option qV → qSt → Prop} (e : qR) (l : Launch) (σ : qSt) (a word d : Int) (A : aSt) (hR : RelM σ A) (hA : AOk A) (ha : InI a) (hw : InI word) (hd : InI d) (C : Cx (EM e) l RX11 cX11_isBarred 7 (some .boolean) 4 Ret G) (hN : Ret (some (qi (if barA A a word d = true then 1 else 0))) σ) : ∀ (k : Nat) (m : Nat) (f b : Int) (o6 : Option qV), (m : Int) + (k : Int) = nTx A → f = inF (ldA A) (dyA A) (qBar (soA A) (woA A) word) a d m → bkT A m f b → G σ 6 [some (qr 0 0), some (qi a), some (qi word), some (qi d), some (qi b), some (qi (m : Int)), o6] [] := by
  intro k
  induction k with
  | zero =>
    intro m f b o6 hm hf hbk
    obtain ⟨hb, e0, n0, m0, e1w, n1, m1, e2t, n2, m2, e3l, n3, m3, hk0, hk20⟩ := mF hR hA
    refine r_iload C dX11_isBarred_6 rfl ?_
    refine r_aload_n C dX11_isBarred_8 rfl ?_
    refine r_get_r (c := 1) C dX11_isBarred_9 fl_X11_9 rfl rfl rfl (by decide) rfl ?_
    refine r_iconst C dX11_isBarred_12 ?_
    refine r_iald (c := 1) (N := 365) C dX11_isBarred_13 rfl rfl (by decide) (by omega) ?_
    have b13 := hb 1 0 2 (by omega) (by omega)
    refine r_ic_ge 90 C dX11_isBarred_14 (by decide) (by omega) (by omega) (fun h14 => ?_) (fun h14 => ?_)
    · have hbr := hbk.r
      refine r_iload C dX11_isBarred_90 rfl ?_
      refine r_if_lt 108 C dX11_isBarred_92 (by decide) (by omega) (fun h92 => ?_) (fun h92 => ?_)
      · refine r_iconst C dX11_isBarred_108 ?_
        refine r_zret C dX11_isBarred_109 (by decide) ?_
        have e9 : (cT A.1).length = m := by have q : nTx A = ((cT A.1).length : Int) := rfl; omega
        have e8 : barA A a word d = decide (0 ≤ f ∧ (txAt A f).2.1 = 0) := by unfold barA barB; rw [e9, ← hf]
        rw [e8] at hN
        unfold bkT at hbk
        first | (rw [if_pos (by simp only [decide_eq_true_eq]; omega)] at hN; exact hN) | (rw [if_neg (by simp only [decide_eq_true_eq]; omega)] at hN; exact hN)
      · refine r_iload C dX11_isBarred_95 rfl ?_
        refine r_iconst C dX11_isBarred_97 ?_
        refine r_ishr (b / 4) C dX11_isBarred_98 (z_shrP b 2 4 rfl (by have := hbk.r; omega) (by omega)) ?_
        refine r_iconst C dX11_isBarred_99 ?_
        refine r_iand (b / 4 % 4) C dX11_isBarred_100 (z_mask _ 2 4 rfl (by decide) (by decide)) ?_
        refine r_if_ne 108 C dX11_isBarred_101 (by decide) (by omega) (fun h101 => ?_) (fun h101 => ?_)
        · refine r_iconst C dX11_isBarred_108 ?_
          refine r_zret C dX11_isBarred_109 (by decide) ?_
          have e9 : (cT A.1).length = m := by have q : nTx A = ((cT A.1).length : Int) := rfl; omega
          have e8 : barA A a word d = decide (0 ≤ f ∧ (txAt A f).2.1 = 0) := by unfold barA barB; rw [e9, ← hf]
          rw [e8] at hN
          unfold bkT at hbk
          first | (rw [if_pos (by simp only [decide_eq_true_eq]; omega)] at hN; exact hN) | (rw [if_neg (by simp only [decide_eq_true_eq]; omega)] at hN; exact hN)
        · refine r_iconst C dX11_isBarred_104 ?_
          refine r_goto 109 C dX11_isBarred_105 (by decide) ?_
          refine r_zret C dX11_isBarred_109 (by decide) ?_
          have e9 : (cT A.1).length = m := by have q : nTx A = ((cT A.1).length : Int) := rfl; omega
          have e8 : barA A a word d = decide (0 ≤ f ∧ (txAt A f).2.1 = 0) := by unfold barA barB; rw [e9, ← hf]
          rw [e8] at hN
          unfold bkT at hbk
          first | (rw [if_pos (by simp only [decide_eq_true_eq]; omega)] at hN; exact hN) | (rw [if_neg (by simp only [decide_eq_true_eq]; omega)] at hN; exact hN)
    · exfalso; omega
  | succ k ih =>
    intro m f b o6 hm hf hbk
    obtain ⟨hb, e0, n0, m0, e1w, n1, m1, e2t, n2, m2, e3l, n3, m3, hk0, hk20⟩ := mF hR hA
    refine r_iload C dX11_isBarred_6 rfl ?_
    refine r_aload_n C dX11_isBarred_8 rfl ?_
    refine r_get_r (c := 1) C dX11_isBarred_9 fl_X11_9 rfl rfl rfl (by decide) rfl ?_
    refine r_iconst C dX11_isBarred_12 ?_
    refine r_iald (c := 1) (N := 365) C dX11_isBarred_13 rfl rfl (by decide) (by omega) ?_
    have b13 := hb 1 0 2 (by omega) (by omega)
    refine r_ic_ge 90 C dX11_isBarred_14 (by decide) (by omega) (by omega) (fun h14 => ?_) (fun h14 => ?_)
    · exfalso; omega
    · refine r_aload_n C dX11_isBarred_17 rfl ?_
      refine r_get_r (c := 1) C dX11_isBarred_18 fl_X11_9 rfl rfl rfl (by decide) rfl ?_
      refine r_sipush C dX11_isBarred_21 ?_
      refine r_iload C dX11_isBarred_24 rfl ?_
      refine r_iadd C dX11_isBarred_26 ?_
      refine r_iald (c := 1) (N := 365) C dX11_isBarred_27 rfl rfl (by decide) (by omega) ?_
      have b27 := hb 1 0 (268 + (m : Int)) (by omega) (by omega)
      have tm := tx_m hR hA (k := (m : Int)) (by omega)
      obtain ⟨t, ht⟩ : ∃ t, t = σ 1 0 (268 + (m : Int)) := ⟨_, rfl⟩
      refine r_v (b := t) ht.symm ?_
      rw [← ht] at tm
      have hbr := hbk.r
      refine r_istore C dX11_isBarred_28 rfl rfl (by decide) ?_
      refine r_aload_n C dX11_isBarred_30 rfl ?_
      refine r_iload C dX11_isBarred_31 rfl ?_
      refine r_iload_n C dX11_isBarred_33 rfl ?_
      refine r_iload_n C dX11_isBarred_34 rfl ?_
      refine r_cvi (c := 1) C dX11_isBarred_35 mv_X11_138 (c_X11_isOf e l _ _ _ _ (by omega) (by omega) (by omega)) (by decide) rfl rfl rfl rfl (by decide) rfl rfl (Nat.le_of_ble_eq_true rfl) (fun z35 σ35 h35 => ?_)
      obtain ⟨rfl, rfl⟩ := h35
      refine r_ifb_eq 84 C dX11_isBarred_38 (by decide) (fun h38 => ?_) (fun h38 => ?_)
      · refine r_iinc C dX11_isBarred_84 rfl rfl rfl (by decide) ?_
        refine r_goto 6 C dX11_isBarred_87 (by decide) ?_
        have ei : inF (ldA A) (dyA A) (qBar (soA A) (woA A) word) a d (m + 1) = f := by
          simp only [inF]
          rw [if_neg (fun q => by
            obtain ⟨q1, q2, q3, q4⟩ := q
            simp only [qBar, decide_eq_true_eq] at q1
            have q1b : (txAt A m).2.1 ≠ 2 ∧ (txAt A m).2.2.1 = word := q1
            rw [← hf] at q4
            have q2b : (txAt A m).1 = a := q2
            have q3b : (txAt A m).2.2.2 ≤ d := q3
            have q4b : f < 0 ∨ (txAt A f).2.2.2 ≤ (txAt A m).2.2.2 := q4
            unfold bkT at hbk
            omega), hf]
        exact ih (m + 1) _ _ _ (by push_cast; omega) ei.symm (by push_cast; exact hbk.s)
      · refine r_iload C dX11_isBarred_41 rfl ?_
        refine r_iconst C dX11_isBarred_43 ?_
        refine r_ishr (t / 4) C dX11_isBarred_44 (z_shrP t 2 4 rfl (by omega) (by omega)) ?_
        refine r_iconst C dX11_isBarred_45 ?_
        refine r_iand (t / 4 % 4) C dX11_isBarred_46 (z_mask _ 2 4 rfl (by decide) (by decide)) ?_
        refine r_iconst C dX11_isBarred_47 ?_
        refine r_ic_ge 84 C dX11_isBarred_48 (by decide) (by omega) (by omega) (fun h48 => ?_) (fun h48 => ?_)
        · refine r_iinc C dX11_isBarred_84 rfl rfl rfl (by decide) ?_
          refine r_goto 6 C dX11_isBarred_87 (by decide) ?_
          have ei : inF (ldA A) (dyA A) (qBar (soA A) (woA A) word) a d (m + 1) = f := by
            simp only [inF]
            rw [if_neg (fun q => by
              obtain ⟨q1, q2, q3, q4⟩ := q
              simp only [qBar, decide_eq_true_eq] at q1
              have q1b : (txAt A m).2.1 ≠ 2 ∧ (txAt A m).2.2.1 = word := q1
              rw [← hf] at q4
              have q2b : (txAt A m).1 = a := q2
              have q3b : (txAt A m).2.2.2 ≤ d := q3
              have q4b : f < 0 ∨ (txAt A f).2.2.2 ≤ (txAt A m).2.2.2 := q4
              unfold bkT at hbk
              omega), hf]
          exact ih (m + 1) _ _ _ (by push_cast; omega) ei.symm (by push_cast; exact hbk.s)
        · refine r_iload C dX11_isBarred_51 rfl ?_
          refine r_iconst C dX11_isBarred_53 ?_
          refine r_ishr (t / 16) C dX11_isBarred_54 (z_shrP t 4 16 rfl (by omega) (by omega)) ?_
          refine r_bipush C dX11_isBarred_55 ?_
          refine r_iand (t / 16 % 32) C dX11_isBarred_57 (z_mask _ 5 32 rfl (by decide) (by decide)) ?_
          refine r_iload_n C dX11_isBarred_58 rfl ?_
          refine r_ic_ne 84 C dX11_isBarred_59 (by decide) (by omega) (by omega) (fun h59 => ?_) (fun h59 => ?_)
          · refine r_iinc C dX11_isBarred_84 rfl rfl rfl (by decide) ?_
            refine r_goto 6 C dX11_isBarred_87 (by decide) ?_
            have ei : inF (ldA A) (dyA A) (qBar (soA A) (woA A) word) a d (m + 1) = f := by
              simp only [inF]
              rw [if_neg (fun q => by
                obtain ⟨q1, q2, q3, q4⟩ := q
                simp only [qBar, decide_eq_true_eq] at q1
                have q1b : (txAt A m).2.1 ≠ 2 ∧ (txAt A m).2.2.1 = word := q1
                rw [← hf] at q4
                have q2b : (txAt A m).1 = a := q2
                have q3b : (txAt A m).2.2.2 ≤ d := q3
                have q4b : f < 0 ∨ (txAt A f).2.2.2 ≤ (txAt A m).2.2.2 := q4
                unfold bkT at hbk
                omega), hf]
            exact ih (m + 1) _ _ _ (by push_cast; omega) ei.symm (by push_cast; exact hbk.s)
          · refine r_iload C dX11_isBarred_62 rfl ?_
            refine r_if_lt 80 C dX11_isBarred_64 (by decide) (by omega) (fun h64 => ?_) (fun h64 => ?_)
            · refine r_iload C dX11_isBarred_80 rfl ?_
              refine r_istore C dX11_isBarred_82 rfl rfl (by decide) ?_
              refine r_iinc C dX11_isBarred_84 rfl rfl rfl (by decide) ?_
              refine r_goto 6 C dX11_isBarred_87 (by decide) ?_
              have ei : inF (ldA A) (dyA A) (qBar (soA A) (woA A) word) a d (m + 1) = (m : Int) := by
                simp only [inF]
                rw [if_pos ⟨by simp only [qBar]; exact decide_eq_true ⟨by show (txAt A m).2.1 ≠ 2; omega, by show (txAt A m).2.2.1 = word; omega⟩, by show (txAt A m).1 = a; omega, by show (txAt A m).2.2.2 ≤ d; omega, by rw [← hf]; show f < 0 ∨ (txAt A f).2.2.2 ≤ (txAt A m).2.2.2; unfold bkT at hbk; omega⟩]
              exact ih (m + 1) _ _ _ (by push_cast; omega) ei.symm (by unfold bkT; push_cast; omega)
            · refine r_iload C dX11_isBarred_67 rfl ?_
              refine r_bipush C dX11_isBarred_69 ?_
              refine r_ishr (t / 512) C dX11_isBarred_71 (z_shrP t 9 512 rfl (by omega) (by omega)) ?_
              refine r_iload C dX11_isBarred_72 rfl ?_
              refine r_bipush C dX11_isBarred_74 ?_
              refine r_ishr (b / 512) C dX11_isBarred_76 (z_shrP b 9 512 rfl (by omega) (by omega)) ?_
              refine r_ic_lt 84 C dX11_isBarred_77 (by decide) (by omega) (by omega) (fun h77 => ?_) (fun h77 => ?_)
              · refine r_iinc C dX11_isBarred_84 rfl rfl rfl (by decide) ?_
                refine r_goto 6 C dX11_isBarred_87 (by decide) ?_
                have ei : inF (ldA A) (dyA A) (qBar (soA A) (woA A) word) a d (m + 1) = f := by
                  simp only [inF]
                  rw [if_neg (fun q => by
                    obtain ⟨q1, q2, q3, q4⟩ := q
                    simp only [qBar, decide_eq_true_eq] at q1
                    have q1b : (txAt A m).2.1 ≠ 2 ∧ (txAt A m).2.2.1 = word := q1
                    rw [← hf] at q4
                    have q2b : (txAt A m).1 = a := q2
                    have q3b : (txAt A m).2.2.2 ≤ d := q3
                    have q4b : f < 0 ∨ (txAt A f).2.2.2 ≤ (txAt A m).2.2.2 := q4
                    unfold bkT at hbk
                    omega), hf]
                exact ih (m + 1) _ _ _ (by push_cast; omega) ei.symm (by push_cast; exact hbk.s)
              · refine r_iload C dX11_isBarred_80 rfl ?_
                refine r_istore C dX11_isBarred_82 rfl rfl (by decide) ?_
                refine r_iinc C dX11_isBarred_84 rfl rfl rfl (by decide) ?_
                refine r_goto 6 C dX11_isBarred_87 (by decide) ?_
                have ei : inF (ldA A) (dyA A) (qBar (soA A) (woA A) word) a d (m + 1) = (m : Int) := by
                  simp only [inF]
                  rw [if_pos ⟨by simp only [qBar]; exact decide_eq_true ⟨by show (txAt A m).2.1 ≠ 2; omega, by show (txAt A m).2.2.1 = word; omega⟩, by show (txAt A m).1 = a; omega, by show (txAt A m).2.2.2 ≤ d; omega, by rw [← hf]; show f < 0 ∨ (txAt A f).2.2.2 ≤ (txAt A m).2.2.2; unfold bkT at hbk; omega⟩]
                exact ih (m + 1) _ _ _ (by push_cast; omega) ei.symm (by unfold bkT; push_cast; omega)
set_option maxRecDepth 20000 in
theorem c_X11_isBarred (e : qR) (l : Launch) (σ : qSt) (a word d : Int) (A : aSt) (hR : RelM σ A) (hA : AOk A) (ha : InI a) (hw : InI word) (hd : InI d) : CM (EM e) l yX11_isBarred cX11_isBarred 7 (some .boolean) 4 [qr 0 0, qi a, qi word, qi d] σ (Ri fun z σ' => z = (if barA A a word d = true then 1 else 0) ∧ σ = σ') := by
  refine CM.mk tM_ok (by decide +kernel) (Nat.le_of_ble_eq_true rfl) (fun G C => ?_)
  show G σ 0 [some (qr 0 0), some (qi a), some (qi word), some (qi d), none, none, none] []
  refine r_iconst C dX11_isBarred_0 ?_
  refine r_istore C dX11_isBarred_1 rfl rfl (by decide) ?_
  refine r_iconst C dX11_isBarred_3 ?_
  refine r_istore C dX11_isBarred_4 rfl rfl (by decide) ?_
  exact lp_X11_isBarred e l σ a word d A hR hA ha hw hd C ⟨_, rfl, rfl, rfl⟩ (cT A.1).length 0 _ _ _ (by show (0 : Int) + ((cT A.1).length : Int) = ((cT A.1).length : Int); omega) rfl (Or.inl ⟨by show (-1 : Int) < 0; decide, rfl⟩)
set_option maxRecDepth 20000 in
theorem lp_X11_chosenOf {G : qSt → Nat → List (Option qV) → List qV → Prop} {Ret : Option qV → qSt → Prop} (e : qR) (l : Launch) (σ : qSt) (a name d : Int) (A : aSt) (hR : RelM σ A) (hA : AOk A) (ha : InI a) (hw : InI name) (hd : InI d) (C : Cx (EM e) l RX11 cX11_chosenOf 7 (some .int) 4 Ret G) (hN : Ret (some (qi (choA A a name d))) σ) : ∀ (k : Nat) (m : Nat) (f b : Int) (o6 : Option qV), (m : Int) + (k : Int) = nTx A → f = inF (ldA A) (dyA A) (qCho (soA A) (woA A) (cN A.1) name) a d m → bkT A m f b → G σ 6 [some (qr 0 0), some (qi a), some (qi name), some (qi d), some (qi b), some (qi (m : Int)), o6] [] := by
  intro k
  induction k with
  | zero =>
    intro m f b o6 hm hf hbk
    obtain ⟨hb, e0, n0, m0, e1w, n1, m1, e2t, n2, m2, e3l, n3, m3, hk0, hk20⟩ := mF hR hA
    refine r_iload C dX11_chosenOf_6 rfl ?_
    refine r_aload_n C dX11_chosenOf_8 rfl ?_
    refine r_get_r (c := 1) C dX11_chosenOf_9 fl_X11_9 rfl rfl rfl (by decide) rfl ?_
    refine r_iconst C dX11_chosenOf_12 ?_
    refine r_iald (c := 1) (N := 365) C dX11_chosenOf_13 rfl rfl (by decide) (by omega) ?_
    have b13 := hb 1 0 2 (by omega) (by omega)
    refine r_ic_ge 99 C dX11_chosenOf_14 (by decide) (by omega) (by omega) (fun h14 => ?_) (fun h14 => ?_)
    · have hbr := hbk.r
      refine r_iload C dX11_chosenOf_99 rfl ?_
      refine r_if_ge 108 C dX11_chosenOf_101 (by decide) (by omega) (fun h101 => ?_) (fun h101 => ?_)
      · refine r_iload C dX11_chosenOf_108 rfl ?_
        refine r_iconst C dX11_chosenOf_110 ?_
        refine r_ishr (b / 16) C dX11_chosenOf_111 (z_shrP b 4 16 rfl (by omega) (by omega)) ?_
        refine r_bipush C dX11_chosenOf_112 ?_
        refine r_iand (b / 16 % 32) C dX11_chosenOf_114 (z_mask _ 5 32 rfl (by decide) (by decide)) ?_
        refine r_iret C dX11_chosenOf_115 ?_
        have e9 : (cT A.1).length = m := by have q : nTx A = ((cT A.1).length : Int) := rfl; omega
        have e8 : choA A a name d = if f < 0 then -1 else (txAt A f).2.2.1 := by unfold choA choF; rw [e9, ← hf]
        rw [e8] at hN
        unfold bkT at hbk
        first | (rw [if_pos (by omega)] at hN; exact hN) | (rw [if_neg (by omega)] at hN; refine cast ?_ hN; congr 3; omega)
      · refine r_iconst C dX11_chosenOf_104 ?_
        refine r_goto 115 C dX11_chosenOf_105 (by decide) ?_
        refine r_iret C dX11_chosenOf_115 ?_
        have e9 : (cT A.1).length = m := by have q : nTx A = ((cT A.1).length : Int) := rfl; omega
        have e8 : choA A a name d = if f < 0 then -1 else (txAt A f).2.2.1 := by unfold choA choF; rw [e9, ← hf]
        rw [e8] at hN
        unfold bkT at hbk
        first | (rw [if_pos (by omega)] at hN; exact hN) | (rw [if_neg (by omega)] at hN; refine cast ?_ hN; congr 3; omega)
    · exfalso; omega
  | succ k ih =>
    intro m f b o6 hm hf hbk
    obtain ⟨hb, e0, n0, m0, e1w, n1, m1, e2t, n2, m2, e3l, n3, m3, hk0, hk20⟩ := mF hR hA
    refine r_iload C dX11_chosenOf_6 rfl ?_
    refine r_aload_n C dX11_chosenOf_8 rfl ?_
    refine r_get_r (c := 1) C dX11_chosenOf_9 fl_X11_9 rfl rfl rfl (by decide) rfl ?_
    refine r_iconst C dX11_chosenOf_12 ?_
    refine r_iald (c := 1) (N := 365) C dX11_chosenOf_13 rfl rfl (by decide) (by omega) ?_
    have b13 := hb 1 0 2 (by omega) (by omega)
    refine r_ic_ge 99 C dX11_chosenOf_14 (by decide) (by omega) (by omega) (fun h14 => ?_) (fun h14 => ?_)
    · exfalso; omega
    · refine r_aload_n C dX11_chosenOf_17 rfl ?_
      refine r_get_r (c := 1) C dX11_chosenOf_18 fl_X11_9 rfl rfl rfl (by decide) rfl ?_
      refine r_sipush C dX11_chosenOf_21 ?_
      refine r_iload C dX11_chosenOf_24 rfl ?_
      refine r_iadd C dX11_chosenOf_26 ?_
      refine r_iald (c := 1) (N := 365) C dX11_chosenOf_27 rfl rfl (by decide) (by omega) ?_
      have b27 := hb 1 0 (268 + (m : Int)) (by omega) (by omega)
      have tm := tx_m hR hA (k := (m : Int)) (by omega)
      obtain ⟨t, ht⟩ : ∃ t, t = σ 1 0 (268 + (m : Int)) := ⟨_, rfl⟩
      refine r_v (b := t) ht.symm ?_
      rw [← ht] at tm
      have hbr := hbk.r
      refine r_istore C dX11_chosenOf_28 rfl rfl (by decide) ?_
      refine r_aload_n C dX11_chosenOf_30 rfl ?_
      refine r_iload C dX11_chosenOf_31 rfl ?_
      refine r_iload_n C dX11_chosenOf_33 rfl ?_
      refine r_iload_n C dX11_chosenOf_34 rfl ?_
      refine r_cvi (c := 1) C dX11_chosenOf_35 mv_X11_138 (c_X11_isOf e l _ _ _ _ (by omega) (by omega) (by omega)) (by decide) rfl rfl rfl rfl (by decide) rfl rfl (Nat.le_of_ble_eq_true rfl) (fun z35 σ35 h35 => ?_)
      obtain ⟨rfl, rfl⟩ := h35
      refine r_ifb_eq 93 C dX11_chosenOf_38 (by decide) (fun h38 => ?_) (fun h38 => ?_)
      · refine r_iinc C dX11_chosenOf_93 rfl rfl rfl (by decide) ?_
        refine r_goto 6 C dX11_chosenOf_96 (by decide) ?_
        have ei : inF (ldA A) (dyA A) (qCho (soA A) (woA A) (cN A.1) name) a d (m + 1) = f := by
          simp only [inF]
          rw [if_neg (fun q => by
            obtain ⟨q1, q2, q3, q4⟩ := q
            simp only [qCho, decide_eq_true_eq] at q1
            have q1b : (txAt A m).2.1 = 2 ∧ cN A.1 (txAt A m).2.2.1 = name := q1
            rw [← hf] at q4
            have q2b : (txAt A m).1 = a := q2
            have q3b : (txAt A m).2.2.2 ≤ d := q3
            have q4b : f < 0 ∨ (txAt A f).2.2.2 ≤ (txAt A m).2.2.2 := q4
            unfold bkT at hbk
            omega), hf]
        exact ih (m + 1) _ _ _ (by push_cast; omega) ei.symm (by push_cast; exact hbk.s)
      · have en : σ 1 0 (308 + (txAt A m).2.2.1) = cN A.1 (txAt A m).2.2.1 := hR.2.2.1.2.2.2.1 _ (by omega) (by omega)
        have er := hA.1.2.2.2.1 (txAt A m).2.2.1 (by omega) (by omega)
        refine r_iload C dX11_chosenOf_41 rfl ?_
        refine r_iconst C dX11_chosenOf_43 ?_
        refine r_ishr (t / 4) C dX11_chosenOf_44 (z_shrP t 2 4 rfl (by omega) (by omega)) ?_
        refine r_iconst C dX11_chosenOf_45 ?_
        refine r_iand (t / 4 % 4) C dX11_chosenOf_46 (z_mask _ 2 4 rfl (by decide) (by decide)) ?_
        refine r_iconst C dX11_chosenOf_47 ?_
        refine r_ic_ne 93 C dX11_chosenOf_48 (by decide) (by omega) (by omega) (fun h48 => ?_) (fun h48 => ?_)
        · refine r_iinc C dX11_chosenOf_93 rfl rfl rfl (by decide) ?_
          refine r_goto 6 C dX11_chosenOf_96 (by decide) ?_
          have ei : inF (ldA A) (dyA A) (qCho (soA A) (woA A) (cN A.1) name) a d (m + 1) = f := by
            simp only [inF]
            rw [if_neg (fun q => by
              obtain ⟨q1, q2, q3, q4⟩ := q
              simp only [qCho, decide_eq_true_eq] at q1
              have q1b : (txAt A m).2.1 = 2 ∧ cN A.1 (txAt A m).2.2.1 = name := q1
              rw [← hf] at q4
              have q2b : (txAt A m).1 = a := q2
              have q3b : (txAt A m).2.2.2 ≤ d := q3
              have q4b : f < 0 ∨ (txAt A f).2.2.2 ≤ (txAt A m).2.2.2 := q4
              unfold bkT at hbk
              omega), hf]
          exact ih (m + 1) _ _ _ (by push_cast; omega) ei.symm (by push_cast; exact hbk.s)
        · refine r_aload_n C dX11_chosenOf_51 rfl ?_
          refine r_get_r (c := 1) C dX11_chosenOf_52 fl_X11_9 rfl rfl rfl (by decide) rfl ?_
          refine r_sipush C dX11_chosenOf_55 ?_
          refine r_iload C dX11_chosenOf_58 rfl ?_
          refine r_iconst C dX11_chosenOf_60 ?_
          refine r_ishr (t / 16) C dX11_chosenOf_61 (z_shrP t 4 16 rfl (by omega) (by omega)) ?_
          refine r_bipush C dX11_chosenOf_62 ?_
          refine r_iand (t / 16 % 32) C dX11_chosenOf_64 (z_mask _ 5 32 rfl (by decide) (by decide)) ?_
          refine r_v (b := (txAt A m).2.2.1) (by omega) ?_
          refine r_iadd C dX11_chosenOf_65 ?_
          refine r_iald (c := 1) (N := 365) C dX11_chosenOf_66 rfl rfl (by decide) (by omega) ?_
          have b66 := hb 1 0 (308 + ((txAt A m).2.2.1)) (by omega) (by omega)
          refine r_v (b := cN A.1 (txAt A m).2.2.1) en ?_
          refine r_iload_n C dX11_chosenOf_67 rfl ?_
          refine r_ic_ne 93 C dX11_chosenOf_68 (by decide) (by omega) (by omega) (fun h68 => ?_) (fun h68 => ?_)
          · refine r_iinc C dX11_chosenOf_93 rfl rfl rfl (by decide) ?_
            refine r_goto 6 C dX11_chosenOf_96 (by decide) ?_
            have ei : inF (ldA A) (dyA A) (qCho (soA A) (woA A) (cN A.1) name) a d (m + 1) = f := by
              simp only [inF]
              rw [if_neg (fun q => by
                obtain ⟨q1, q2, q3, q4⟩ := q
                simp only [qCho, decide_eq_true_eq] at q1
                have q1b : (txAt A m).2.1 = 2 ∧ cN A.1 (txAt A m).2.2.1 = name := q1
                rw [← hf] at q4
                have q2b : (txAt A m).1 = a := q2
                have q3b : (txAt A m).2.2.2 ≤ d := q3
                have q4b : f < 0 ∨ (txAt A f).2.2.2 ≤ (txAt A m).2.2.2 := q4
                unfold bkT at hbk
                omega), hf]
            exact ih (m + 1) _ _ _ (by push_cast; omega) ei.symm (by push_cast; exact hbk.s)
          · refine r_iload C dX11_chosenOf_71 rfl ?_
            refine r_if_lt 89 C dX11_chosenOf_73 (by decide) (by omega) (fun h73 => ?_) (fun h73 => ?_)
            · refine r_iload C dX11_chosenOf_89 rfl ?_
              refine r_istore C dX11_chosenOf_91 rfl rfl (by decide) ?_
              refine r_iinc C dX11_chosenOf_93 rfl rfl rfl (by decide) ?_
              refine r_goto 6 C dX11_chosenOf_96 (by decide) ?_
              have ei : inF (ldA A) (dyA A) (qCho (soA A) (woA A) (cN A.1) name) a d (m + 1) = (m : Int) := by
                simp only [inF]
                rw [if_pos ⟨by simp only [qCho]; exact decide_eq_true ⟨by show (txAt A m).2.1 = 2; omega, by show cN A.1 (txAt A m).2.2.1 = name; omega⟩, by show (txAt A m).1 = a; omega, by show (txAt A m).2.2.2 ≤ d; omega, by rw [← hf]; show f < 0 ∨ (txAt A f).2.2.2 ≤ (txAt A m).2.2.2; unfold bkT at hbk; omega⟩]
              exact ih (m + 1) _ _ _ (by push_cast; omega) ei.symm (by unfold bkT; push_cast; omega)
            · refine r_iload C dX11_chosenOf_76 rfl ?_
              refine r_bipush C dX11_chosenOf_78 ?_
              refine r_ishr (t / 512) C dX11_chosenOf_80 (z_shrP t 9 512 rfl (by omega) (by omega)) ?_
              refine r_iload C dX11_chosenOf_81 rfl ?_
              refine r_bipush C dX11_chosenOf_83 ?_
              refine r_ishr (b / 512) C dX11_chosenOf_85 (z_shrP b 9 512 rfl (by omega) (by omega)) ?_
              refine r_ic_lt 93 C dX11_chosenOf_86 (by decide) (by omega) (by omega) (fun h86 => ?_) (fun h86 => ?_)
              · refine r_iinc C dX11_chosenOf_93 rfl rfl rfl (by decide) ?_
                refine r_goto 6 C dX11_chosenOf_96 (by decide) ?_
                have ei : inF (ldA A) (dyA A) (qCho (soA A) (woA A) (cN A.1) name) a d (m + 1) = f := by
                  simp only [inF]
                  rw [if_neg (fun q => by
                    obtain ⟨q1, q2, q3, q4⟩ := q
                    simp only [qCho, decide_eq_true_eq] at q1
                    have q1b : (txAt A m).2.1 = 2 ∧ cN A.1 (txAt A m).2.2.1 = name := q1
                    rw [← hf] at q4
                    have q2b : (txAt A m).1 = a := q2
                    have q3b : (txAt A m).2.2.2 ≤ d := q3
                    have q4b : f < 0 ∨ (txAt A f).2.2.2 ≤ (txAt A m).2.2.2 := q4
                    unfold bkT at hbk
                    omega), hf]
                exact ih (m + 1) _ _ _ (by push_cast; omega) ei.symm (by push_cast; exact hbk.s)
              · refine r_iload C dX11_chosenOf_89 rfl ?_
                refine r_istore C dX11_chosenOf_91 rfl rfl (by decide) ?_
                refine r_iinc C dX11_chosenOf_93 rfl rfl rfl (by decide) ?_
                refine r_goto 6 C dX11_chosenOf_96 (by decide) ?_
                have ei : inF (ldA A) (dyA A) (qCho (soA A) (woA A) (cN A.1) name) a d (m + 1) = (m : Int) := by
                  simp only [inF]
                  rw [if_pos ⟨by simp only [qCho]; exact decide_eq_true ⟨by show (txAt A m).2.1 = 2; omega, by show cN A.1 (txAt A m).2.2.1 = name; omega⟩, by show (txAt A m).1 = a; omega, by show (txAt A m).2.2.2 ≤ d; omega, by rw [← hf]; show f < 0 ∨ (txAt A f).2.2.2 ≤ (txAt A m).2.2.2; unfold bkT at hbk; omega⟩]
                exact ih (m + 1) _ _ _ (by push_cast; omega) ei.symm (by unfold bkT; push_cast; omega)
set_option maxRecDepth 20000 in
theorem c_X11_chosenOf (e : qR) (l : Launch) (σ : qSt) (a name d : Int) (A : aSt) (hR : RelM σ A) (hA : AOk A) (ha : InI a) (hw : InI name) (hd : InI d) : CM (EM e) l yX11_chosenOf cX11_chosenOf 7 (some .int) 4 [qr 0 0, qi a, qi name, qi d] σ (Ri fun z σ' => z = choA A a name d ∧ σ = σ') := by
  refine CM.mk tM_ok (by decide +kernel) (Nat.le_of_ble_eq_true rfl) (fun G C => ?_)
  show G σ 0 [some (qr 0 0), some (qi a), some (qi name), some (qi d), none, none, none] []
  refine r_iconst C dX11_chosenOf_0 ?_
  refine r_istore C dX11_chosenOf_1 rfl rfl (by decide) ?_
  refine r_iconst C dX11_chosenOf_3 ?_
  refine r_istore C dX11_chosenOf_4 rfl rfl (by decide) ?_
  exact lp_X11_chosenOf e l σ a name d A hR hA ha hw hd C ⟨_, rfl, rfl, rfl⟩ (cT A.1).length 0 _ _ _ (by show (0 : Int) + ((cT A.1).length : Int) = ((cT A.1).length : Int); omega) rfl (Or.inl ⟨by show (-1 : Int) < 0; decide, rfl⟩)
theorem cho_rng {A : aSt} (hA : AOk A) (a n d : Int) : -1 ≤ choA A a n d ∧ choA A a n d < 32 := by
  have h := inF_lt (ldA A) (dyA A) (qCho (soA A) (woA A) (cN A.1) n) a d (cT A.1).length
  unfold choA choF
  split
  · omega
  · next q =>
    have hk : 0 ≤ inF (ldA A) (dyA A) (qCho (soA A) (woA A) (cN A.1) n) a d (cT A.1).length ∧ inF (ldA A) (dyA A) (qCho (soA A) (woA A) (cN A.1) n) a d (cT A.1).length < nTx A := ⟨by omega, h.2⟩
    have b := hA.1.2.2.1.2 _ _ (tx_get hk)
    have b1 : 0 ≤ woA A (inF (ldA A) (dyA A) (qCho (soA A) (woA A) (cN A.1) n) a d (cT A.1).length) := b.2.2.2.2.1
    have b2 : woA A (inF (ldA A) (dyA A) (qCho (soA A) (woA A) (cN A.1) n) a d (cT A.1).length) < 32 := b.2.2.2.2.2.1
    omega
set_option maxRecDepth 20000 in
theorem lp_X11_isLawful {G : qSt → Nat → List (Option qV) → List qV → Prop} {Ret : Option qV → qSt → Prop} (e : qR) (l : Launch) (σ : qSt) (w a d : Int) (A : aSt) (hR : RelM σ A) (hA : AOk A) (hw : 0 ≤ w ∧ w < nWd A) (ha : InI a) (hd : InI d) (C : Cx (EM e) l RX11 cX11_isLawful 8 (some .boolean) 5 Ret G) (hN : Ret (some (qi (if lawA A w a d = true then 1 else 0))) σ) : ∀ (k : Nat) (m : Nat) (o5 o6 o7 : Option qV), (m : Int) + (k : Int) = ((wdAt A w).2.2.2.length : Int) → allW (fun i => okW (ldA A) (soA A) (woA A) (dyA A) (cN A.1) (cT A.1).length a d (syAt (wdAt A w) i).2.2.2) m = true → G σ 3 [some (qr 0 0), some (qi w), some (qi a), some (qi d), some (qi (m : Int)), o5, o6, o7] [] := by
  intro k
  induction k with
  | zero =>
    intro m o5 o6 o7 hm hal
    obtain ⟨hb, e0, n0, m0, e1w, n1, m1, e2t, n2, m2, e3l, n3, m3, hk0, hk20⟩ := mF hR hA
    have wm := wd_m hR hA hw
    refine r_iload C dX11_isLawful_3 rfl ?_
    refine r_aload_n C dX11_isLawful_5 rfl ?_
    refine r_get_r (c := 1) C dX11_isLawful_6 fl_X11_9 rfl rfl rfl (by decide) rfl ?_
    refine r_bipush C dX11_isLawful_9 ?_
    refine r_iload_n C dX11_isLawful_11 rfl ?_
    refine r_iadd C dX11_isLawful_12 ?_
    refine r_iald (c := 1) (N := 365) C dX11_isLawful_13 rfl rfl (by decide) (by omega) ?_
    have b13 := hb 1 0 (88 + w) (by omega) (by omega)
    refine r_ic_ge 92 C dX11_isLawful_14 (by decide) (by omega) (by omega) (fun h14 => ?_) (fun h14 => ?_)
    · refine r_iconst C dX11_isLawful_92 ?_
      refine r_zret C dX11_isLawful_93 (by decide) ?_
      have e9 : (wdAt A w).2.2.2.length = m := by omega
      have ok2 : lawA A w a d = true := by unfold lawA; rw [e9]; exact hal
      rw [ok2] at hN
      exact hN
    · exfalso; omega
  | succ k ih =>
    intro m o5 o6 o7 hm hal
    obtain ⟨hb, e0, n0, m0, e1w, n1, m1, e2t, n2, m2, e3l, n3, m3, hk0, hk20⟩ := mF hR hA
    have wm := wd_m hR hA hw
    refine r_iload C dX11_isLawful_3 rfl ?_
    refine r_aload_n C dX11_isLawful_5 rfl ?_
    refine r_get_r (c := 1) C dX11_isLawful_6 fl_X11_9 rfl rfl rfl (by decide) rfl ?_
    refine r_bipush C dX11_isLawful_9 ?_
    refine r_iload_n C dX11_isLawful_11 rfl ?_
    refine r_iadd C dX11_isLawful_12 ?_
    refine r_iald (c := 1) (N := 365) C dX11_isLawful_13 rfl rfl (by decide) (by omega) ?_
    have b13 := hb 1 0 (88 + w) (by omega) (by omega)
    refine r_ic_ge 92 C dX11_isLawful_14 (by decide) (by omega) (by omega) (fun h14 => ?_) (fun h14 => ?_)
    · exfalso; omega
    · refine r_aload_n C dX11_isLawful_17 rfl ?_
      refine r_iload_n C dX11_isLawful_18 rfl ?_
      refine r_iload C dX11_isLawful_19 rfl ?_
      refine r_cvi (c := 1) C dX11_isLawful_21 mv_X11_97 (c_X11_syllableOf e l _ _ _ (by omega) (by omega)) (by decide) rfl rfl rfl rfl (by decide) rfl rfl (Nat.le_of_ble_eq_true rfl) (fun z21 σ21 h21 => ?_)
      obtain ⟨rfl, rfl⟩ := h21
      have sy := wm.2.2.2.2.2.2.2.2.2.2.2 m (by omega) (by omega)
      have sy1 : σ 1 0 (108 + 8 * w + (m : Int)) = (syAt (wdAt A w) m).1 + 4 * (syAt (wdAt A w) m).2.1 + 32 * (syAt (wdAt A w) m).2.2.1 + 256 * (syAt (wdAt A w) m).2.2.2 := sy.1
      refine r_bipush C dX11_isLawful_24 ?_
      refine r_ishr (σ 1 0 (108 + 8 * w + (m : Int)) / 256) C dX11_isLawful_26 (z_shrP _ 8 256 rfl (by omega) (by omega)) ?_
      obtain ⟨wd, ewd⟩ : ∃ v, (syAt (wdAt A w) m).2.2.2 = v := ⟨_, rfl⟩
      refine r_v (b := wd) (by omega) ?_
      have en : σ 1 0 (308 + wd) = cN A.1 wd := hR.2.2.1.2.2.2.1 _ (by omega) (by omega)
      have er := hA.1.2.2.2.1 wd (by omega) (by omega)
      refine r_istore C dX11_isLawful_27 rfl rfl (by decide) ?_
      refine r_aload_n C dX11_isLawful_29 rfl ?_
      refine r_get_r (c := 1) C dX11_isLawful_30 fl_X11_9 rfl rfl rfl (by decide) rfl ?_
      refine r_sipush C dX11_isLawful_33 ?_
      refine r_iload C dX11_isLawful_36 rfl ?_
      refine r_iadd C dX11_isLawful_38 ?_
      refine r_iald (c := 1) (N := 365) C dX11_isLawful_39 rfl rfl (by decide) (by omega) ?_
      have b39 := hb 1 0 (308 + wd) (by omega) (by omega)
      refine r_v (b := cN A.1 wd) en ?_
      refine r_istore C dX11_isLawful_40 rfl rfl (by decide) ?_
      refine r_iload C dX11_isLawful_42 rfl ?_
      refine r_if_ge 51 C dX11_isLawful_44 (by decide) (by omega) (fun h44 => ?_) (fun h44 => ?_)
      · refine r_aload_n C dX11_isLawful_51 rfl ?_
        refine r_iload_n C dX11_isLawful_52 rfl ?_
        refine r_iload C dX11_isLawful_53 rfl ?_
        refine r_iload_n C dX11_isLawful_55 rfl ?_
        refine r_cvi (c := 1) C dX11_isLawful_56 mv_X11_144 (c_X11_chosenOf e l _ _ _ _ A hR hA (by omega) (by omega) (by omega)) (by decide) rfl rfl rfl rfl (by decide) rfl rfl (Nat.le_of_ble_eq_true rfl) (fun z56 σ56 h56 => ?_)
        obtain ⟨rfl, rfl⟩ := h56
        have cr := cho_rng hA a (cN A.1 wd) d
        refine r_istore C dX11_isLawful_59 rfl rfl (by decide) ?_
        refine r_aload_n C dX11_isLawful_61 rfl ?_
        refine r_iload_n C dX11_isLawful_62 rfl ?_
        refine r_iload C dX11_isLawful_63 rfl ?_
        refine r_iload_n C dX11_isLawful_65 rfl ?_
        refine r_cvi (c := 1) C dX11_isLawful_66 mv_X11_141 (c_X11_isBarred e l _ _ _ _ A hR hA (by omega) (by omega) (by omega)) (by decide) rfl rfl rfl rfl (by decide) rfl rfl (Nat.le_of_ble_eq_true rfl) (fun z66 σ66 h66 => ?_)
        obtain ⟨rfl, rfl⟩ := h66
        refine r_ifb_ne 84 C dX11_isLawful_69 (by decide) (fun h69 => ?_) (fun h69 => ?_)
        · refine r_iconst C dX11_isLawful_84 ?_
          refine r_zret C dX11_isLawful_85 (by decide) ?_
          have ok : okW (ldA A) (soA A) (woA A) (dyA A) (cN A.1) (cT A.1).length a d (syAt (wdAt A w) m).2.2.2 = decide (¬ barA A a wd d = true ∧ (cN A.1 wd < 0 ∨ choA A a (cN A.1 wd) d < 0 ∨ choA A a (cN A.1 wd) d = wd)) := by rw [← ewd]; rfl
          have ok2 : lawA A w a d = false := allW_no (m := m) (by rw [ok]; refine decide_eq_false (fun q => ?_); first | exact q.1 h69 | (have q2 := q.2; omega)) _ (by omega)
          rw [ok2] at hN
          exact hN
        · refine r_iload C dX11_isLawful_72 rfl ?_
          refine r_if_lt 86 C dX11_isLawful_74 (by decide) (by omega) (fun h74 => ?_) (fun h74 => ?_)
          · refine r_iinc C dX11_isLawful_86 rfl rfl rfl (by decide) ?_
            refine r_goto 3 C dX11_isLawful_89 (by decide) ?_
            have ok : okW (ldA A) (soA A) (woA A) (dyA A) (cN A.1) (cT A.1).length a d (syAt (wdAt A w) m).2.2.2 = decide (¬ barA A a wd d = true ∧ (cN A.1 wd < 0 ∨ choA A a (cN A.1 wd) d < 0 ∨ choA A a (cN A.1 wd) d = wd)) := by rw [← ewd]; rfl
            have ok2 : allW (fun i => okW (ldA A) (soA A) (woA A) (dyA A) (cN A.1) (cT A.1).length a d (syAt (wdAt A w) i).2.2.2) (m + 1) = true := by
              simp only [allW]
              rw [hal, ok, Bool.true_and]
              exact decide_eq_true ⟨h69, by omega⟩
            exact ih (m + 1) _ _ _ (by push_cast; omega) ok2
          · refine r_iload C dX11_isLawful_77 rfl ?_
            refine r_iload C dX11_isLawful_79 rfl ?_
            refine r_ic_eq 86 C dX11_isLawful_81 (by decide) (by omega) (by omega) (fun h81 => ?_) (fun h81 => ?_)
            · refine r_iinc C dX11_isLawful_86 rfl rfl rfl (by decide) ?_
              refine r_goto 3 C dX11_isLawful_89 (by decide) ?_
              have ok : okW (ldA A) (soA A) (woA A) (dyA A) (cN A.1) (cT A.1).length a d (syAt (wdAt A w) m).2.2.2 = decide (¬ barA A a wd d = true ∧ (cN A.1 wd < 0 ∨ choA A a (cN A.1 wd) d < 0 ∨ choA A a (cN A.1 wd) d = wd)) := by rw [← ewd]; rfl
              have ok2 : allW (fun i => okW (ldA A) (soA A) (woA A) (dyA A) (cN A.1) (cT A.1).length a d (syAt (wdAt A w) i).2.2.2) (m + 1) = true := by
                simp only [allW]
                rw [hal, ok, Bool.true_and]
                exact decide_eq_true ⟨h69, by omega⟩
              exact ih (m + 1) _ _ _ (by push_cast; omega) ok2
            · refine r_iconst C dX11_isLawful_84 ?_
              refine r_zret C dX11_isLawful_85 (by decide) ?_
              have ok : okW (ldA A) (soA A) (woA A) (dyA A) (cN A.1) (cT A.1).length a d (syAt (wdAt A w) m).2.2.2 = decide (¬ barA A a wd d = true ∧ (cN A.1 wd < 0 ∨ choA A a (cN A.1 wd) d < 0 ∨ choA A a (cN A.1 wd) d = wd)) := by rw [← ewd]; rfl
              have ok2 : lawA A w a d = false := allW_no (m := m) (by rw [ok]; refine decide_eq_false (fun q => ?_); first | exact q.1 h69 | (have q2 := q.2; omega)) _ (by omega)
              rw [ok2] at hN
              exact hN
      · refine r_iconst C dX11_isLawful_47 ?_
        refine r_goto 59 C dX11_isLawful_48 (by decide) ?_
        refine r_istore C dX11_isLawful_59 rfl rfl (by decide) ?_
        refine r_aload_n C dX11_isLawful_61 rfl ?_
        refine r_iload_n C dX11_isLawful_62 rfl ?_
        refine r_iload C dX11_isLawful_63 rfl ?_
        refine r_iload_n C dX11_isLawful_65 rfl ?_
        refine r_cvi (c := 1) C dX11_isLawful_66 mv_X11_141 (c_X11_isBarred e l _ _ _ _ A hR hA (by omega) (by omega) (by omega)) (by decide) rfl rfl rfl rfl (by decide) rfl rfl (Nat.le_of_ble_eq_true rfl) (fun z66 σ66 h66 => ?_)
        obtain ⟨rfl, rfl⟩ := h66
        refine r_ifb_ne 84 C dX11_isLawful_69 (by decide) (fun h69 => ?_) (fun h69 => ?_)
        · refine r_iconst C dX11_isLawful_84 ?_
          refine r_zret C dX11_isLawful_85 (by decide) ?_
          have ok : okW (ldA A) (soA A) (woA A) (dyA A) (cN A.1) (cT A.1).length a d (syAt (wdAt A w) m).2.2.2 = decide (¬ barA A a wd d = true ∧ (cN A.1 wd < 0 ∨ choA A a (cN A.1 wd) d < 0 ∨ choA A a (cN A.1 wd) d = wd)) := by rw [← ewd]; rfl
          have ok2 : lawA A w a d = false := allW_no (m := m) (by rw [ok]; refine decide_eq_false (fun q => ?_); first | exact q.1 h69 | (have q2 := q.2; omega)) _ (by omega)
          rw [ok2] at hN
          exact hN
        · refine r_iload C dX11_isLawful_72 rfl ?_
          refine r_if_lt 86 C dX11_isLawful_74 (by decide) (by decide) (fun _ => ?_) (fun h => absurd h (by decide))
          refine r_iinc C dX11_isLawful_86 rfl rfl rfl (by decide) ?_
          refine r_goto 3 C dX11_isLawful_89 (by decide) ?_
          have ok : okW (ldA A) (soA A) (woA A) (dyA A) (cN A.1) (cT A.1).length a d (syAt (wdAt A w) m).2.2.2 = decide (¬ barA A a wd d = true ∧ (cN A.1 wd < 0 ∨ choA A a (cN A.1 wd) d < 0 ∨ choA A a (cN A.1 wd) d = wd)) := by rw [← ewd]; rfl
          have ok2 : allW (fun i => okW (ldA A) (soA A) (woA A) (dyA A) (cN A.1) (cT A.1).length a d (syAt (wdAt A w) i).2.2.2) (m + 1) = true := by
            simp only [allW]
            rw [hal, ok, Bool.true_and]
            exact decide_eq_true ⟨h69, by omega⟩
          exact ih (m + 1) _ _ _ (by push_cast; omega) ok2
set_option maxRecDepth 20000 in
theorem c_X11_isLawful (e : qR) (l : Launch) (σ : qSt) (w a d : Int) (A : aSt) (hR : RelM σ A) (hA : AOk A) (hw : 0 ≤ w ∧ w < nWd A) (ha : InI a) (hd : InI d) : CM (EM e) l yX11_isLawful cX11_isLawful 8 (some .boolean) 5 [qr 0 0, qi w, qi a, qi d] σ (Ri fun z σ' => z = (if lawA A w a d = true then 1 else 0) ∧ σ = σ') := by
  refine CM.mk tM_ok (by decide +kernel) (Nat.le_of_ble_eq_true rfl) (fun G C => ?_)
  show G σ 0 [some (qr 0 0), some (qi w), some (qi a), some (qi d), none, none, none, none] []
  refine r_iconst C dX11_isLawful_0 ?_
  refine r_istore C dX11_isLawful_1 rfl rfl (by decide) ?_
  exact lp_X11_isLawful e l σ w a d A hR hA hw ha hd C ⟨_, rfl, rfl, rfl⟩ (wdAt A w).2.2.2.length 0 _ _ _ (by omega) rfl
set_option maxRecDepth 20000 in
theorem m_barred (e : qR) (l : Launch) (σ : qSt) (a x d : Int) (A : aSt) (hR : RelM σ A) (hA : AOk A) (h_a : InI a) (h_x : InI x) (h_d : InI d)  : CM (EM e) l yX11_barred cX11_barred 4 (some .int) 20 [qr 0 0, qi a, qi x, qi d] σ (Ri fun z σ' => z = (oBarred a x d A).1 ∧ RelM σ' (oBarred a x d A).2) := by
  refine CM.mk tM_ok (by decide +kernel) (Nat.le_of_ble_eq_true rfl) (fun G C => ?_)
  show G σ 0 [some (qr 0 0), some (qi a), some (qi x), some (qi d)] []
  obtain ⟨hb, e0, n0, m0, e1w, n1, m1, e2t, n2, m2, e3l, n3, m3, hk0, hk20⟩ := mF hR hA
  refine r_iload_n C dX11_barred_0 rfl ?_
  refine r_csi C dX11_barred_1 ms_X11_132 (c_X11_isLand e l _ _ (by omega)) (by decide) rfl rfl (Nat.le_of_ble_eq_true rfl) (fun z1 σ1 h1 => ?_)
  obtain ⟨rfl, rfl⟩ := h1
  refine r_ifb_eq 21 C dX11_barred_4 (by decide) (fun h4 => ?_) (fun h4 => ?_)
  · refine r_aload_n C dX11_barred_21 rfl ?_
    refine r_ldc C dX11_barred_22 kc_X11_72 ?_
    refine r_cvi (c := 1) C dX11_barred_24 mv_X11_68 (c_X11_finding e l _ _) (by decide) rfl rfl rfl rfl (by decide) rfl rfl (Nat.le_of_ble_eq_true rfl) (fun z24 σ24 h24 => ?_)
    obtain ⟨rfl, rfl⟩ := h24
    refine r_iret C dX11_barred_27 ?_
    have e1 : oBarred a x d A = fnd A (-100001) := by unfold oBarred; repeat (first | rw [if_pos (by omega)] | rw [if_neg (by omega)])
    exact ⟨_, rfl, by rw [e1]; rfl, by rw [e1]; exact rel_mfnd hR _⟩
  · refine r_iload_n C dX11_barred_7 rfl ?_
    refine r_csi C dX11_barred_8 ms_X11_89 (c_X11_isWord e l _ _ (by omega)) (by decide) rfl rfl (Nat.le_of_ble_eq_true rfl) (fun z8 σ8 h8 => ?_)
    obtain ⟨rfl, rfl⟩ := h8
    refine r_ifb_eq 21 C dX11_barred_11 (by decide) (fun h11 => ?_) (fun h11 => ?_)
    · refine r_aload_n C dX11_barred_21 rfl ?_
      refine r_ldc C dX11_barred_22 kc_X11_72 ?_
      refine r_cvi (c := 1) C dX11_barred_24 mv_X11_68 (c_X11_finding e l _ _) (by decide) rfl rfl rfl rfl (by decide) rfl rfl (Nat.le_of_ble_eq_true rfl) (fun z24 σ24 h24 => ?_)
      obtain ⟨rfl, rfl⟩ := h24
      refine r_iret C dX11_barred_27 ?_
      have e1 : oBarred a x d A = fnd A (-100001) := by unfold oBarred; repeat (first | rw [if_pos (by omega)] | rw [if_neg (by omega)])
      exact ⟨_, rfl, by rw [e1]; rfl, by rw [e1]; exact rel_mfnd hR _⟩
    · refine r_iload_n C dX11_barred_14 rfl ?_
      refine r_csi C dX11_barred_15 ms_X11_135 (c_X11_isDay e l _ _ (by omega)) (by decide) rfl rfl (Nat.le_of_ble_eq_true rfl) (fun z15 σ15 h15 => ?_)
      obtain ⟨rfl, rfl⟩ := h15
      refine r_ifb_ne 28 C dX11_barred_18 (by decide) (fun h18 => ?_) (fun h18 => ?_)
      · refine r_aload_n C dX11_barred_28 rfl ?_
        refine r_iload_n C dX11_barred_29 rfl ?_
        refine r_iload_n C dX11_barred_30 rfl ?_
        refine r_iload_n C dX11_barred_31 rfl ?_
        refine r_cvi (c := 1) C dX11_barred_32 mv_X11_141 (c_X11_isBarred e l _ _ _ _ A hR hA (by omega) (by omega) (by omega)) (by decide) rfl rfl rfl rfl (by decide) rfl rfl (Nat.le_of_ble_eq_true rfl) (fun z32 σ32 h32 => ?_)
        obtain ⟨rfl, rfl⟩ := h32
        refine r_ifb_eq 42 C dX11_barred_35 (by decide) (fun h35 => ?_) (fun h35 => ?_)
        · refine r_iconst C dX11_barred_42 ?_
          refine r_iret C dX11_barred_43 ?_
          have e1 : oBarred a x d A = (if barA A a x d = true then 1 else 0, A) := by unfold oBarred; repeat (first | rw [if_pos (by omega)] | rw [if_neg (by omega)])
          exact ⟨_, rfl, by rw [e1]; first | (rw [if_pos h35]) | (rw [if_neg h35]), by rw [e1]; exact hR⟩
        · refine r_iconst C dX11_barred_38 ?_
          refine r_goto 43 C dX11_barred_39 (by decide) ?_
          refine r_iret C dX11_barred_43 ?_
          have e1 : oBarred a x d A = (if barA A a x d = true then 1 else 0, A) := by unfold oBarred; repeat (first | rw [if_pos (by omega)] | rw [if_neg (by omega)])
          exact ⟨_, rfl, by rw [e1]; first | (rw [if_pos h35]) | (rw [if_neg h35]), by rw [e1]; exact hR⟩
      · refine r_aload_n C dX11_barred_21 rfl ?_
        refine r_ldc C dX11_barred_22 kc_X11_72 ?_
        refine r_cvi (c := 1) C dX11_barred_24 mv_X11_68 (c_X11_finding e l _ _) (by decide) rfl rfl rfl rfl (by decide) rfl rfl (Nat.le_of_ble_eq_true rfl) (fun z24 σ24 h24 => ?_)
        obtain ⟨rfl, rfl⟩ := h24
        refine r_iret C dX11_barred_27 ?_
        have e1 : oBarred a x d A = fnd A (-100001) := by unfold oBarred; repeat (first | rw [if_pos (by omega)] | rw [if_neg (by omega)])
        exact ⟨_, rfl, by rw [e1]; rfl, by rw [e1]; exact rel_mfnd hR _⟩
set_option maxRecDepth 20000 in
theorem m_chosen (e : qR) (l : Launch) (σ : qSt) (a x d : Int) (A : aSt) (hR : RelM σ A) (hA : AOk A) (h_a : InI a) (h_x : InI x) (h_d : InI d)  : CM (EM e) l yX11_chosen cX11_chosen 5 (some .int) 20 [qr 0 0, qi a, qi x, qi d] σ (Ri fun z σ' => z = (oChosen a x d A).1 ∧ RelM σ' (oChosen a x d A).2) := by
  refine CM.mk tM_ok (by decide +kernel) (Nat.le_of_ble_eq_true rfl) (fun G C => ?_)
  show G σ 0 [some (qr 0 0), some (qi a), some (qi x), some (qi d), none] []
  obtain ⟨hb, e0, n0, m0, e1w, n1, m1, e2t, n2, m2, e3l, n3, m3, hk0, hk20⟩ := mF hR hA
  refine r_iload_n C dX11_chosen_0 rfl ?_
  refine r_csi C dX11_chosen_1 ms_X11_132 (c_X11_isLand e l _ _ (by omega)) (by decide) rfl rfl (Nat.le_of_ble_eq_true rfl) (fun z1 σ1 h1 => ?_)
  obtain ⟨rfl, rfl⟩ := h1
  refine r_ifb_eq 24 C dX11_chosen_4 (by decide) (fun h4 => ?_) (fun h4 => ?_)
  · refine r_aload_n C dX11_chosen_24 rfl ?_
    refine r_ldc C dX11_chosen_25 kc_X11_72 ?_
    refine r_cvi (c := 1) C dX11_chosen_27 mv_X11_68 (c_X11_finding e l _ _) (by decide) rfl rfl rfl rfl (by decide) rfl rfl (Nat.le_of_ble_eq_true rfl) (fun z27 σ27 h27 => ?_)
    obtain ⟨rfl, rfl⟩ := h27
    refine r_iret C dX11_chosen_30 ?_
    have e1 : oChosen a x d A = fnd A (-100001) := by unfold oChosen; repeat (first | rw [if_pos (by omega)] | rw [if_neg (by omega)])
    exact ⟨_, rfl, by rw [e1]; rfl, by rw [e1]; exact rel_mfnd hR _⟩
  · refine r_iload_n C dX11_chosen_7 rfl ?_
    refine r_iconst C dX11_chosen_8 ?_
    refine r_bipush C dX11_chosen_9 ?_
    refine r_csi C dX11_chosen_11 ms_X11_60 (c_X11_within e l _ _ _ _ (by omega) (by omega) (by omega)) (by decide) rfl rfl (Nat.le_of_ble_eq_true rfl) (fun z11 σ11 h11 => ?_)
    obtain ⟨rfl, rfl⟩ := h11
    refine r_ifb_eq 24 C dX11_chosen_14 (by decide) (fun h14 => ?_) (fun h14 => ?_)
    · refine r_aload_n C dX11_chosen_24 rfl ?_
      refine r_ldc C dX11_chosen_25 kc_X11_72 ?_
      refine r_cvi (c := 1) C dX11_chosen_27 mv_X11_68 (c_X11_finding e l _ _) (by decide) rfl rfl rfl rfl (by decide) rfl rfl (Nat.le_of_ble_eq_true rfl) (fun z27 σ27 h27 => ?_)
      obtain ⟨rfl, rfl⟩ := h27
      refine r_iret C dX11_chosen_30 ?_
      have e1 : oChosen a x d A = fnd A (-100001) := by unfold oChosen; repeat (first | rw [if_pos (by omega)] | rw [if_neg (by omega)])
      exact ⟨_, rfl, by rw [e1]; rfl, by rw [e1]; exact rel_mfnd hR _⟩
    · refine r_iload_n C dX11_chosen_17 rfl ?_
      refine r_csi C dX11_chosen_18 ms_X11_135 (c_X11_isDay e l _ _ (by omega)) (by decide) rfl rfl (Nat.le_of_ble_eq_true rfl) (fun z18 σ18 h18 => ?_)
      obtain ⟨rfl, rfl⟩ := h18
      refine r_ifb_ne 31 C dX11_chosen_21 (by decide) (fun h21 => ?_) (fun h21 => ?_)
      · refine r_aload_n C dX11_chosen_31 rfl ?_
        refine r_iload_n C dX11_chosen_32 rfl ?_
        refine r_iload_n C dX11_chosen_33 rfl ?_
        refine r_iload_n C dX11_chosen_34 rfl ?_
        refine r_cvi (c := 1) C dX11_chosen_35 mv_X11_144 (c_X11_chosenOf e l _ _ _ _ A hR hA (by omega) (by omega) (by omega)) (by decide) rfl rfl rfl rfl (by decide) rfl rfl (Nat.le_of_ble_eq_true rfl) (fun z35 σ35 h35 => ?_)
        obtain ⟨rfl, rfl⟩ := h35
        have cr := cho_rng hA a x d
        refine r_istore C dX11_chosen_38 rfl rfl (by decide) ?_
        refine r_iload C dX11_chosen_40 rfl ?_
        refine r_if_ge 54 C dX11_chosen_42 (by decide) (by omega) (fun h42 => ?_) (fun h42 => ?_)
        · refine r_iload C dX11_chosen_54 rfl ?_
          refine r_iret C dX11_chosen_56 ?_
          first
          | (have e1 : oChosen a x d A = fnd A (-100006) := by unfold oChosen; repeat (first | rw [if_pos (by omega)] | rw [if_neg (by omega)])
             exact ⟨_, rfl, by rw [e1]; rfl, by rw [e1]; exact rel_mfnd hR _⟩)
          | (have e1 : oChosen a x d A = (choA A a x d, A) := by unfold oChosen; repeat (first | rw [if_pos (by omega)] | rw [if_neg (by omega)])
             exact ⟨_, rfl, by rw [e1], by rw [e1]; exact hR⟩)
        · refine r_aload_n C dX11_chosen_45 rfl ?_
          refine r_ldc C dX11_chosen_46 kc_X11_67 ?_
          refine r_cvi (c := 1) C dX11_chosen_48 mv_X11_68 (c_X11_finding e l _ _) (by decide) rfl rfl rfl rfl (by decide) rfl rfl (Nat.le_of_ble_eq_true rfl) (fun z48 σ48 h48 => ?_)
          obtain ⟨rfl, rfl⟩ := h48
          refine r_goto 56 C dX11_chosen_51 (by decide) ?_
          refine r_iret C dX11_chosen_56 ?_
          first
          | (have e1 : oChosen a x d A = fnd A (-100006) := by unfold oChosen; repeat (first | rw [if_pos (by omega)] | rw [if_neg (by omega)])
             exact ⟨_, rfl, by rw [e1]; rfl, by rw [e1]; exact rel_mfnd hR _⟩)
          | (have e1 : oChosen a x d A = (choA A a x d, A) := by unfold oChosen; repeat (first | rw [if_pos (by omega)] | rw [if_neg (by omega)])
             exact ⟨_, rfl, by rw [e1], by rw [e1]; exact hR⟩)
      · refine r_aload_n C dX11_chosen_24 rfl ?_
        refine r_ldc C dX11_chosen_25 kc_X11_72 ?_
        refine r_cvi (c := 1) C dX11_chosen_27 mv_X11_68 (c_X11_finding e l _ _) (by decide) rfl rfl rfl rfl (by decide) rfl rfl (Nat.le_of_ble_eq_true rfl) (fun z27 σ27 h27 => ?_)
        obtain ⟨rfl, rfl⟩ := h27
        refine r_iret C dX11_chosen_30 ?_
        have e1 : oChosen a x d A = fnd A (-100001) := by unfold oChosen; repeat (first | rw [if_pos (by omega)] | rw [if_neg (by omega)])
        exact ⟨_, rfl, by rw [e1]; rfl, by rw [e1]; exact rel_mfnd hR _⟩
set_option maxRecDepth 20000 in
theorem m_lawful (e : qR) (l : Launch) (σ : qSt) (w a d : Int) (A : aSt) (hR : RelM σ A) (hA : AOk A) (h_w : InI w) (h_a : InI a) (h_d : InI d)  : CM (EM e) l yX11_lawful cX11_lawful 4 (some .int) 20 [qr 0 0, qi w, qi a, qi d] σ (Ri fun z σ' => z = (oLawful w a d A).1 ∧ RelM σ' (oLawful w a d A).2) := by
  refine CM.mk tM_ok (by decide +kernel) (Nat.le_of_ble_eq_true rfl) (fun G C => ?_)
  show G σ 0 [some (qr 0 0), some (qi w), some (qi a), some (qi d)] []
  obtain ⟨hb, e0, n0, m0, e1w, n1, m1, e2t, n2, m2, e3l, n3, m3, hk0, hk20⟩ := mF hR hA
  refine r_aload_n C dX11_lawful_0 rfl ?_
  refine r_iload_n C dX11_lawful_1 rfl ?_
  refine r_cvi (c := 1) C dX11_lawful_2 mv_X11_85 (c_X11_isWording e l _ _ hb (by omega)) (by decide) rfl rfl rfl rfl (by decide) rfl rfl (Nat.le_of_ble_eq_true rfl) (fun z2 σ2 h2 => ?_)
  obtain ⟨rfl, rfl⟩ := h2
  refine r_ifb_eq 22 C dX11_lawful_5 (by decide) (fun h5 => ?_) (fun h5 => ?_)
  · refine r_aload_n C dX11_lawful_22 rfl ?_
    refine r_ldc C dX11_lawful_23 kc_X11_72 ?_
    refine r_cvi (c := 1) C dX11_lawful_25 mv_X11_68 (c_X11_finding e l _ _) (by decide) rfl rfl rfl rfl (by decide) rfl rfl (Nat.le_of_ble_eq_true rfl) (fun z25 σ25 h25 => ?_)
    obtain ⟨rfl, rfl⟩ := h25
    refine r_iret C dX11_lawful_28 ?_
    have e1 : oLawful w a d A = fnd A (-100001) := by unfold oLawful; repeat (first | rw [if_pos (by omega)] | rw [if_neg (by omega)])
    exact ⟨_, rfl, by rw [e1]; rfl, by rw [e1]; exact rel_mfnd hR _⟩
  · refine r_iload_n C dX11_lawful_8 rfl ?_
    refine r_csi C dX11_lawful_9 ms_X11_132 (c_X11_isLand e l _ _ (by omega)) (by decide) rfl rfl (Nat.le_of_ble_eq_true rfl) (fun z9 σ9 h9 => ?_)
    obtain ⟨rfl, rfl⟩ := h9
    refine r_ifb_eq 22 C dX11_lawful_12 (by decide) (fun h12 => ?_) (fun h12 => ?_)
    · refine r_aload_n C dX11_lawful_22 rfl ?_
      refine r_ldc C dX11_lawful_23 kc_X11_72 ?_
      refine r_cvi (c := 1) C dX11_lawful_25 mv_X11_68 (c_X11_finding e l _ _) (by decide) rfl rfl rfl rfl (by decide) rfl rfl (Nat.le_of_ble_eq_true rfl) (fun z25 σ25 h25 => ?_)
      obtain ⟨rfl, rfl⟩ := h25
      refine r_iret C dX11_lawful_28 ?_
      have e1 : oLawful w a d A = fnd A (-100001) := by unfold oLawful; repeat (first | rw [if_pos (by omega)] | rw [if_neg (by omega)])
      exact ⟨_, rfl, by rw [e1]; rfl, by rw [e1]; exact rel_mfnd hR _⟩
    · refine r_iload_n C dX11_lawful_15 rfl ?_
      refine r_csi C dX11_lawful_16 ms_X11_135 (c_X11_isDay e l _ _ (by omega)) (by decide) rfl rfl (Nat.le_of_ble_eq_true rfl) (fun z16 σ16 h16 => ?_)
      obtain ⟨rfl, rfl⟩ := h16
      refine r_ifb_ne 29 C dX11_lawful_19 (by decide) (fun h19 => ?_) (fun h19 => ?_)
      · refine r_aload_n C dX11_lawful_29 rfl ?_
        refine r_iload_n C dX11_lawful_30 rfl ?_
        refine r_iload_n C dX11_lawful_31 rfl ?_
        refine r_iload_n C dX11_lawful_32 rfl ?_
        refine r_cvi (c := 1) C dX11_lawful_33 mv_X11_147 (c_X11_isLawful e l _ _ _ _ A hR hA (by omega) (by omega) (by omega)) (by decide) rfl rfl rfl rfl (by decide) rfl rfl (Nat.le_of_ble_eq_true rfl) (fun z33 σ33 h33 => ?_)
        obtain ⟨rfl, rfl⟩ := h33
        refine r_ifb_eq 43 C dX11_lawful_36 (by decide) (fun h36 => ?_) (fun h36 => ?_)
        · refine r_iconst C dX11_lawful_43 ?_
          refine r_iret C dX11_lawful_44 ?_
          have e1 : oLawful w a d A = (if lawA A w a d = true then 1 else 0, A) := by unfold oLawful; repeat (first | rw [if_pos (by omega)] | rw [if_neg (by omega)])
          exact ⟨_, rfl, by rw [e1]; first | (rw [if_pos h36]) | (rw [if_neg h36]), by rw [e1]; exact hR⟩
        · refine r_iconst C dX11_lawful_39 ?_
          refine r_goto 44 C dX11_lawful_40 (by decide) ?_
          refine r_iret C dX11_lawful_44 ?_
          have e1 : oLawful w a d A = (if lawA A w a d = true then 1 else 0, A) := by unfold oLawful; repeat (first | rw [if_pos (by omega)] | rw [if_neg (by omega)])
          exact ⟨_, rfl, by rw [e1]; first | (rw [if_pos h36]) | (rw [if_neg h36]), by rw [e1]; exact hR⟩
      · refine r_aload_n C dX11_lawful_22 rfl ?_
        refine r_ldc C dX11_lawful_23 kc_X11_72 ?_
        refine r_cvi (c := 1) C dX11_lawful_25 mv_X11_68 (c_X11_finding e l _ _) (by decide) rfl rfl rfl rfl (by decide) rfl rfl (Nat.le_of_ble_eq_true rfl) (fun z25 σ25 h25 => ?_)
        obtain ⟨rfl, rfl⟩ := h25
        refine r_iret C dX11_lawful_28 ?_
        have e1 : oLawful w a d A = fnd A (-100001) := by unfold oLawful; repeat (first | rw [if_pos (by omega)] | rw [if_neg (by omega)])
        exact ⟨_, rfl, by rw [e1]; rfl, by rw [e1]; exact rel_mfnd hR _⟩
