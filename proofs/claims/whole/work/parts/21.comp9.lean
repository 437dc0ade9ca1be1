/-! THE PLAN, as the class seeks it -/
def updF (f : Int → Int) (d v : Int) : Int → Int := fun j => if j = d then v else f j
abbrev plS : Type := Int × Int × (Int → Int)
def takeP (n c : Int) (dd : Int → Int) (S : plS) : plS := if c < S.1 then (c, 1, fun j => if 0 ≤ j ∧ j < n then dd j else S.2.2 j) else (S.1, S.2.1 + 1, S.2.2)
def gdD (rc : (Int → Int) → (Int → Int) → Int → (Int → Int) → plS → plS) (a o m : Int) (ca le : Int → Int) (c lp : Int) (dd : Int → Int) (S : plS) : Nat → plS
  | 0 => S
  | d + 1 => if o / 2 ^ d % 2 = 0 ∨ le d < m then gdD rc a o m ca le c lp dd S d else rc (updF ca d (bor (ca d) a)) (updF le d (le d - m)) (c + pop12 (bdf a (ca d))) (updF dd lp d) (gdD rc a o m ca le c lp dd S d)
def gd (A O M : Int → Int) (n : Int) : Nat → (Int → Int) → (Int → Int) → Int → (Int → Int) → plS → plS
  | 0 => fun _ _ c dd S => if S.1 < c then S else takeP n c dd S
  | r + 1 => fun ca le c dd S => if S.1 < c then S else gdD (gd A O M n r) (A (n - (r + 1))) (O (n - (r + 1))) (M (n - (r + 1))) ca le c (n - (r + 1)) dd S 4
def plR (S S' : plS) (k : Int) : Prop := 0 ≤ S'.1 ∧ S'.1 ≤ S.1 ∧ 0 ≤ S'.2.1 ∧ S'.2.1 ≤ S.2.1 + k
theorem gd_rng (A O M : Int → Int) (n : Int) : ∀ (r : Nat) (ca le : Int → Int) (c : Int) (dd : Int → Int) (S : plS), 0 ≤ c → 0 ≤ S.1 → 0 ≤ S.2.1 → plR S (gd A O M n r ca le c dd S) (4 ^ r) := by
  intro r
  induction r with
  | zero =>
    intro ca le c dd S hc h1 h2
    unfold plR
    simp only [gd, takeP]
    split
    · simp; omega
    · split
      · simp; omega
      · simp; omega
  | succ r ih =>
    intro ca le c dd S hc h1 h2
    have hp : (0 : Int) ≤ 4 ^ r := Int.pow_nonneg (by decide)
    have key : ∀ d : Nat, plR S (gdD (gd A O M n r) (A (n - (r + 1))) (O (n - (r + 1))) (M (n - (r + 1))) ca le c (n - (r + 1)) dd S d) (d * 4 ^ r) := by
      intro d
      induction d with
      | zero => unfold plR; simp [gdD]; omega
      | succ d ihd =>
        unfold plR at ihd ⊢
        have e : ((d + 1 : Nat) : Int) * 4 ^ r = (d : Int) * 4 ^ r + 4 ^ r := by rw [Int.natCast_add, Int.add_mul]; simp
        simp only [gdD]
        split
        · omega
        · have h3 := ih (updF ca d (bor (ca d) (A (n - (r + 1))))) (updF le d (le d - M (n - (r + 1)))) (c + pop12 (bdf (A (n - (r + 1))) (ca d))) (updF dd (n - (r + 1)) d) (gdD (gd A O M n r) (A (n - (r + 1))) (O (n - (r + 1))) (M (n - (r + 1))) ca le c (n - (r + 1)) dd S d) (by have := pop12_r (z := bdf (A (n - (r + 1))) (ca d)) (by unfold bdf; omega); omega) (by omega) (by omega)
          unfold plR at h3
          omega
    simp only [gd]
    have e4 : (4 : Int) ^ (r + 1) = 4 * 4 ^ r := by rw [Int.pow_succ]; omega
    split
    · unfold plR; rw [e4]; omega
    · have := key 4
      unfold plR at this ⊢
      rw [e4]
      exact this
def pS (σ : qSt) : plS := (σ 15 0 7, σ 15 0 8, σ 22 0)
theorem Bd.cpy {σ : qSt} (h : Bd σ) {k1 k2 : Nat} {i1 sp i2 dp m : Int} (hk : k1 ≠ 206) (hk0 : k1 ≠ 0) : Bd (qCpy σ k1 i1 sp k2 i2 dp m) := by
  intro a b c h1 h2
  simp only [qCpy]
  split
  · exact h _ _ _ hk (by omega)
  · exact h a b c h1 h2
abbrev gAg (σ σ1 : qSt) : Prop := ∀ (a : Nat) (b c : Int), a ≠ 19 → a ≠ 22 → ¬ (a = 15 ∧ (c = 7 ∨ c = 8)) → σ1 a b c = σ a b c
def tkQ (σ : qSt) (c : Int) (σ1 : qSt) : Prop := (∀ (a : Nat) (b d : Int), a ≠ 22 → ¬ (a = 15 ∧ (d = 7 ∨ d = 8)) → σ1 a b d = σ a b d) ∧ Bd σ1 ∧ pS σ1 = takeP (σ 15 0 10) c (σ 19 0) (pS σ)
theorem tk_yes {σ : qSt} {c : Int} (hb : Bd σ) (h : c < σ 15 0 7) (hc : -2000000 ≤ c ∧ c ≤ 2000000) : tkQ σ c (qUp (qCpy (qUp (qUp σ 15 0 7 c) 15 0 8 0) 19 0 0 22 0 0 (σ 15 0 10)) 15 0 8 (0 + 1)) := by
  refine ⟨fun a b d h1 h2 => ?_, (Bd.cpy ((hb.up hc).up (by omega)) (by decide) (by decide)).up (by omega), ?_⟩
  · simp only [qUp, qCpy]
    rw [if_neg (by omega), if_neg (by omega), if_neg (by omega), if_neg (by omega)]
  · rw [takeP, if_pos (show c < (pS σ).1 from h)]
    refine Prod.ext ?_ (Prod.ext ?_ ?_)
    · simp [pS, qUp, qCpy]
    · simp [pS, qUp]
    · funext j
      simp [pS, qUp, qCpy]
theorem tk_no {σ : qSt} {c : Int} (hb : Bd σ) (h : ¬ c < σ 15 0 7) (hc : σ 15 0 8 ≤ 1000000) : tkQ σ c (qUp σ 15 0 8 (σ 15 0 8 + 1)) := by
  refine ⟨fun a b d h1 h2 => ?_, hb.up (by have := hb 15 0 8 (by decide) (by omega); omega), ?_⟩
  · simp only [qUp]
    rw [if_neg (by omega)]
  · rw [takeP, if_neg (show ¬ c < (pS σ).1 from h)]
    refine Prod.ext ?_ (Prod.ext ?_ ?_)
    · simp [pS, qUp]
    · simp [pS, qUp]
    · funext j
      simp [pS, qUp]
set_option maxRecDepth 20000 in
theorem c_X7_takePlan (e : qR) (l : Launch) (σ : qSt) (c : Int) (hb : Bd σ) (hn : 0 ≤ σ 15 0 10 ∧ σ 15 0 10 ≤ 7) (hc : -2000000 ≤ c ∧ c ≤ 2000000) (hq : σ 15 0 8 ≤ 1000000) : CM (ED e) l yX7_takePlan cX7_takePlan 2 none 2 [qr 15 0, qi c] σ (Rv fun σ' => tkQ σ c σ') := by
  refine CM.mk tD_ok (by decide +kernel) (Nat.le_of_ble_eq_true rfl) (fun G C => ?_)
  show G σ 0 [some (qr 15 0), some (qi c)] []
  refine r_iload_n C dX7_takePlan_0 rfl ?_
  refine r_aload_n C dX7_takePlan_1 rfl ?_
  refine r_get_i (c := 1) 7 C dX7_takePlan_2 fl_X7_33 rfl rfl rfl rfl (by decide) ?_
  have b2 := hb 15 0 7 (by omega) (by omega)
  refine r_ic_ge 35 C dX7_takePlan_5 (by decide) (by omega) (by omega) (fun h5 => ?_) (fun h5 => ?_)
  · refine r_aload_n C dX7_takePlan_35 rfl ?_
    refine r_dup C dX7_takePlan_36 ?_
    refine r_get_i (c := 1) 8 C dX7_takePlan_37 fl_X7_37 rfl rfl rfl rfl (by decide) ?_
    have b37 := hb 15 0 8 (by omega) (by omega)
    refine r_iconst C dX7_takePlan_40 ?_
    refine r_iadd C dX7_takePlan_41 ?_
    refine r_put_i (c := 1) 8 C dX7_takePlan_42 fw_X7_37 rfl rfl rfl rfl (by decide) rfl rfl ?_
    refine r_vret C dX7_takePlan_45 ?_
    first | exact ⟨rfl, tk_yes hb (by omega) hc⟩ | exact ⟨rfl, tk_no hb (by omega) hq⟩
  · refine r_aload_n C dX7_takePlan_8 rfl ?_
    refine r_iload_n C dX7_takePlan_9 rfl ?_
    refine r_put_i (c := 1) 7 C dX7_takePlan_10 fw_X7_33 rfl rfl rfl rfl (by decide) rfl rfl ?_
    refine r_aload_n C dX7_takePlan_13 rfl ?_
    refine r_iconst C dX7_takePlan_14 ?_
    refine r_put_i (c := 1) 8 C dX7_takePlan_15 fw_X7_37 rfl rfl rfl rfl (by decide) rfl rfl ?_
    refine r_aload_n C dX7_takePlan_18 rfl ?_
    refine r_get_r (c := 1) C dX7_takePlan_19 fl_X7_21 rfl rfl rfl (by decide) rfl ?_
    refine r_iconst C dX7_takePlan_22 ?_
    refine r_aload_n C dX7_takePlan_23 rfl ?_
    refine r_get_r (c := 1) C dX7_takePlan_24 fl_X7_30 rfl rfl rfl (by decide) rfl ?_
    refine r_iconst C dX7_takePlan_27 ?_
    refine r_aload_n C dX7_takePlan_28 rfl ?_
    refine r_get_i (c := 1) 10 C dX7_takePlan_29 fl_X7_44 rfl rfl rfl rfl (by decide) ?_
    refine r_v (b := (σ 15 0 10)) (by simp [qUp, qCpy]) ?_
    have b29 := hb 15 0 10 (by omega) (by omega)
    refine r_acopy (c1 := 1) (N1 := 7) (c2 := 1) (N2 := 7) C dX7_takePlan_32 ac_X7_82 rfl rfl (by decide) rfl rfl (by decide) (by omega) (by omega) (by omega) (by omega) (by omega) (by decide) (Nat.le_of_ble_eq_true rfl) ?_ (hnat := ac_nat) (hst := ac_st) (hini := ac_ini)
    refine r_aload_n C dX7_takePlan_35 rfl ?_
    refine r_dup C dX7_takePlan_36 ?_
    refine r_get_i (c := 1) 8 C dX7_takePlan_37 fl_X7_37 rfl rfl rfl rfl (by decide) ?_
    refine r_v (b := 0) (by simp [qUp, qCpy]) ?_
    refine r_iconst C dX7_takePlan_40 ?_
    refine r_iadd C dX7_takePlan_41 ?_
    refine r_put_i (c := 1) 8 C dX7_takePlan_42 fw_X7_37 rfl rfl rfl rfl (by decide) rfl rfl ?_
    refine r_vret C dX7_takePlan_45 ?_
    first | exact ⟨rfl, tk_yes hb (by omega) hc⟩ | exact ⟨rfl, tk_no hb (by omega) hq⟩
def gPre (σ : qSt) (r : Nat) (lp c : Int) (dd : Int → Int) : Prop := Bd σ ∧ 0 ≤ σ 15 0 10 ∧ σ 15 0 10 ≤ 7 ∧ lp = σ 15 0 10 - r ∧ 0 ≤ lp ∧ (∀ j, 0 ≤ j → j < 7 → 0 ≤ σ 16 0 j ∧ σ 16 0 j < 256 ∧ 0 ≤ σ 17 0 j ∧ σ 17 0 j < 16 ∧ 0 ≤ σ 18 0 j ∧ σ 18 0 j ≤ 60) ∧ (∀ d, 0 ≤ d → d < 4 → 0 ≤ σ 20 0 d ∧ σ 20 0 d < 256 ∧ 0 ≤ σ 21 0 d ∧ σ 21 0 d ≤ 100) ∧ 0 ≤ c ∧ c ≤ 12 * lp ∧ 0 ≤ σ 15 0 7 ∧ σ 15 0 7 ≤ 1000000 ∧ 0 ≤ σ 15 0 8 ∧ σ 15 0 8 + 4 ^ r ≤ 100000 ∧ ∀ j, 0 ≤ j → j < lp → σ 19 0 j = dd j
def gPost (σ : qSt) (r : Nat) (lp c : Int) (dd : Int → Int) (σ1 : qSt) : Prop := gAg σ σ1 ∧ Bd σ1 ∧ (∀ j, 0 ≤ j → j < lp → σ1 19 0 j = dd j) ∧ pS σ1 = gd (σ 16 0) (σ 17 0) (σ 18 0) (σ 15 0 10) r (σ 20 0) (σ 21 0) c dd (pS σ)
theorem g_cut {σ : qSt} {r : Nat} {lp c : Int} {dd : Int → Int} (h : gPre σ r lp c dd) (hc : σ 15 0 7 < c) : gPost σ r lp c dd σ := by
  refine ⟨fun _ _ _ _ _ _ => rfl, h.1, h.2.2.2.2.2.2.2.2.2.2.2.2.2, ?_⟩
  cases r with
  | zero => simp only [gd]; rw [if_pos (by exact hc)]
  | succ r => simp only [gd]; rw [if_pos (by exact hc)]
theorem g_leaf {σ σ1 : qSt} {lp c : Int} {dd : Int → Int} (h : gPre σ 0 lp c dd) (hc : ¬ σ 15 0 7 < c) (ht : tkQ σ c σ1) : gPost σ 0 lp c dd σ1 := by
  obtain ⟨t1, t2, t3⟩ := ht
  obtain ⟨p1, p2, p3, p4, p5, p6, p7, p8, p9, p10, p11, p12, p13, p14⟩ := h
  refine ⟨fun a b d q1 q2 q3 => t1 a b d q2 q3, t2, fun j q1 q2 => by rw [t1 19 0 j (by decide) (by omega)]; exact p14 j q1 q2, ?_⟩
  simp only [gd]
  rw [if_neg (by exact hc), t3]
  unfold takeP
  split
  · congr 2
    funext j
    split
    · next q => exact p14 j q.1 (by omega)
    · rfl
  · rfl
def gLI (σ : qSt) (r : Nat) (lp c : Int) (dd : Int → Int) (d : Nat) (σ1 : qSt) : Prop := gAg σ σ1 ∧ Bd σ1 ∧ (∀ j, 0 ≤ j → j < lp → σ1 19 0 j = dd j) ∧ pS σ1 = gdD (gd (σ 16 0) (σ 17 0) (σ 18 0) (σ 15 0 10) r) (σ 16 0 lp) (σ 17 0 lp) (σ 18 0 lp) (σ 20 0) (σ 21 0) c lp dd (pS σ) d
theorem g_end {σ σ1 : qSt} {r : Nat} {lp c : Int} {dd : Int → Int} (h : gPre σ (r + 1) lp c dd) (hc : ¬ σ 15 0 7 < c) (hI : gLI σ r lp c dd 4 σ1) : gPost σ (r + 1) lp c dd σ1 := by
  obtain ⟨i1, i2, i3, i4⟩ := hI
  refine ⟨i1, i2, i3, ?_⟩
  have e : lp = σ 15 0 10 - ((r : Int) + 1) := by have := h.2.2.2.1; push_cast at this; exact this
  simp only [gd]
  rw [if_neg (by exact hc), i4, e]
theorem g_skip {σ σ1 : qSt} {r : Nat} {lp c : Int} {dd : Int → Int} {d : Nat} (hI : gLI σ r lp c dd d σ1) (h : σ 17 0 lp / 2 ^ d % 2 = 0 ∨ σ 21 0 d < σ 18 0 lp) : gLI σ r lp c dd (d + 1) σ1 := by
  obtain ⟨i1, i2, i3, i4⟩ := hI
  refine ⟨i1, i2, i3, ?_⟩
  simp only [gdD]
  rw [if_pos h, i4]
def g2 (σ1 : qSt) (lp : Int) (d : Int) : qSt := qUp (qUp (qUp σ1 20 0 d (bor (σ1 20 0 d) (σ1 16 0 lp))) 21 0 d (σ1 21 0 d - σ1 18 0 lp)) 19 0 lp d
theorem gl_rng {σ σ1 : qSt} {r : Nat} {lp c : Int} {dd : Int → Int} {d : Nat} (h : gPre σ (r + 1) lp c dd) (hI : gLI σ r lp c dd d σ1) (hd : d ≤ 4) : 0 ≤ σ1 15 0 7 ∧ σ1 15 0 7 ≤ 1000000 ∧ 0 ≤ σ1 15 0 8 ∧ σ1 15 0 8 + (4 - (d : Int)) * 4 ^ r ≤ 100000 := by
  obtain ⟨p1, p2, p3, p4, p5, p6, p7, p8, p9, p10, p11, p12, p13, p14⟩ := h
  obtain ⟨i1, i2, i3, i4⟩ := hI
  have hp : (0 : Int) ≤ 4 ^ r := Int.pow_nonneg (by decide)
  have e4 : (4 : Int) ^ (r + 1) = 4 * 4 ^ r := by rw [Int.pow_succ]; omega
  rw [e4] at p13
  have key : ∀ d : Nat, plR (pS σ) (gdD (gd (σ 16 0) (σ 17 0) (σ 18 0) (σ 15 0 10) r) (σ 16 0 lp) (σ 17 0 lp) (σ 18 0 lp) (σ 20 0) (σ 21 0) c lp dd (pS σ) d) (d * 4 ^ r) := by
    intro d
    induction d with
    | zero => unfold plR; simp [gdD, pS]; omega
    | succ d ihd =>
      unfold plR at ihd ⊢
      have e : ((d + 1 : Nat) : Int) * 4 ^ r = (d : Int) * 4 ^ r + 4 ^ r := by rw [Int.natCast_add, Int.add_mul]; simp
      simp only [gdD]
      split
      · omega
      · have h3 := gd_rng (σ 16 0) (σ 17 0) (σ 18 0) (σ 15 0 10) r (updF (σ 20 0) d (bor (σ 20 0 d) (σ 16 0 lp))) (updF (σ 21 0) d (σ 21 0 d - σ 18 0 lp)) (c + pop12 (bdf (σ 16 0 lp) (σ 20 0 d))) (updF dd lp d) (gdD (gd (σ 16 0) (σ 17 0) (σ 18 0) (σ 15 0 10) r) (σ 16 0 lp) (σ 17 0 lp) (σ 18 0 lp) (σ 20 0) (σ 21 0) c lp dd (pS σ) d) (by have := pop12_r (z := bdf (σ 16 0 lp) (σ 20 0 d)) (by unfold bdf; omega); omega) (by omega) (by omega)
        unfold plR at h3
        omega
  have k := key d
  rw [← i4] at k
  unfold plR pS at k
  simp only at k
  have e5 : (4 - (d : Int)) * 4 ^ r = 4 * 4 ^ r - (d : Int) * 4 ^ r := by rw [Int.sub_mul]
  rw [e5]
  omega
theorem gl_pre {σ σ1 : qSt} {r : Nat} {lp c c' : Int} {dd : Int → Int} {d : Nat} (h : gPre σ (r + 1) lp c dd) (hI : gLI σ r lp c dd d σ1) (hd : d < 4) (hm : ¬ σ 21 0 d < σ 18 0 lp) (hc' : c' = c + pop12 (bdf (σ 16 0 lp) (σ 20 0 d))) : gPre (g2 σ1 lp d) r (lp + 1) c' (updF dd lp d) := by
  have hr := gl_rng h hI (by omega)
  obtain ⟨p1, p2, p3, p4, p5, p6, p7, p8, p9, p10, p11, p12, p13, p14⟩ := h
  obtain ⟨i1, i2, i3, i4⟩ := hI
  have hlp : lp < 7 := by omega
  have q6 := p6 lp p5 hlp
  have q7 := p7 d (by omega) (by omega)
  have hbo := bor_r (a := σ 20 0 d) (b := σ 16 0 lp) ⟨q7.1, q7.2.1⟩ ⟨q6.1, q6.2.1⟩
  have hpp := pop12_r (z := bdf (σ 16 0 lp) (σ 20 0 d)) (by unfold bdf; omega)
  have e16 : ∀ j, σ1 16 0 j = σ 16 0 j := fun j => i1 16 0 j (by decide) (by decide) (by omega)
  have e17 : ∀ j, σ1 17 0 j = σ 17 0 j := fun j => i1 17 0 j (by decide) (by decide) (by omega)
  have e18 : ∀ j, σ1 18 0 j = σ 18 0 j := fun j => i1 18 0 j (by decide) (by decide) (by omega)
  have e20 : ∀ j, σ1 20 0 j = σ 20 0 j := fun j => i1 20 0 j (by decide) (by decide) (by omega)
  have e21 : ∀ j, σ1 21 0 j = σ 21 0 j := fun j => i1 21 0 j (by decide) (by decide) (by omega)
  have e10 := i1 15 0 10 (by decide) (by decide) (by omega)
  have hp : (0 : Int) < 4 ^ r := Int.pow_pos (by decide)
  have e5 : (4 : Int) ^ r ≤ (4 - (d : Int)) * 4 ^ r := by
    have := Int.mul_le_mul_of_nonneg_right (show (1 : Int) ≤ 4 - (d : Int) by omega) (Int.le_of_lt hp)
    omega
  refine ⟨((i2.up (by rw [e20, e16]; omega)).up (by rw [e21, e18]; omega)).up (by omega), ?_, ?_, ?_, by omega, fun j z1 z2 => ?_, fun j z1 z2 => ?_, by omega, by omega, ?_, ?_, ?_, ?_, fun j z1 z2 => ?_⟩
  · simp [g2, qUp, e10]; omega
  · simp [g2, qUp, e10]; omega
  · simp [g2, qUp, e10]; omega
  · simp [g2, qUp, e16, e17, e18]; exact p6 j z1 z2
  · simp only [g2]
    by_cases q : j = d
    · subst q
      simp [qUp, e16, e18, e20, e21]
      omega
    · simp [qUp, q, e20, e21]
      exact p7 j z1 z2
  · simp [g2, qUp]; omega
  · simp [g2, qUp]; omega
  · simp [g2, qUp]; omega
  · simp [g2, qUp]; omega
  · simp only [g2, updF]
    by_cases q : j = lp
    · simp [qUp, q]
    · simp [qUp, q]
      exact i3 j z1 (by omega)
theorem gl_step {σ σ1 σ3 : qSt} {r : Nat} {lp c c' v : Int} {dd : Int → Int} {d : Nat} (h : gPre σ (r + 1) lp c dd) (hI : gLI σ r lp c dd d σ1) (hd : d < 4) (ho : ¬ σ 17 0 lp / 2 ^ d % 2 = 0) (hm : ¬ σ 21 0 d < σ 18 0 lp) (hc' : c' = c + pop12 (bdf (σ 16 0 lp) (σ 20 0 d))) (hQ : gPost (g2 σ1 lp d) r (lp + 1) c' (updF dd lp d) σ3) (hv : v = σ3 21 0 d + σ3 18 0 lp) : gLI σ r lp c dd (d + 1) (qUp (qUp σ3 20 0 d (σ1 20 0 d)) 21 0 d v) := by
  obtain ⟨p1, p2, p3, p4, p5, p6, p7, p8, p9, p10, p11, p12, p13, p14⟩ := h
  obtain ⟨i1, i2, i3, i4⟩ := hI
  obtain ⟨t1, t2, t3, t4⟩ := hQ
  have q7 := p7 d (by omega) (by omega)
  have e16 : ∀ j, σ1 16 0 j = σ 16 0 j := fun j => i1 16 0 j (by decide) (by decide) (by omega)
  have e17 : ∀ j, σ1 17 0 j = σ 17 0 j := fun j => i1 17 0 j (by decide) (by decide) (by omega)
  have e18 : ∀ j, σ1 18 0 j = σ 18 0 j := fun j => i1 18 0 j (by decide) (by decide) (by omega)
  have e20 : ∀ j, σ1 20 0 j = σ 20 0 j := fun j => i1 20 0 j (by decide) (by decide) (by omega)
  have e21 : ∀ j, σ1 21 0 j = σ 21 0 j := fun j => i1 21 0 j (by decide) (by decide) (by omega)
  have e10 := i1 15 0 10 (by decide) (by decide) (by omega)
  have f21 : σ3 21 0 d = σ 21 0 d - σ 18 0 lp := by rw [t1 21 0 d (by decide) (by decide) (by omega)]; simp [g2, qUp, e21, e18]
  have f18 : σ3 18 0 lp = σ 18 0 lp := by rw [t1 18 0 lp (by decide) (by decide) (by omega)]; simp [g2, qUp, e18]
  have hv2 : v = σ 21 0 d := by omega
  refine ⟨fun a b x z1 z2 z3 => ?_, (t2.up (by rw [e20]; omega)).up (by omega), fun j z1 z2 => ?_, ?_⟩
  · by_cases k1 : a = 21 ∧ b = 0 ∧ x = d
    · obtain ⟨rfl, rfl, rfl⟩ := k1
      rw [qUp_eq, hv2]
    · rw [qUp_ne k1]
      by_cases k2 : a = 20 ∧ b = 0 ∧ x = d
      · obtain ⟨rfl, rfl, rfl⟩ := k2
        rw [qUp_eq, e20]
      · rw [qUp_ne k2, t1 a b x z1 z2 z3]
        unfold g2
        rw [qUp_ne (by omega), qUp_ne k1, qUp_ne k2]
        exact i1 a b x z1 z2 z3
  · rw [qUp_ne (by omega), qUp_ne (by omega), t3 j z1 (by omega)]
    simp only [updF]
    rw [if_neg (by omega)]
  · have s1 : pS (qUp (qUp σ3 20 0 d (σ1 20 0 d)) 21 0 d v) = pS σ3 := by
      unfold pS
      refine Prod.ext (by simp [qUp]) (Prod.ext (by simp [qUp]) ?_)
      funext j
      simp [qUp]
    have s2 : pS (g2 σ1 lp d) = pS σ1 := by
      unfold pS g2
      refine Prod.ext (by simp [qUp]) (Prod.ext (by simp [qUp]) ?_)
      funext j
      simp [qUp]
    have a16 : (g2 σ1 lp d) 16 0 = σ 16 0 := by funext j; simp [g2, qUp, e16]
    have a17 : (g2 σ1 lp d) 17 0 = σ 17 0 := by funext j; simp [g2, qUp, e17]
    have a18 : (g2 σ1 lp d) 18 0 = σ 18 0 := by funext j; simp [g2, qUp, e18]
    have a10 : (g2 σ1 lp d) 15 0 10 = σ 15 0 10 := by simp [g2, qUp, e10]
    have a20 : (g2 σ1 lp d) 20 0 = updF (σ 20 0) d (bor (σ 20 0 d) (σ 16 0 lp)) := by
      funext j
      simp only [g2, updF]
      by_cases q : j = d
      · simp [qUp, q, e20, e16]
      · simp [qUp, q, e20]
    have a21 : (g2 σ1 lp d) 21 0 = updF (σ 21 0) d (σ 21 0 d - σ 18 0 lp) := by
      funext j
      simp only [g2, updF]
      by_cases q : j = d
      · simp [qUp, q, e21, e18]
      · simp [qUp, q, e21]
    rw [s1, t4, s2, a16, a17, a18, a10, a20, a21, i4]
    simp only [gdD]
    rw [if_neg (by omega), hc']
set_option maxRecDepth 20000 in
theorem c_giveDays_0 (e : qR) (l : Launch) (σ : qSt) (lp c : Int) (dd : Int → Int) (hP : gPre σ 0 lp c dd) : CM (ED e) l yX7_giveDays cX7_giveDays 5 none (4 + 0) [qr 15 0, qi lp, qi c] σ (Rv fun σ' => gPost σ 0 lp c dd σ') := by
  refine CM.mk tD_ok (by decide +kernel) (Nat.le_of_ble_eq_true rfl) (fun G C => ?_)
  show G σ 0 [some (qr 15 0), some (qi lp), some (qi c), none, none] []
  obtain ⟨hb, p2, p3, p4, p5, p6, p7, p8, p9, p10, p11, p12, p13, p14⟩ := id hP
  have hp4 : (4 : Int) ^ 0 = 1 := rfl
  rw [hp4] at p13
  refine r_iload_n C dX7_giveDays_0 rfl ?_
  refine r_aload_n C dX7_giveDays_1 rfl ?_
  refine r_get_i (c := 1) 7 C dX7_giveDays_2 fl_X7_33 rfl rfl rfl rfl (by decide) ?_
  have b2 := hb 15 0 7 (by omega) (by omega)
  refine r_ic_le 9 C dX7_giveDays_5 (by decide) (by omega) (by omega) (fun h5 => ?_) (fun h5 => ?_)
  · refine r_iload_n C dX7_giveDays_9 rfl ?_
    refine r_aload_n C dX7_giveDays_10 rfl ?_
    refine r_get_i (c := 1) 10 C dX7_giveDays_11 fl_X7_44 rfl rfl rfl rfl (by decide) ?_
    have b11 := hb 15 0 10 (by omega) (by omega)
    refine r_ic_ge 23 C dX7_giveDays_14 (by decide) (by omega) (by omega) (fun h14 => ?_) (fun h14 => ?_)
    · refine r_aload_n C dX7_giveDays_23 rfl ?_
      refine r_iload_n C dX7_giveDays_24 rfl ?_
      refine r_cvv (c := 1) C dX7_giveDays_25 mv_X7_78 (c_X7_takePlan e l _ _ hP.1 (by omega) (by omega) (by omega)) (by decide) rfl rfl rfl rfl (by decide) rfl rfl (Nat.le_of_ble_eq_true rfl) (fun σ25 h25 => ?_)
      refine r_vret C dX7_giveDays_28 ?_
      exact ⟨rfl, g_leaf hP (by omega) h25⟩
    · exfalso; omega
  · refine r_vret C dX7_giveDays_8 ?_
    exact ⟨rfl, g_cut hP (by omega)⟩
set_option maxRecDepth 20000 in
theorem lp_giveDays {G : qSt → Nat → List (Option qV) → List qV → Prop} {Ret : Option qV → qSt → Prop} (e : qR) (l : Launch) (σ : qSt) (r : Nat) (lp c : Int) (dd : Int → Int) (hrec : ∀ (σ : qSt) (lp c : Int) (dd : Int → Int), gPre σ r lp c dd → CM (ED e) l yX7_giveDays cX7_giveDays 5 none (4 + r) [qr 15 0, qi lp, qi c] σ (Rv fun σ' => gPost σ r lp c dd σ')) (hP : gPre σ (r + 1) lp c dd) (hlt : lp < 7) (hc : ¬ σ 15 0 7 < c) (C : Cx (ED e) l RX7 cX7_giveDays 5 none (4 + (r + 1)) Ret G) (hR : ∀ σ', gPost σ (r + 1) lp c dd σ' → Ret none σ') : ∀ (k : Nat) (d : Nat) (o4 : Option qV) (σ1 : qSt), d + k = 4 → gLI σ r lp c dd d σ1 → G σ1 31 [some (qr 15 0), some (qi lp), some (qi c), some (qi (d : Int)), o4] [] := by
  intro k
  induction k with
  | zero =>
    intro d o4 σ1 hd hI
    obtain ⟨p1, p2, p3, p4, p5, p6, p7, p8, p9, p10, p11, p12, p13, p14⟩ := id hP
    have hb1 := hI.2.1
    have e16 := hI.1 16 0 lp (by decide) (by decide) (by omega)
    have e17 := hI.1 17 0 lp (by decide) (by decide) (by omega)
    have e18 := hI.1 18 0 lp (by decide) (by decide) (by omega)
    have e20 := hI.1 20 0 d (by decide) (by decide) (by omega)
    have e21 := hI.1 21 0 d (by decide) (by decide) (by omega)
    refine r_iload_n C dX7_giveDays_31 rfl ?_
    refine r_iconst C dX7_giveDays_32 ?_
    refine r_ic_ge 164 C dX7_giveDays_33 (by decide) (by omega) (by omega) (fun h33 => ?_) (fun h33 => ?_)
    · refine r_vret C dX7_giveDays_164 ?_
      rw [show d = 4 by omega] at hI
      exact hR _ (g_end hP hc hI)
    · exfalso; omega
  | succ k ih =>
    intro d o4 σ1 hd hI
    obtain ⟨p1, p2, p3, p4, p5, p6, p7, p8, p9, p10, p11, p12, p13, p14⟩ := id hP
    have hb1 := hI.2.1
    have e16 := hI.1 16 0 lp (by decide) (by decide) (by omega)
    have e17 := hI.1 17 0 lp (by decide) (by decide) (by omega)
    have e18 := hI.1 18 0 lp (by decide) (by decide) (by omega)
    have e20 := hI.1 20 0 d (by decide) (by decide) (by omega)
    have e21 := hI.1 21 0 d (by decide) (by decide) (by omega)
    refine r_iload_n C dX7_giveDays_31 rfl ?_
    refine r_iconst C dX7_giveDays_32 ?_
    refine r_ic_ge 164 C dX7_giveDays_33 (by decide) (by omega) (by omega) (fun h33 => ?_) (fun h33 => ?_)
    · exfalso; omega
    · refine r_aload_n C dX7_giveDays_36 rfl ?_
      have q61 := p6 lp (by omega) (by omega)
      refine r_get_r (c := 1) C dX7_giveDays_37 fl_X7_15 rfl rfl rfl (by decide) rfl ?_
      refine r_iload_n C dX7_giveDays_40 rfl ?_
      refine r_iald (c := 1) (N := 7) C dX7_giveDays_41 rfl rfl (by decide) (by omega) ?_
      have b41 := hb1 17 0 lp (by omega) (by omega)
      refine r_iload_n C dX7_giveDays_42 rfl ?_
      refine r_ishr _ C dX7_giveDays_43 (z_shr (by omega) (by omega)) ?_
      refine r_iconst C dX7_giveDays_44 ?_
      refine r_iand _ C dX7_giveDays_45 z_bit ?_
      refine r_if_eq 158 C dX7_giveDays_46 (by decide) (by omega) (fun h46 => ?_) (fun h46 => ?_)
      · simp only [Int.toNat_natCast, e17] at h46
        refine r_iinc C dX7_giveDays_158 rfl rfl rfl (by decide) ?_
        refine r_goto 31 C dX7_giveDays_161 (by decide) ?_
        exact ih (d + 1) _ _ (by omega) (g_skip hI (by omega))
      · simp only [Int.toNat_natCast, e17] at h46
        refine r_aload_n C dX7_giveDays_49 rfl ?_
        refine r_get_r (c := 1) C dX7_giveDays_50 fl_X7_18 rfl rfl rfl (by decide) rfl ?_
        refine r_iload_n C dX7_giveDays_53 rfl ?_
        refine r_iald (c := 1) (N := 7) C dX7_giveDays_54 rfl rfl (by decide) (by omega) ?_
        have b54 := hb1 18 0 lp (by omega) (by omega)
        refine r_aload_n C dX7_giveDays_55 rfl ?_
        refine r_get_r (c := 1) C dX7_giveDays_56 fl_X7_27 rfl rfl rfl (by decide) rfl ?_
        refine r_iload_n C dX7_giveDays_59 rfl ?_
        refine r_iald (c := 1) (N := 4) C dX7_giveDays_60 rfl rfl (by decide) (by omega) ?_
        have b60 := hb1 21 0 (d : Int) (by omega) (by omega)
        refine r_ic_le 67 C dX7_giveDays_61 (by decide) (by omega) (by omega) (fun h61 => ?_) (fun h61 => ?_)
        · have q6 := p6 lp (by omega) (by omega)
          have q7 := p7 (d : Int) (by omega) (by omega)
          have hbd := bdf_r (a := σ1 16 0 lp) (b := σ1 20 0 (d : Int)) (by omega) (by omega)
          obtain ⟨wn, hwn⟩ := w_ex (Int32.ofInt (σ1 20 0 (d : Int)) ^^^ Int32.ofInt (-1))
          refine r_aload_n C dX7_giveDays_67 rfl ?_
          refine r_get_r (c := 1) C dX7_giveDays_68 fl_X7_24 rfl rfl rfl (by decide) rfl ?_
          refine r_iload_n C dX7_giveDays_71 rfl ?_
          refine r_iald (c := 1) (N := 4) C dX7_giveDays_72 rfl rfl (by decide) (by omega) ?_
          have b72 := hb1 20 0 (d : Int) (by omega) (by omega)
          refine r_istore C dX7_giveDays_73 rfl rfl (by decide) ?_
          refine r_aload_n C dX7_giveDays_75 rfl ?_
          refine r_get_r (c := 1) C dX7_giveDays_76 fl_X7_24 rfl rfl rfl (by decide) rfl ?_
          refine r_iload_n C dX7_giveDays_79 rfl ?_
          refine r_iload C dX7_giveDays_80 rfl ?_
          refine r_aload_n C dX7_giveDays_82 rfl ?_
          refine r_get_r (c := 1) C dX7_giveDays_83 fl_X7_9 rfl rfl rfl (by decide) rfl ?_
          refine r_iload_n C dX7_giveDays_86 rfl ?_
          refine r_iald (c := 1) (N := 7) C dX7_giveDays_87 rfl rfl (by decide) (by omega) ?_
          have b87 := hb1 16 0 lp (by omega) (by omega)
          refine r_ior _ C dX7_giveDays_88 (bor_v (by omega) (by omega)) ?_
          refine r_iast (c := 1) (N := 4) C dX7_giveDays_89 rfl rfl (by decide) (by omega) ?_
          refine r_aload_n C dX7_giveDays_90 rfl ?_
          refine r_get_r (c := 1) C dX7_giveDays_91 fl_X7_27 rfl rfl rfl (by decide) rfl ?_
          refine r_iload_n C dX7_giveDays_94 rfl ?_
          refine r_dup2 C dX7_giveDays_95 ?_
          refine r_iald (c := 1) (N := 4) C dX7_giveDays_96 rfl rfl (by decide) (by omega) ?_
          refine r_v (b := (σ1 21 0 (d : Int))) (by simp [qUp, qCpy]) ?_
          have b96 := hb1 21 0 (d : Int) (by omega) (by omega)
          refine r_aload_n C dX7_giveDays_97 rfl ?_
          refine r_get_r (c := 1) C dX7_giveDays_98 fl_X7_18 rfl rfl rfl (by decide) rfl ?_
          refine r_iload_n C dX7_giveDays_101 rfl ?_
          refine r_iald (c := 1) (N := 7) C dX7_giveDays_102 rfl rfl (by decide) (by omega) ?_
          refine r_v (b := (σ1 18 0 lp)) (by simp [qUp, qCpy]) ?_
          have b102 := hb1 18 0 lp (by omega) (by omega)
          refine r_isub C dX7_giveDays_103 ?_
          refine r_iast (c := 1) (N := 4) C dX7_giveDays_104 rfl rfl (by decide) (by omega) ?_
          refine r_aload_n C dX7_giveDays_105 rfl ?_
          refine r_get_r (c := 1) C dX7_giveDays_106 fl_X7_21 rfl rfl rfl (by decide) rfl ?_
          refine r_iload_n C dX7_giveDays_109 rfl ?_
          refine r_iload_n C dX7_giveDays_110 rfl ?_
          refine r_iast (c := 1) (N := 7) C dX7_giveDays_111 rfl rfl (by decide) (by omega) ?_
          refine r_aload_n C dX7_giveDays_112 rfl ?_
          refine r_iload_n C dX7_giveDays_113 rfl ?_
          refine r_iconst C dX7_giveDays_114 ?_
          refine r_iadd C dX7_giveDays_115 ?_
          refine r_iload_n C dX7_giveDays_116 rfl ?_
          refine r_aload_n C dX7_giveDays_117 rfl ?_
          refine r_get_r (c := 1) C dX7_giveDays_118 fl_X7_9 rfl rfl rfl (by decide) rfl ?_
          refine r_iload_n C dX7_giveDays_121 rfl ?_
          refine r_iald (c := 1) (N := 7) C dX7_giveDays_122 rfl rfl (by decide) (by omega) ?_
          refine r_v (b := (σ1 16 0 lp)) (by simp [qUp, qCpy]) ?_
          have b122 := hb1 16 0 lp (by omega) (by omega)
          refine r_iload C dX7_giveDays_123 rfl ?_
          refine r_iconst C dX7_giveDays_125 ?_
          refine r_ixor wn C dX7_giveDays_126 hwn ?_
          refine r_iand _ C dX7_giveDays_127 (bdf_v (by omega) (by omega) hwn) ?_
          refine r_csi C dX7_giveDays_128 ms_X7_69 (c_bitCount (ED e) tD_ok l _ _ (by omega)) (by omega) rfl rfl (Nat.le_of_ble_eq_true rfl) (fun z128 σ128 h128 => ?_)
          obtain ⟨rfl, rfl⟩ := h128
          refine r_iadd C dX7_giveDays_131 ?_
          refine r_cvv (c := 1) C dX7_giveDays_132 mv_X7_51 (hrec _ _ _ (updF dd lp (d : Int)) (gl_pre hP hI (by omega) (by omega) (by rw [e16, e20]))) (by omega) rfl rfl rfl rfl (by decide) rfl rfl (Nat.le_of_ble_eq_true rfl) (fun σ132 h132 => ?_)
          refine r_aload_n C dX7_giveDays_135 rfl ?_
          refine r_get_r (c := 1) C dX7_giveDays_136 fl_X7_24 rfl rfl rfl (by decide) rfl ?_
          refine r_iload_n C dX7_giveDays_139 rfl ?_
          refine r_iload C dX7_giveDays_140 rfl ?_
          refine r_iast (c := 1) (N := 4) C dX7_giveDays_142 rfl rfl (by decide) (by omega) ?_
          refine r_aload_n C dX7_giveDays_143 rfl ?_
          refine r_get_r (c := 1) C dX7_giveDays_144 fl_X7_27 rfl rfl rfl (by decide) rfl ?_
          refine r_iload_n C dX7_giveDays_147 rfl ?_
          refine r_dup2 C dX7_giveDays_148 ?_
          refine r_iald (c := 1) (N := 4) C dX7_giveDays_149 rfl rfl (by decide) (by omega) ?_
          refine r_v (b := (σ132 21 0 (d : Int))) (by simp [qUp, qCpy]) ?_
          refine r_aload_n C dX7_giveDays_150 rfl ?_
          refine r_get_r (c := 1) C dX7_giveDays_151 fl_X7_18 rfl rfl rfl (by decide) rfl ?_
          refine r_iload_n C dX7_giveDays_154 rfl ?_
          refine r_iald (c := 1) (N := 7) C dX7_giveDays_155 rfl rfl (by decide) (by omega) ?_
          refine r_v (b := (σ132 18 0 lp)) (by simp [qUp, qCpy]) ?_
          refine r_iadd C dX7_giveDays_156 ?_
          refine r_iast (c := 1) (N := 4) C dX7_giveDays_157 rfl rfl (by decide) (by omega) ?_
          refine r_iinc C dX7_giveDays_158 rfl rfl rfl (by decide) ?_
          refine r_goto 31 C dX7_giveDays_161 (by decide) ?_
          exact ih (d + 1) _ _ (by omega) (gl_step hP hI (by omega) (by omega) (by omega) (by rw [e16, e20]) h132 rfl)
        · refine r_goto 158 C dX7_giveDays_64 (by decide) ?_
          refine r_iinc C dX7_giveDays_158 rfl rfl rfl (by decide) ?_
          refine r_goto 31 C dX7_giveDays_161 (by decide) ?_
          exact ih (d + 1) _ _ (by omega) (g_skip hI (by omega))
set_option maxRecDepth 20000 in
theorem c_giveDays_s (e : qR) (l : Launch) (σ : qSt) (lp c : Int) (r : Nat) (dd : Int → Int) (hrec : ∀ (σ : qSt) (lp c : Int) (dd : Int → Int), gPre σ r lp c dd → CM (ED e) l yX7_giveDays cX7_giveDays 5 none (4 + r) [qr 15 0, qi lp, qi c] σ (Rv fun σ' => gPost σ r lp c dd σ')) (hP : gPre σ (r + 1) lp c dd) : CM (ED e) l yX7_giveDays cX7_giveDays 5 none (4 + (r + 1)) [qr 15 0, qi lp, qi c] σ (Rv fun σ' => gPost σ (r + 1) lp c dd σ') := by
  refine CM.mk tD_ok (by decide +kernel) (Nat.le_of_ble_eq_true rfl) (fun G C => ?_)
  show G σ 0 [some (qr 15 0), some (qi lp), some (qi c), none, none] []
  obtain ⟨hb, p2, p3, p4, p5, p6, p7, p8, p9, p10, p11, p12, p13, p14⟩ := id hP
  push_cast at p4
  refine r_iload_n C dX7_giveDays_0 rfl ?_
  refine r_aload_n C dX7_giveDays_1 rfl ?_
  refine r_get_i (c := 1) 7 C dX7_giveDays_2 fl_X7_33 rfl rfl rfl rfl (by decide) ?_
  have b2 := hb 15 0 7 (by omega) (by omega)
  refine r_ic_le 9 C dX7_giveDays_5 (by decide) (by omega) (by omega) (fun h5 => ?_) (fun h5 => ?_)
  · refine r_iload_n C dX7_giveDays_9 rfl ?_
    refine r_aload_n C dX7_giveDays_10 rfl ?_
    refine r_get_i (c := 1) 10 C dX7_giveDays_11 fl_X7_44 rfl rfl rfl rfl (by decide) ?_
    have b11 := hb 15 0 10 (by omega) (by omega)
    refine r_ic_ge 23 C dX7_giveDays_14 (by decide) (by omega) (by omega) (fun h14 => ?_) (fun h14 => ?_)
    · exfalso; omega
    · refine r_iload_n C dX7_giveDays_17 rfl ?_
      refine r_bipush C dX7_giveDays_18 ?_
      refine r_ic_lt 29 C dX7_giveDays_20 (by decide) (by omega) (by omega) (fun h20 => ?_) (fun h20 => ?_)
      · refine r_iconst C dX7_giveDays_29 ?_
        refine r_istore_n C dX7_giveDays_30 rfl rfl (by decide) ?_
        exact lp_giveDays e l σ r lp c dd hrec hP (by omega) (by omega) C (fun σ' h => ⟨rfl, h⟩) 4 0 _ _ (by omega) ⟨fun _ _ _ _ _ _ => rfl, hb, p14, rfl⟩
      · exfalso; omega
  · refine r_vret C dX7_giveDays_8 ?_
    exact ⟨rfl, g_cut hP (by omega)⟩
theorem c_giveDays (e : qR) (l : Launch) : ∀ (r : Nat) (σ : qSt) (lp c : Int) (dd : Int → Int), gPre σ r lp c dd → CM (ED e) l yX7_giveDays cX7_giveDays 5 none (4 + r) [qr 15 0, qi lp, qi c] σ (Rv fun σ' => gPost σ r lp c dd σ')
  | 0, σ, lp, c, dd, h => c_giveDays_0 e l σ lp c dd h
  | r + 1, σ, lp, c, dd, h => c_giveDays_s e l σ lp c r dd (c_giveDays e l r) h
