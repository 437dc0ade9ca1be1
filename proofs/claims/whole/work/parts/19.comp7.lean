/-! KEPT -/
def lcs (o f : Int → Int) : Nat → Nat → Int
  | 0, _ => 0
  | _ + 1, 0 => 0
  | i + 1, j + 1 => if o i = f j then lcs o f i j + 1 else max (lcs o f i (j + 1)) (lcs o f (i + 1) j)
termination_by i j => i + j
theorem lcs_0 (o f : Int → Int) (j : Nat) : lcs o f 0 j = 0 := by rw [lcs]
theorem lcs_z (o f : Int → Int) (i : Nat) : lcs o f i 0 = 0 := by cases i <;> rw [lcs]
theorem lcs_s (o f : Int → Int) (i j : Nat) : lcs o f (i + 1) (j + 1) = if o i = f j then lcs o f i j + 1 else max (lcs o f i (j + 1)) (lcs o f (i + 1) j) := by rw [lcs]
theorem lcs_rng (o f : Int → Int) : ∀ (k i j : Nat), i + j ≤ k → 0 ≤ lcs o f i j ∧ lcs o f i j ≤ i ∧ lcs o f i j ≤ j := by
  intro k
  induction k with
  | zero =>
    intro i j h
    rw [show i = 0 by omega, lcs_0]
    omega
  | succ k ih =>
    intro i j h
    cases i with
    | zero => rw [lcs_0]; omega
    | succ i =>
      cases j with
      | zero => rw [lcs_z]; omega
      | succ j =>
        have h1 := ih i j (by omega)
        have h2 := ih i (j + 1) (by omega)
        have h3 := ih (i + 1) j (by omega)
        rw [lcs_s]
        split <;> omega
abbrev AgK (σ σ1 : qSt) : Prop := ∀ (a : Nat) (b c : Int), a ≠ 37 → σ1 a b c = σ a b c
def ckI (σ : qSt) (o f : Int → Int) (m : Int) (i : Nat) (jj : Int) (σ1 : qSt) : Prop := AgK σ σ1 ∧ Bd σ1 ∧ (∀ t : Nat, (t : Int) ≤ jj → (t : Int) ≤ m → σ1 37 0 t = lcs o f (i + 1) t) ∧ ∀ t : Nat, jj < (t : Int) → (t : Int) ≤ m → σ1 37 0 t = lcs o f i t
theorem ck_step {σ σ1 : qSt} {o f : Int → Int} {m x v : Int} {i jj : Nat} (h : ckI σ o f m i jj σ1) (hx : x = (jj : Int) + 1) (hm : x ≤ m) (hm2 : m ≤ 24) (hv : v = lcs o f (i + 1) (jj + 1)) : ckI σ o f m i ((jj + 1 : Nat) : Int) (qUp σ1 37 0 x v) := by
  obtain ⟨h1, h2, h3, h4⟩ := h
  have hr := lcs_rng o f _ (i + 1) (jj + 1) (Nat.le_refl _)
  refine ⟨fun a b c q => by simp only [qUp]; rw [if_neg (by omega)]; exact h1 a b c q, h2.up (by omega), fun t q1 q2 => ?_, fun t q1 q2 => ?_⟩
  · by_cases e : t = jj + 1
    · subst e
      rw [show x = ((jj + 1 : Nat) : Int) by omega, qUp_eq, hv]
    · rw [qUp_ne (by omega)]
      exact h3 t (by omega) q2
  · rw [qUp_ne (by omega)]
    exact h4 t (by omega) q2
theorem ck_new {σ σ1 : qSt} {o f : Int → Int} {m : Int} {i : Nat} (h : ckI σ o f m i m σ1) : ckI σ o f m (i + 1) 0 σ1 := by
  obtain ⟨h1, h2, h3, h4⟩ := h
  refine ⟨h1, h2, fun t q1 q2 => ?_, fun t q1 q2 => h3 t q2 q2⟩
  rw [h3 t q2 q2, show t = 0 by omega, lcs_z, lcs_z]
theorem ck_0 {σ : qSt} (hb : Bd σ) (o f : Int → Int) (m : Int) : ckI σ o f m 0 0 (qFil σ 37 0 0 (m + 1) 0) := by
  have e : ∀ t : Nat, (t : Int) ≤ m → (qFil σ 37 0 0 (m + 1) 0) 37 0 t = 0 := fun t h => by unfold qFil; exact if_pos ⟨rfl, rfl, by omega, by omega⟩
  refine ⟨fun a b c q => by simp only [qFil]; rw [if_neg (by omega)], fun a b c q1 q2 => ?_, fun t q1 q2 => ?_, fun t q1 q2 => ?_⟩
  · simp only [qFil]
    split
    · omega
    · exact hb a b c q1 q2
  · rw [e t q2, show t = 0 by omega, lcs_z]
  · rw [e t q2, lcs_0]
set_option maxRecDepth 20000 in
theorem lp_X6_ck1_n {G : qSt → Nat → List (Option qV) → List qV → Prop} {Ret : Option qV → qSt → Prop} (e : qR) (l : Launch) (σ : qSt) (i n m : Int) (hi : 0 ≤ i ∧ i < 12) (hn : 0 ≤ n ∧ n ≤ 24) (hm : 0 ≤ m ∧ m ≤ 24) (C : Cx (ED e) l RX6 cX6_countKept 9 (some .int) 3 Ret G) (hN : ∀ x, G (qFil σ 37 0 0 (m + 1) 0) 24 [some (qr 36 0), some (qr 82 i), some (qi n), some (qr 80 0), some (qi m), some (qi x), none, none, none] []) : ∀ (k : Nat) (x : Int), x + (k : Int) = m + 1 → 0 ≤ x → G (qFil σ 37 0 0 x 0) 3 [some (qr 36 0), some (qr 82 i), some (qi n), some (qr 80 0), some (qi m), some (qi x), none, none, none] [] := by
  intro k
  induction k with
  | zero =>
    intro x hx hx0
    refine r_iload C dX6_countKept_3 rfl ?_
    refine r_iload C dX6_countKept_5 rfl ?_
    refine r_ic_gt 24 C dX6_countKept_7 (by decide) (by omega) (by omega) (fun h7 => ?_) (fun h7 => ?_)
    · rw [show x = m + 1 by omega]
      exact hN _
    · exfalso; omega
  | succ k ih =>
    intro x hx hx0
    refine r_iload C dX6_countKept_3 rfl ?_
    refine r_iload C dX6_countKept_5 rfl ?_
    refine r_ic_gt 24 C dX6_countKept_7 (by decide) (by omega) (by omega) (fun h7 => ?_) (fun h7 => ?_)
    · exfalso; omega
    · refine r_aload_n C dX6_countKept_10 rfl ?_
      refine r_get_r (c := 1) C dX6_countKept_11 fl_X6_9 rfl rfl rfl (by decide) rfl ?_
      refine r_iload C dX6_countKept_14 rfl ?_
      refine r_iconst C dX6_countKept_16 ?_
      refine r_iast (c := 1) (N := 25) C dX6_countKept_17 rfl rfl (by decide) (by omega) ?_
      refine r_iinc C dX6_countKept_18 rfl rfl rfl (by decide) ?_
      refine r_goto 3 C dX6_countKept_21 (by decide) ?_
      rw [qFil_s σ 37 0 0 x 0 (by omega)]
      exact ih _ (by omega) (by omega)
set_option maxRecDepth 20000 in
theorem lp_X6_ck2_n {G : qSt → Nat → List (Option qV) → List qV → Prop} {Ret : Option qV → qSt → Prop} (e : qR) (l : Launch) (σ : qSt) (i n m : Int) (ii : Nat) (hi : 0 ≤ i ∧ i < 12) (hn : 0 ≤ n ∧ n ≤ 24) (hm : 0 ≤ m ∧ m ≤ 24) (hii : (ii : Int) < n) (C : Cx (ED e) l RX6 cX6_countKept 9 (some .int) 3 Ret G) (hN : ∀ (σ2 : qSt) (a6 a7 : Int) (o8 : Option qV), ckI σ (σ 82 i) (σ 80 0) m ii m σ2 → G σ2 106 [some (qr 36 0), some (qr 82 i), some (qi n), some (qr 80 0), some (qi m), some (qi (ii : Int)), some (qi a6), some (qi a7), o8] []) : ∀ (k : Nat) (jj : Nat) (x a6 : Int) (o8 : Option qV) (σ1 : qSt), x = (jj : Int) + 1 → (jj : Int) + (k : Int) = m → a6 = lcs (σ 82 i) (σ 80 0) ii jj → ckI σ (σ 82 i) (σ 80 0) m ii jj σ1 → G σ1 39 [some (qr 36 0), some (qr 82 i), some (qi n), some (qr 80 0), some (qi m), some (qi (ii : Int)), some (qi a6), some (qi x), o8] [] := by
  intro k
  induction k with
  | zero =>
    intro jj x a6 o8 σ1 hx hxm ha6 hI
    have hb1 := hI.2.1
    have hr6 := lcs_rng (σ 82 i) (σ 80 0) _ ii jj (Nat.le_refl _)
    rw [← ha6] at hr6
    refine r_iload C dX6_countKept_39 rfl ?_
    refine r_iload C dX6_countKept_41 rfl ?_
    refine r_ic_gt 106 C dX6_countKept_43 (by decide) (by omega) (by omega) (fun h43 => ?_) (fun h43 => ?_)
    · rw [show (jj : Int) = m by omega] at hI
      exact hN _ _ _ _ hI
    · exfalso; omega
  | succ k ih =>
    intro jj x a6 o8 σ1 hx hxm ha6 hI
    have hb1 := hI.2.1
    have hr6 := lcs_rng (σ 82 i) (σ 80 0) _ ii jj (Nat.le_refl _)
    rw [← ha6] at hr6
    refine r_iload C dX6_countKept_39 rfl ?_
    refine r_iload C dX6_countKept_41 rfl ?_
    refine r_ic_gt 106 C dX6_countKept_43 (by decide) (by omega) (by omega) (fun h43 => ?_) (fun h43 => ?_)
    · exfalso; omega
    · have e1 : σ1 82 i (ii : Int) = σ 82 i (ii : Int) := hI.1 82 i ii (by decide)
      have e2 : σ1 80 0 (x - 1) = σ 80 0 (jj : Int) := by rw [show x - 1 = (jj : Int) by omega]; exact hI.1 80 0 jj (by decide)
      have r8 : σ1 37 0 x = lcs (σ 82 i) (σ 80 0) ii (jj + 1) := by rw [show x = ((jj + 1 : Nat) : Int) by omega]; exact hI.2.2.2 (jj + 1) (by omega) (by omega)
      have r7 : σ1 37 0 (x - 1) = lcs (σ 82 i) (σ 80 0) (ii + 1) jj := by rw [show x - 1 = (jj : Int) by omega]; exact hI.2.2.1 jj (by omega) (by omega)
      refine r_aload_n C dX6_countKept_46 rfl ?_
      refine r_get_r (c := 1) C dX6_countKept_47 fl_X6_9 rfl rfl rfl (by decide) rfl ?_
      refine r_iload C dX6_countKept_50 rfl ?_
      refine r_iald (c := 1) (N := 25) C dX6_countKept_52 rfl rfl (by decide) (by omega) ?_
      have b52 := hb1 37 0 x (by omega) (by omega)
      refine r_istore C dX6_countKept_53 rfl rfl (by decide) ?_
      refine r_aload_n C dX6_countKept_55 rfl ?_
      refine r_get_r (c := 1) C dX6_countKept_56 fl_X6_9 rfl rfl rfl (by decide) rfl ?_
      refine r_iload C dX6_countKept_59 rfl ?_
      refine r_aload_n C dX6_countKept_61 rfl ?_
      refine r_iload C dX6_countKept_62 rfl ?_
      refine r_iald (c := 12) (N := 24) C dX6_countKept_64 rfl rfl (by omega) (by omega) ?_
      have b64 := hb1 82 i (ii : Int) (by omega) (by omega)
      refine r_aload_n C dX6_countKept_65 rfl ?_
      refine r_iload C dX6_countKept_66 rfl ?_
      refine r_iconst C dX6_countKept_68 ?_
      refine r_isub C dX6_countKept_69 ?_
      refine r_iald (c := 1) (N := 24) C dX6_countKept_70 rfl rfl (by decide) (by omega) ?_
      have b70 := hb1 80 0 (x - 1) (by omega) (by omega)
      refine r_ic_ne 81 C dX6_countKept_71 (by decide) (by omega) (by omega) (fun h71 => ?_) (fun h71 => ?_)
      · refine r_iload C dX6_countKept_81 rfl ?_
        refine r_aload_n C dX6_countKept_83 rfl ?_
        refine r_get_r (c := 1) C dX6_countKept_84 fl_X6_9 rfl rfl rfl (by decide) rfl ?_
        refine r_iload C dX6_countKept_87 rfl ?_
        refine r_iconst C dX6_countKept_89 ?_
        refine r_isub C dX6_countKept_90 ?_
        refine r_iald (c := 1) (N := 25) C dX6_countKept_91 rfl rfl (by decide) (by omega) ?_
        have b91 := hb1 37 0 (x - 1) (by omega) (by omega)
        refine r_csi C dX6_countKept_92 ms_X6_15 (c_max (ED e) tD_ok l _ _ _ (by omega) (by omega)) (by decide) rfl rfl (Nat.le_of_ble_eq_true rfl) (fun z92 σ92 h92 => ?_)
        obtain ⟨rfl, rfl⟩ := h92
        refine r_iast (c := 1) (N := 25) C dX6_countKept_95 rfl rfl (by decide) (by omega) ?_
        refine r_iload C dX6_countKept_96 rfl ?_
        refine r_istore C dX6_countKept_98 rfl rfl (by decide) ?_
        refine r_iinc C dX6_countKept_100 rfl rfl rfl (by decide) ?_
        refine r_goto 39 C dX6_countKept_103 (by decide) ?_
        exact ih (jj + 1) _ _ _ _ (by omega) (by omega) (by exact r8) (ck_step hI (by omega) (by omega) (by omega) (by rw [lcs_s, ← e1, ← e2, ← ha6, ← r8, ← r7]; first | rw [if_pos h71] | rw [if_neg h71]))
      · refine r_iload C dX6_countKept_74 rfl ?_
        refine r_iconst C dX6_countKept_76 ?_
        refine r_iadd C dX6_countKept_77 ?_
        refine r_goto 95 C dX6_countKept_78 (by decide) ?_
        refine r_iast (c := 1) (N := 25) C dX6_countKept_95 rfl rfl (by decide) (by omega) ?_
        refine r_iload C dX6_countKept_96 rfl ?_
        refine r_istore C dX6_countKept_98 rfl rfl (by decide) ?_
        refine r_iinc C dX6_countKept_100 rfl rfl rfl (by decide) ?_
        refine r_goto 39 C dX6_countKept_103 (by decide) ?_
        exact ih (jj + 1) _ _ _ _ (by omega) (by omega) (by exact r8) (ck_step hI (by omega) (by omega) (by omega) (by rw [lcs_s, ← e1, ← e2, ← ha6, ← r8, ← r7]; first | rw [if_pos h71] | rw [if_neg h71]))
set_option maxRecDepth 20000 in
theorem lp_X6_ck3_n {G : qSt → Nat → List (Option qV) → List qV → Prop} {Ret : Option qV → qSt → Prop} (e : qR) (l : Launch) (σ : qSt) (i n m : Int) (hi : 0 ≤ i ∧ i < 12) (hn : 0 ≤ n ∧ n ≤ 24) (hm : 0 ≤ m ∧ m ≤ 24) (C : Cx (ED e) l RX6 cX6_countKept 9 (some .int) 3 Ret G) (hR : ∀ σ', AgK σ σ' → Bd σ' → Ret (some (qi (lcs (σ 82 i) (σ 80 0) n.toNat m.toNat))) σ') : ∀ (k : Nat) (ii : Nat) (o6 o7 o8 : Option qV) (σ1 : qSt), (ii : Int) + (k : Int) = n → ckI σ (σ 82 i) (σ 80 0) m ii 0 σ1 → G σ1 27 [some (qr 36 0), some (qr 82 i), some (qi n), some (qr 80 0), some (qi m), some (qi (ii : Int)), o6, o7, o8] [] := by
  intro k
  induction k with
  | zero =>
    intro ii o6 o7 o8 σ1 hii hI
    have hb1 := hI.2.1
    refine r_iload C dX6_countKept_27 rfl ?_
    refine r_iload_n C dX6_countKept_29 rfl ?_
    refine r_ic_ge 112 C dX6_countKept_30 (by decide) (by omega) (by omega) (fun h30 => ?_) (fun h30 => ?_)
    · refine r_aload_n C dX6_countKept_112 rfl ?_
      refine r_get_r (c := 1) C dX6_countKept_113 fl_X6_9 rfl rfl rfl (by decide) rfl ?_
      refine r_iload C dX6_countKept_116 rfl ?_
      refine r_iald (c := 1) (N := 25) C dX6_countKept_118 rfl rfl (by decide) (by omega) ?_
      have b118 := hb1 37 0 m (by omega) (by omega)
      refine r_iret C dX6_countKept_119 ?_
      have rr : σ1 37 0 m = lcs (σ 82 i) (σ 80 0) n.toNat m.toNat := by
        rcases Nat.eq_zero_or_pos m.toNat with q | q
        · have := hI.2.2.1 0 (by omega) (by omega)
          rw [show m = ((0 : Nat) : Int) by omega, this, lcs_z]
          rw [show (((0 : Nat) : Int)).toNat = 0 from rfl, lcs_z]
        · have := hI.2.2.2 m.toNat (by omega) (by omega)
          rw [show ((m.toNat : Nat) : Int) = m by omega] at this
          rw [this, show n.toNat = ii by omega]
      rw [rr]
      exact hR _ hI.1 hb1
    · exfalso; omega
  | succ k ih =>
    intro ii o6 o7 o8 σ1 hii hI
    have hb1 := hI.2.1
    refine r_iload C dX6_countKept_27 rfl ?_
    refine r_iload_n C dX6_countKept_29 rfl ?_
    refine r_ic_ge 112 C dX6_countKept_30 (by decide) (by omega) (by omega) (fun h30 => ?_) (fun h30 => ?_)
    · exfalso; omega
    · refine r_iconst C dX6_countKept_33 ?_
      refine r_istore C dX6_countKept_34 rfl rfl (by decide) ?_
      refine r_iconst C dX6_countKept_36 ?_
      refine r_istore C dX6_countKept_37 rfl rfl (by decide) ?_
      refine lp_X6_ck2_n e l σ i n m ii hi hn hm (by omega) C (fun σ2 a6 a7 o8 h2 => ?_) m.toNat 0 _ _ _ _ rfl (by omega) (by rw [lcs_z]) hI
      refine r_iinc C dX6_countKept_106 rfl rfl rfl (by decide) ?_
      refine r_goto 27 C dX6_countKept_109 (by decide) ?_
      exact ih (ii + 1) _ _ _ _ (by omega) (ck_new h2)
set_option maxRecDepth 20000 in
theorem c_X6_countKept_n (e : qR) (l : Launch) (σ : qSt) (i n m : Int) (hb : Bd σ) (hi : 0 ≤ i ∧ i < 12) (hn : 0 ≤ n ∧ n ≤ 24) (hm : 0 ≤ m ∧ m ≤ 24) : CM (ED e) l yX6_countKept cX6_countKept 9 (some .int) 3 [qr 36 0, qr 82 i, qi n, qr 80 0, qi m] σ (Ri fun z σ' => z = lcs (σ 82 i) (σ 80 0) n.toNat m.toNat ∧ AgK σ σ' ∧ Bd σ') := by
  refine CM.mk tD_ok (by decide +kernel) (Nat.le_of_ble_eq_true rfl) (fun G C => ?_)
  show G σ 0 [some (qr 36 0), some (qr 82 i), some (qi n), some (qr 80 0), some (qi m), none, none, none, none] []
  refine r_iconst C dX6_countKept_0 ?_
  refine r_istore C dX6_countKept_1 rfl rfl (by decide) ?_
  rw [← qFil_0 σ 37 0 0 0]
  refine lp_X6_ck1_n e l σ i n m hi hn hm C (fun x => ?_) (m + 1).toNat _ (by omega) (by omega)
  refine r_iconst C dX6_countKept_24 ?_
  refine r_istore C dX6_countKept_25 rfl rfl (by decide) ?_
  exact lp_X6_ck3_n e l σ i n m hi hn hm C (fun σ' h1 h2 => ⟨_, rfl, rfl, h1, h2⟩) n.toNat 0 _ _ _ _ (by omega) (ck_0 hb _ _ _)
set_option maxRecDepth 20000 in
theorem lp_X6_ck1_l {G : qSt → Nat → List (Option qV) → List qV → Prop} {Ret : Option qV → qSt → Prop} (e : qR) (l : Launch) (σ : qSt) (i j n m : Int) (hi : 0 ≤ i ∧ i < 12) (hj : 0 ≤ j ∧ j < 12) (hn : 0 ≤ n ∧ n ≤ 24) (hm : 0 ≤ m ∧ m ≤ 24) (C : Cx (ED e) l RX6 cX6_countKept 9 (some .int) 3 Ret G) (hN : ∀ x, G (qFil σ 37 0 0 (m + 1) 0) 24 [some (qr 36 0), some (qr 82 i), some (qi n), some (qr 82 j), some (qi m), some (qi x), none, none, none] []) : ∀ (k : Nat) (x : Int), x + (k : Int) = m + 1 → 0 ≤ x → G (qFil σ 37 0 0 x 0) 3 [some (qr 36 0), some (qr 82 i), some (qi n), some (qr 82 j), some (qi m), some (qi x), none, none, none] [] := by
  intro k
  induction k with
  | zero =>
    intro x hx hx0
    refine r_iload C dX6_countKept_3 rfl ?_
    refine r_iload C dX6_countKept_5 rfl ?_
    refine r_ic_gt 24 C dX6_countKept_7 (by decide) (by omega) (by omega) (fun h7 => ?_) (fun h7 => ?_)
    · rw [show x = m + 1 by omega]
      exact hN _
    · exfalso; omega
  | succ k ih =>
    intro x hx hx0
    refine r_iload C dX6_countKept_3 rfl ?_
    refine r_iload C dX6_countKept_5 rfl ?_
    refine r_ic_gt 24 C dX6_countKept_7 (by decide) (by omega) (by omega) (fun h7 => ?_) (fun h7 => ?_)
    · exfalso; omega
    · refine r_aload_n C dX6_countKept_10 rfl ?_
      refine r_get_r (c := 1) C dX6_countKept_11 fl_X6_9 rfl rfl rfl (by decide) rfl ?_
      refine r_iload C dX6_countKept_14 rfl ?_
      refine r_iconst C dX6_countKept_16 ?_
      refine r_iast (c := 1) (N := 25) C dX6_countKept_17 rfl rfl (by decide) (by omega) ?_
      refine r_iinc C dX6_countKept_18 rfl rfl rfl (by decide) ?_
      refine r_goto 3 C dX6_countKept_21 (by decide) ?_
      rw [qFil_s σ 37 0 0 x 0 (by omega)]
      exact ih _ (by omega) (by omega)
set_option maxRecDepth 20000 in
theorem lp_X6_ck2_l {G : qSt → Nat → List (Option qV) → List qV → Prop} {Ret : Option qV → qSt → Prop} (e : qR) (l : Launch) (σ : qSt) (i j n m : Int) (ii : Nat) (hi : 0 ≤ i ∧ i < 12) (hj : 0 ≤ j ∧ j < 12) (hn : 0 ≤ n ∧ n ≤ 24) (hm : 0 ≤ m ∧ m ≤ 24) (hii : (ii : Int) < n) (C : Cx (ED e) l RX6 cX6_countKept 9 (some .int) 3 Ret G) (hN : ∀ (σ2 : qSt) (a6 a7 : Int) (o8 : Option qV), ckI σ (σ 82 i) (σ 82 j) m ii m σ2 → G σ2 106 [some (qr 36 0), some (qr 82 i), some (qi n), some (qr 82 j), some (qi m), some (qi (ii : Int)), some (qi a6), some (qi a7), o8] []) : ∀ (k : Nat) (jj : Nat) (x a6 : Int) (o8 : Option qV) (σ1 : qSt), x = (jj : Int) + 1 → (jj : Int) + (k : Int) = m → a6 = lcs (σ 82 i) (σ 82 j) ii jj → ckI σ (σ 82 i) (σ 82 j) m ii jj σ1 → G σ1 39 [some (qr 36 0), some (qr 82 i), some (qi n), some (qr 82 j), some (qi m), some (qi (ii : Int)), some (qi a6), some (qi x), o8] [] := by
  intro k
  induction k with
  | zero =>
    intro jj x a6 o8 σ1 hx hxm ha6 hI
    have hb1 := hI.2.1
    have hr6 := lcs_rng (σ 82 i) (σ 82 j) _ ii jj (Nat.le_refl _)
    rw [← ha6] at hr6
    refine r_iload C dX6_countKept_39 rfl ?_
    refine r_iload C dX6_countKept_41 rfl ?_
    refine r_ic_gt 106 C dX6_countKept_43 (by decide) (by omega) (by omega) (fun h43 => ?_) (fun h43 => ?_)
    · rw [show (jj : Int) = m by omega] at hI
      exact hN _ _ _ _ hI
    · exfalso; omega
  | succ k ih =>
    intro jj x a6 o8 σ1 hx hxm ha6 hI
    have hb1 := hI.2.1
    have hr6 := lcs_rng (σ 82 i) (σ 82 j) _ ii jj (Nat.le_refl _)
    rw [← ha6] at hr6
    refine r_iload C dX6_countKept_39 rfl ?_
    refine r_iload C dX6_countKept_41 rfl ?_
    refine r_ic_gt 106 C dX6_countKept_43 (by decide) (by omega) (by omega) (fun h43 => ?_) (fun h43 => ?_)
    · exfalso; omega
    · have e1 : σ1 82 i (ii : Int) = σ 82 i (ii : Int) := hI.1 82 i ii (by decide)
      have e2 : σ1 82 j (x - 1) = σ 82 j (jj : Int) := by rw [show x - 1 = (jj : Int) by omega]; exact hI.1 82 j jj (by decide)
      have r8 : σ1 37 0 x = lcs (σ 82 i) (σ 82 j) ii (jj + 1) := by rw [show x = ((jj + 1 : Nat) : Int) by omega]; exact hI.2.2.2 (jj + 1) (by omega) (by omega)
      have r7 : σ1 37 0 (x - 1) = lcs (σ 82 i) (σ 82 j) (ii + 1) jj := by rw [show x - 1 = (jj : Int) by omega]; exact hI.2.2.1 jj (by omega) (by omega)
      refine r_aload_n C dX6_countKept_46 rfl ?_
      refine r_get_r (c := 1) C dX6_countKept_47 fl_X6_9 rfl rfl rfl (by decide) rfl ?_
      refine r_iload C dX6_countKept_50 rfl ?_
      refine r_iald (c := 1) (N := 25) C dX6_countKept_52 rfl rfl (by decide) (by omega) ?_
      have b52 := hb1 37 0 x (by omega) (by omega)
      refine r_istore C dX6_countKept_53 rfl rfl (by decide) ?_
      refine r_aload_n C dX6_countKept_55 rfl ?_
      refine r_get_r (c := 1) C dX6_countKept_56 fl_X6_9 rfl rfl rfl (by decide) rfl ?_
      refine r_iload C dX6_countKept_59 rfl ?_
      refine r_aload_n C dX6_countKept_61 rfl ?_
      refine r_iload C dX6_countKept_62 rfl ?_
      refine r_iald (c := 12) (N := 24) C dX6_countKept_64 rfl rfl (by omega) (by omega) ?_
      have b64 := hb1 82 i (ii : Int) (by omega) (by omega)
      refine r_aload_n C dX6_countKept_65 rfl ?_
      refine r_iload C dX6_countKept_66 rfl ?_
      refine r_iconst C dX6_countKept_68 ?_
      refine r_isub C dX6_countKept_69 ?_
      refine r_iald (c := 12) (N := 24) C dX6_countKept_70 rfl rfl (by omega) (by omega) ?_
      have b70 := hb1 82 j (x - 1) (by omega) (by omega)
      refine r_ic_ne 81 C dX6_countKept_71 (by decide) (by omega) (by omega) (fun h71 => ?_) (fun h71 => ?_)
      · refine r_iload C dX6_countKept_81 rfl ?_
        refine r_aload_n C dX6_countKept_83 rfl ?_
        refine r_get_r (c := 1) C dX6_countKept_84 fl_X6_9 rfl rfl rfl (by decide) rfl ?_
        refine r_iload C dX6_countKept_87 rfl ?_
        refine r_iconst C dX6_countKept_89 ?_
        refine r_isub C dX6_countKept_90 ?_
        refine r_iald (c := 1) (N := 25) C dX6_countKept_91 rfl rfl (by decide) (by omega) ?_
        have b91 := hb1 37 0 (x - 1) (by omega) (by omega)
        refine r_csi C dX6_countKept_92 ms_X6_15 (c_max (ED e) tD_ok l _ _ _ (by omega) (by omega)) (by decide) rfl rfl (Nat.le_of_ble_eq_true rfl) (fun z92 σ92 h92 => ?_)
        obtain ⟨rfl, rfl⟩ := h92
        refine r_iast (c := 1) (N := 25) C dX6_countKept_95 rfl rfl (by decide) (by omega) ?_
        refine r_iload C dX6_countKept_96 rfl ?_
        refine r_istore C dX6_countKept_98 rfl rfl (by decide) ?_
        refine r_iinc C dX6_countKept_100 rfl rfl rfl (by decide) ?_
        refine r_goto 39 C dX6_countKept_103 (by decide) ?_
        exact ih (jj + 1) _ _ _ _ (by omega) (by omega) (by exact r8) (ck_step hI (by omega) (by omega) (by omega) (by rw [lcs_s, ← e1, ← e2, ← ha6, ← r8, ← r7]; first | rw [if_pos h71] | rw [if_neg h71]))
      · refine r_iload C dX6_countKept_74 rfl ?_
        refine r_iconst C dX6_countKept_76 ?_
        refine r_iadd C dX6_countKept_77 ?_
        refine r_goto 95 C dX6_countKept_78 (by decide) ?_
        refine r_iast (c := 1) (N := 25) C dX6_countKept_95 rfl rfl (by decide) (by omega) ?_
        refine r_iload C dX6_countKept_96 rfl ?_
        refine r_istore C dX6_countKept_98 rfl rfl (by decide) ?_
        refine r_iinc C dX6_countKept_100 rfl rfl rfl (by decide) ?_
        refine r_goto 39 C dX6_countKept_103 (by decide) ?_
        exact ih (jj + 1) _ _ _ _ (by omega) (by omega) (by exact r8) (ck_step hI (by omega) (by omega) (by omega) (by rw [lcs_s, ← e1, ← e2, ← ha6, ← r8, ← r7]; first | rw [if_pos h71] | rw [if_neg h71]))
set_option maxRecDepth 20000 in
theorem lp_X6_ck3_l {G : qSt → Nat → List (Option qV) → List qV → Prop} {Ret : Option qV → qSt → Prop} (e : qR) (l : Launch) (σ : qSt) (i j n m : Int) (hi : 0 ≤ i ∧ i < 12) (hj : 0 ≤ j ∧ j < 12) (hn : 0 ≤ n ∧ n ≤ 24) (hm : 0 ≤ m ∧ m ≤ 24) (C : Cx (ED e) l RX6 cX6_countKept 9 (some .int) 3 Ret G) (hR : ∀ σ', AgK σ σ' → Bd σ' → Ret (some (qi (lcs (σ 82 i) (σ 82 j) n.toNat m.toNat))) σ') : ∀ (k : Nat) (ii : Nat) (o6 o7 o8 : Option qV) (σ1 : qSt), (ii : Int) + (k : Int) = n → ckI σ (σ 82 i) (σ 82 j) m ii 0 σ1 → G σ1 27 [some (qr 36 0), some (qr 82 i), some (qi n), some (qr 82 j), some (qi m), some (qi (ii : Int)), o6, o7, o8] [] := by
  intro k
  induction k with
  | zero =>
    intro ii o6 o7 o8 σ1 hii hI
    have hb1 := hI.2.1
    refine r_iload C dX6_countKept_27 rfl ?_
    refine r_iload_n C dX6_countKept_29 rfl ?_
    refine r_ic_ge 112 C dX6_countKept_30 (by decide) (by omega) (by omega) (fun h30 => ?_) (fun h30 => ?_)
    · refine r_aload_n C dX6_countKept_112 rfl ?_
      refine r_get_r (c := 1) C dX6_countKept_113 fl_X6_9 rfl rfl rfl (by decide) rfl ?_
      refine r_iload C dX6_countKept_116 rfl ?_
      refine r_iald (c := 1) (N := 25) C dX6_countKept_118 rfl rfl (by decide) (by omega) ?_
      have b118 := hb1 37 0 m (by omega) (by omega)
      refine r_iret C dX6_countKept_119 ?_
      have rr : σ1 37 0 m = lcs (σ 82 i) (σ 82 j) n.toNat m.toNat := by
        rcases Nat.eq_zero_or_pos m.toNat with q | q
        · have := hI.2.2.1 0 (by omega) (by omega)
          rw [show m = ((0 : Nat) : Int) by omega, this, lcs_z]
          rw [show (((0 : Nat) : Int)).toNat = 0 from rfl, lcs_z]
        · have := hI.2.2.2 m.toNat (by omega) (by omega)
          rw [show ((m.toNat : Nat) : Int) = m by omega] at this
          rw [this, show n.toNat = ii by omega]
      rw [rr]
      exact hR _ hI.1 hb1
    · exfalso; omega
  | succ k ih =>
    intro ii o6 o7 o8 σ1 hii hI
    have hb1 := hI.2.1
    refine r_iload C dX6_countKept_27 rfl ?_
    refine r_iload_n C dX6_countKept_29 rfl ?_
    refine r_ic_ge 112 C dX6_countKept_30 (by decide) (by omega) (by omega) (fun h30 => ?_) (fun h30 => ?_)
    · exfalso; omega
    · refine r_iconst C dX6_countKept_33 ?_
      refine r_istore C dX6_countKept_34 rfl rfl (by decide) ?_
      refine r_iconst C dX6_countKept_36 ?_
      refine r_istore C dX6_countKept_37 rfl rfl (by decide) ?_
      refine lp_X6_ck2_l e l σ i j n m ii hi hj hn hm (by omega) C (fun σ2 a6 a7 o8 h2 => ?_) m.toNat 0 _ _ _ _ rfl (by omega) (by rw [lcs_z]) hI
      refine r_iinc C dX6_countKept_106 rfl rfl rfl (by decide) ?_
      refine r_goto 27 C dX6_countKept_109 (by decide) ?_
      exact ih (ii + 1) _ _ _ _ (by omega) (ck_new h2)
set_option maxRecDepth 20000 in
theorem c_X6_countKept_l (e : qR) (l : Launch) (σ : qSt) (i n j m : Int) (hb : Bd σ) (hi : 0 ≤ i ∧ i < 12) (hj : 0 ≤ j ∧ j < 12) (hn : 0 ≤ n ∧ n ≤ 24) (hm : 0 ≤ m ∧ m ≤ 24) : CM (ED e) l yX6_countKept cX6_countKept 9 (some .int) 3 [qr 36 0, qr 82 i, qi n, qr 82 j, qi m] σ (Ri fun z σ' => z = lcs (σ 82 i) (σ 82 j) n.toNat m.toNat ∧ AgK σ σ' ∧ Bd σ') := by
  refine CM.mk tD_ok (by decide +kernel) (Nat.le_of_ble_eq_true rfl) (fun G C => ?_)
  show G σ 0 [some (qr 36 0), some (qr 82 i), some (qi n), some (qr 82 j), some (qi m), none, none, none, none] []
  refine r_iconst C dX6_countKept_0 ?_
  refine r_istore C dX6_countKept_1 rfl rfl (by decide) ?_
  rw [← qFil_0 σ 37 0 0 0]
  refine lp_X6_ck1_l e l σ i j n m hi hj hn hm C (fun x => ?_) (m + 1).toNat _ (by omega) (by omega)
  refine r_iconst C dX6_countKept_24 ?_
  refine r_istore C dX6_countKept_25 rfl rfl (by decide) ?_
  exact lp_X6_ck3_l e l σ i j n m hi hj hn hm C (fun σ' h1 h2 => ⟨_, rfl, rfl, h1, h2⟩) n.toNat 0 _ _ _ _ (by omega) (ck_0 hb _ _ _)
