/-! THE PLAN: what is prepared, and what is found -/
/-- two findings are as good as one another: the same number of calls, as many plans, and the same first days where there is a plan below the start's mark -/
def plE (n : Int) (S S' : plS) : Prop := S.1 = S'.1 ∧ S.2.1 = S'.2.1 ∧ (S.1 < 1000000 → ∀ j, 0 ≤ j → j < n → S.2.2 j = S'.2.2 j)
theorem gdD_cg {n a o m c lp : Int} {rc rc' : (Int → Int) → (Int → Int) → Int → (Int → Int) → plS → plS} {ca le ca' le' dd dd' : Int → Int} {S S' : plS} (hc0 : 0 ≤ c) (hlp : 0 ≤ lp ∧ lp < n)
    (hca : ∀ d, 0 ≤ d → d < 4 → ca d = ca' d ∧ le d = le' d) (hd : ∀ j, 0 ≤ j → j < lp → dd j = dd' j) (hS : plE n S S')
    (hrc : ∀ (ca le ca' le' : Int → Int) (c : Int) (dd dd' : Int → Int) (S S' : plS), 0 ≤ c → (∀ d, 0 ≤ d → d < 4 → ca d = ca' d ∧ le d = le' d) → (∀ j, 0 ≤ j → j < lp + 1 → dd j = dd' j) → plE n S S' → plE n (rc ca le c dd S) (rc' ca' le' c dd' S')) :
    ∀ d : Nat, d ≤ 4 → plE n (gdD rc a o m ca le c lp dd S d) (gdD rc' a o m ca' le' c lp dd' S' d)
  | 0, _ => hS
  | d + 1, h4 => by
    have ih := gdD_cg (a := a) (o := o) (m := m) hc0 hlp hca hd hS hrc d (by omega)
    have hd1 := hca d (by omega) (by omega)
    simp only [gdD]
    rw [← hd1.1, ← hd1.2]
    split
    · exact ih
    · refine hrc _ _ _ _ _ _ _ _ _ (by have := pop12_r (z := bdf a (ca d)) (by unfold bdf; omega); omega) (fun x q1 q2 => ?_) (fun j q1 q2 => ?_) ih
      · have := hca x q1 q2
        unfold updF
        rw [this.1, this.2]
        exact ⟨rfl, rfl⟩
      · unfold updF
        split
        · rfl
        · exact hd j q1 (by omega)
theorem gd_cg {A O M A' O' M' : Int → Int} {n : Int} (hA : ∀ j, 0 ≤ j → j < n → A j = A' j ∧ O j = O' j ∧ M j = M' j) : ∀ (r : Nat) (ca le ca' le' : Int → Int) (c : Int) (dd dd' : Int → Int) (S S' : plS), (r : Int) ≤ n → 0 ≤ c → (∀ d, 0 ≤ d → d < 4 → ca d = ca' d ∧ le d = le' d) → (∀ j, 0 ≤ j → j < n - r → dd j = dd' j) → plE n S S' → plE n (gd A O M n r ca le c dd S) (gd A' O' M' n r ca' le' c dd' S') := by
  intro r
  induction r with
  | zero =>
    intro ca le ca' le' c dd dd' S S' hr hc0 hc hd hS
    obtain ⟨s1, s2, s3⟩ := hS
    simp only [gd]
    rw [← s1]
    split
    · exact ⟨s1, s2, s3⟩
    · unfold takeP
      rw [← s1]
      split
      · refine ⟨rfl, rfl, fun _ j q1 q2 => ?_⟩
        show (if 0 ≤ j ∧ j < n then dd j else S.2.2 j) = (if 0 ≤ j ∧ j < n then dd' j else S'.2.2 j)
        rw [if_pos ⟨q1, q2⟩, if_pos ⟨q1, q2⟩]
        exact hd j q1 (by simp; exact q2)
      · exact ⟨rfl, by show S.2.1 + 1 = S'.2.1 + 1; rw [s2], fun q => s3 q⟩
  | succ r ih =>
    intro ca le ca' le' c dd dd' S S' hr hc0 hc hd hS
    have s1 := hS.1
    have hr' : (r : Int) + 1 ≤ n := by push_cast at hr; exact hr
    obtain ⟨a1, a2, a3⟩ := hA (n - (r + 1)) (by omega) (by omega)
    simp only [gd]
    rw [← s1, ← a1, ← a2, ← a3]
    split
    · exact hS
    · refine gdD_cg hc0 (by omega) hc (fun j q1 q2 => hd j q1 (by push_cast; omega)) hS (fun ca le ca' le' c dd dd' S S' g1 g2 g3 g4 => ih ca le ca' le' c dd dd' S S' (by omega) g1 g2 (fun j q1 q2 => g3 j q1 (by omega)) g4) 4 (by omega)
def plA (σ : qSt) : Int → Int := fun k => aol (σ 14 0 k) (fun l => σ 11 0 (σ 81 l 1)) 12
def plO (σ : qSt) : Int → Int := fun k => doa (plA σ k) (σ 12 0) 8
def plM (σ : qSt) : Int → Int := fun k => 5 * pop12 (σ 14 0 k)
def plRes (σ : qSt) : plS := gd (plA σ) (plO σ) (plM σ) (σ 10 0 4) (σ 10 0 4).toNat (fun _ => 0) (σ 13 0) 0 (fun _ => 0) (1000000, 0, fun _ => 0)
/-- the planner's own rows hold small numbers -/
def PlR (σ : qSt) : Prop := ∀ j, 0 ≤ j → j < 7 → 0 ≤ σ 16 0 j ∧ σ 16 0 j < 256 ∧ 0 ≤ σ 17 0 j ∧ σ 17 0 j < 16 ∧ 0 ≤ σ 18 0 j ∧ σ 18 0 j ≤ 60
abbrev pAg (σ σ1 : qSt) : Prop := ∀ (a : Nat) (b c : Int), a ≠ 15 → a ≠ 16 → a ≠ 17 → a ≠ 18 → a ≠ 19 → a ≠ 20 → a ≠ 21 → a ≠ 22 → σ1 a b c = σ a b c
def ppI (σ : qSt) (m : Int) (σ1 : qSt) : Prop := pAg σ σ1 ∧ Bd σ1 ∧ PlR σ1 ∧ σ1 15 0 10 = σ 10 0 4 ∧ σ1 15 0 9 = σ 15 0 9 ∧ ∀ k, 0 ≤ k → k < m → σ1 16 0 k = plA σ k ∧ σ1 17 0 k = plO σ k ∧ σ1 18 0 k = plM σ k
theorem pp_step {σ σ1 : qSt} {m : Int} {a o n : Int} (hI : ppI σ m σ1) (hm : 0 ≤ m ∧ m < 7) (ha : a = plA σ m) (ho : o = plO σ m) (hn : n = plM σ m) (ra : 0 ≤ a ∧ a < 256) (ro : 0 ≤ o ∧ o < 16) (rn : 0 ≤ n ∧ n ≤ 60) : ppI σ (m + 1) (qUp (qUp (qUp σ1 16 0 m a) 17 0 m o) 18 0 m n) := by
  obtain ⟨i1, i2, i3, i4, i5, i6⟩ := hI
  refine ⟨fun x y z h0 h1 h2 h3 h4 h5 h6 h7 => ?_, ((i2.up (by omega)).up (by omega)).up (by omega), fun j q1 q2 => ?_, by simp [qUp, i4], by simp [qUp, i5], fun k q1 q2 => ?_⟩
  · rw [qUp_ne (by omega), qUp_ne (by omega), qUp_ne (by omega)]
    exact i1 x y z h0 h1 h2 h3 h4 h5 h6 h7
  · by_cases e : j = m
    · subst e
      simp [qUp]
      omega
    · simp [qUp, e]
      exact i3 j q1 q2
  · by_cases e : k = m
    · subst e
      simp [qUp, ha, ho, hn]
    · simp [qUp, e]
      exact i6 k q1 (by omega)
def pqI (σ : qSt) (m : Int) (σ1 : qSt) : Prop := ppI σ (σ 10 0 4) σ1 ∧ ∀ d, 0 ≤ d → d < m → σ1 20 0 d = 0 ∧ σ1 21 0 d = σ 13 0 d
theorem pq_step {σ σ1 : qSt} {m v : Int} (hI : pqI σ m σ1) (hv : v = σ 13 0 m) (rv : -2000000 ≤ v ∧ v ≤ 2000000) : pqI σ (m + 1) (qUp (qUp σ1 20 0 m 0) 21 0 m v) := by
  obtain ⟨⟨i1, i2, i3, i4, i5, i6⟩, i7⟩ := hI
  refine ⟨⟨fun x y z h0 h1 h2 h3 h4 h5 h6 h7 => ?_, (i2.up (by omega)).up rv, fun j q1 q2 => by simp [qUp]; exact i3 j q1 q2, by simp [qUp, i4], by simp [qUp, i5], fun k q1 q2 => by simp [qUp]; exact i6 k q1 q2⟩, fun d q1 q2 => ?_⟩
  · rw [qUp_ne (by omega), qUp_ne (by omega)]
    exact i1 x y z h0 h1 h2 h3 h4 h5 h6 h7
  · by_cases e : d = m
    · subst e
      simp [qUp, hv]
    · simp [qUp, e]
      exact i7 d q1 (by omega)
def prQ (σ : qSt) (σ1 : qSt) : Prop := pqI σ 4 σ1 ∧ σ1 15 0 7 = 1000000 ∧ σ1 15 0 8 = 0
theorem pr_end {σ σ1 : qSt} (hI : pqI σ 4 σ1) : prQ σ (qUp (qUp σ1 15 0 7 1000000) 15 0 8 0) := by
  obtain ⟨⟨i1, i2, i3, i4, i5, i6⟩, i7⟩ := hI
  refine ⟨⟨⟨fun x y z h0 h1 h2 h3 h4 h5 h6 h7 => ?_, (i2.up (by omega)).up (by omega), fun j q1 q2 => by simp [qUp]; exact i3 j q1 q2, by simp [qUp, i4], by simp [qUp, i5], fun k q1 q2 => by simp [qUp]; exact i6 k q1 q2⟩, fun d q1 q2 => by simp [qUp]; exact i7 d q1 q2⟩, by simp [qUp], by simp [qUp]⟩
  rw [qUp_ne (by omega), qUp_ne (by omega)]
  exact i1 x y z h0 h1 h2 h3 h4 h5 h6 h7
set_option maxRecDepth 20000 in
theorem lp_X7_prep1 {G : qSt → Nat → List (Option qV) → List qV → Prop} {Ret : Option qV → qSt → Prop} (e : qR) (l : Launch) (σ : qSt) (hb : Bd σ) (hPl : PlR σ) (hlc : 0 ≤ σ 10 0 4 ∧ σ 10 0 4 ≤ 7) (hpt : ∀ l, 0 ≤ l → l < 12 → 0 ≤ σ 81 l 1 ∧ σ 81 l 1 < 6) (hac : ∀ l, 0 ≤ l → l < 6 → -1 ≤ σ 11 0 l ∧ σ 11 0 l < 8) (hfr : ∀ w, 0 ≤ w → w < 8 → 0 ≤ σ 12 0 w ∧ σ 12 0 w < 16) (hlp : ∀ k, 0 ≤ k → k < 7 → 0 ≤ σ 14 0 k ∧ σ 14 0 k < 4096) (C : Cx (ED e) l RX7 cX7_prepare 4 none 4 Ret G) (hN : ∀ x σ2, ppI σ (σ 10 0 4) σ2 → G σ2 69 [some (qr 15 0), some (qr 10 0), some (qr 1 0), some (qi x)] []) : ∀ (k : Nat) (m : Int) (σ1 : qSt), m + (k : Int) = σ 10 0 4 → 0 ≤ m → ppI σ m σ1 → G σ1 10 [some (qr 15 0), some (qr 10 0), some (qr 1 0), some (qi m)] [] := by
  intro k
  induction k with
  | zero =>
    intro m σ1 hm hm0 hI
    have hb1 := hI.2.1
    have a81 : ∀ l, σ1 81 l 1 = σ 81 l 1 := fun l => hI.1 81 l 1 (by decide) (by decide) (by decide) (by decide) (by decide) (by decide) (by decide) (by decide)
    have a11 : ∀ j, σ1 11 0 j = σ 11 0 j := fun j => hI.1 11 0 j (by decide) (by decide) (by decide) (by decide) (by decide) (by decide) (by decide) (by decide)
    have a12 : ∀ j, σ1 12 0 j = σ 12 0 j := fun j => hI.1 12 0 j (by decide) (by decide) (by decide) (by decide) (by decide) (by decide) (by decide) (by decide)
    have a14 : ∀ j, σ1 14 0 j = σ 14 0 j := fun j => hI.1 14 0 j (by decide) (by decide) (by decide) (by decide) (by decide) (by decide) (by decide) (by decide)
    have e10 := hI.2.2.2.1
    have b10 := hb 10 0 4 (by decide) (by omega)
    refine r_iload_n C dX7_prepare_10 rfl ?_
    refine r_aload_n C dX7_prepare_11 rfl ?_
    refine r_get_i (c := 1) 10 C dX7_prepare_12 fl_X7_44 rfl rfl rfl rfl (by decide) ?_
    have b12 := hb1 15 0 10 (by omega) (by omega)
    refine r_ic_ge 69 C dX7_prepare_15 (by decide) (by omega) (by omega) (fun h15 => ?_) (fun h15 => ?_)
    · rw [show m = σ 10 0 4 by omega] at hI
      exact hN _ _ hI
    · exfalso; omega
  | succ k ih =>
    intro m σ1 hm hm0 hI
    have hb1 := hI.2.1
    have a81 : ∀ l, σ1 81 l 1 = σ 81 l 1 := fun l => hI.1 81 l 1 (by decide) (by decide) (by decide) (by decide) (by decide) (by decide) (by decide) (by decide)
    have a11 : ∀ j, σ1 11 0 j = σ 11 0 j := fun j => hI.1 11 0 j (by decide) (by decide) (by decide) (by decide) (by decide) (by decide) (by decide) (by decide)
    have a12 : ∀ j, σ1 12 0 j = σ 12 0 j := fun j => hI.1 12 0 j (by decide) (by decide) (by decide) (by decide) (by decide) (by decide) (by decide) (by decide)
    have a14 : ∀ j, σ1 14 0 j = σ 14 0 j := fun j => hI.1 14 0 j (by decide) (by decide) (by decide) (by decide) (by decide) (by decide) (by decide) (by decide)
    have e10 := hI.2.2.2.1
    have b10 := hb 10 0 4 (by decide) (by omega)
    refine r_iload_n C dX7_prepare_10 rfl ?_
    refine r_aload_n C dX7_prepare_11 rfl ?_
    refine r_get_i (c := 1) 10 C dX7_prepare_12 fl_X7_44 rfl rfl rfl rfl (by decide) ?_
    have b12 := hb1 15 0 10 (by omega) (by omega)
    refine r_ic_ge 69 C dX7_prepare_15 (by decide) (by omega) (by omega) (fun h15 => ?_) (fun h15 => ?_)
    · exfalso; omega
    · refine r_aload_n C dX7_prepare_18 rfl ?_
      refine r_get_r (c := 1) C dX7_prepare_19 fl_X7_9 rfl rfl rfl (by decide) rfl ?_
      refine r_iload_n C dX7_prepare_22 rfl ?_
      refine r_aload_n C dX7_prepare_23 rfl ?_
      refine r_iload_n C dX7_prepare_24 rfl ?_
      refine r_aload_n C dX7_prepare_25 rfl ?_
      refine r_cvi (c := 1) C dX7_prepare_26 mv_X7_58 (c_X1_actorsOfLoop e l σ1 m hb1 (by omega) (fun l q1 q2 => by rw [a81]; exact hpt l q1 q2) (fun l q1 q2 => by rw [a11]; exact hac l q1 q2)) (by decide) rfl rfl rfl rfl (by decide) rfl rfl (Nat.le_of_ble_eq_true rfl) (fun z26 σ26 h26 => ?_)
      obtain ⟨hz26, rfl⟩ := h26
      obtain ⟨aa, haa⟩ : ∃ aa, aa = z26 := ⟨_, rfl⟩
      rw [← haa] at hz26 ⊢
      have eaa : aa = plA σ m := by rw [hz26]; simp only [plA, a14, a11, a81]
      have raa : 0 ≤ aa ∧ aa < 256 := by rw [eaa]; exact aol_r2 12 (fun l q => by have h1 := hpt l (by omega) (by omega); have h2 := hac _ h1.1 h1.2; exact h2.2)
      refine r_iast (c := 1) (N := 7) C dX7_prepare_29 rfl rfl (by decide) (by omega) ?_
      refine r_aload_n C dX7_prepare_30 rfl ?_
      refine r_get_r (c := 1) C dX7_prepare_31 fl_X7_15 rfl rfl rfl (by decide) rfl ?_
      refine r_iload_n C dX7_prepare_34 rfl ?_
      refine r_aload_n C dX7_prepare_35 rfl ?_
      refine r_aload_n C dX7_prepare_36 rfl ?_
      refine r_get_r (c := 1) C dX7_prepare_37 fl_X7_9 rfl rfl rfl (by decide) rfl ?_
      refine r_iload_n C dX7_prepare_40 rfl ?_
      refine r_iald (c := 1) (N := 7) C dX7_prepare_41 rfl rfl (by decide) (by omega) ?_
      refine r_v (b := aa) (by simp [qUp, qCpy]) ?_
      refine r_cvi (c := 1) C dX7_prepare_42 mv_X7_62 (c_X1_daysOfActors e l _ aa (by omega) (fun w q1 q2 => by have := a12 w; simp [qUp, this]; exact hfr w q1 q2)) (by decide) rfl rfl rfl rfl (by decide) rfl rfl (Nat.le_of_ble_eq_true rfl) (fun z42 σ42 h42 => ?_)
      obtain ⟨hz42, rfl⟩ := h42
      obtain ⟨oo, hoo⟩ : ∃ oo, oo = z42 := ⟨_, rfl⟩
      rw [← hoo] at hz42 ⊢
      have eoo : oo = plO σ m := by
        rw [hz42]
        have e12 : (qUp σ1 16 0 m aa) 12 0 = σ 12 0 := by funext j; simp [qUp, a12]
        simp only [plO]
        rw [e12, eaa]
      have roo : 0 ≤ oo ∧ oo < 16 := by rw [eoo]; exact doa_r 8 (fun w q => hfr w (by omega) (by omega))
      refine r_iast (c := 1) (N := 7) C dX7_prepare_45 rfl rfl (by decide) (by omega) ?_
      refine r_aload_n C dX7_prepare_46 rfl ?_
      refine r_get_r (c := 1) C dX7_prepare_47 fl_X7_18 rfl rfl rfl (by decide) rfl ?_
      refine r_iload_n C dX7_prepare_50 rfl ?_
      refine r_iconst C dX7_prepare_51 ?_
      refine r_aload_n C dX7_prepare_52 rfl ?_
      refine r_get_r (c := 1) C dX7_prepare_53 fl_X7_66 rfl rfl rfl (by decide) rfl ?_
      refine r_iload_n C dX7_prepare_56 rfl ?_
      refine r_iald (c := 1) (N := 7) C dX7_prepare_57 rfl rfl (by decide) (by omega) ?_
      refine r_v (b := (σ1 14 0 m)) (by simp [qUp, qCpy]) ?_
      have b57 := hb1 14 0 m (by omega) (by omega)
      refine r_csi C dX7_prepare_58 ms_X7_69 (c_bitCount (ED e) tD_ok l _ _ (by have := hlp m (by omega) (by omega); rw [a14]; exact this)) (by decide) rfl rfl (Nat.le_of_ble_eq_true rfl) (fun z58 σ58 h58 => ?_)
      obtain ⟨rfl, rfl⟩ := h58
      refine r_imul C dX7_prepare_61 ?_
      refine r_iast (c := 1) (N := 7) C dX7_prepare_62 rfl rfl (by decide) (by omega) ?_
      refine r_iinc C dX7_prepare_63 rfl rfl rfl (by decide) ?_
      refine r_goto 10 C dX7_prepare_66 (by decide) ?_
      exact ih _ _ (by omega) (by omega) (pp_step hI (by omega) eaa eoo (by simp only [plM]; rw [a14]) raa roo (by have := pop12_r (z := σ1 14 0 m) (by rw [a14]; exact (hlp m (by omega) (by omega)).1); omega))
set_option maxRecDepth 20000 in
theorem lp_X7_prep2 {G : qSt → Nat → List (Option qV) → List qV → Prop} {Ret : Option qV → qSt → Prop} (e : qR) (l : Launch) (σ : qSt) (hb : Bd σ) (hPl : PlR σ) (hlc : 0 ≤ σ 10 0 4 ∧ σ 10 0 4 ≤ 7) (hpt : ∀ l, 0 ≤ l → l < 12 → 0 ≤ σ 81 l 1 ∧ σ 81 l 1 < 6) (hac : ∀ l, 0 ≤ l → l < 6 → -1 ≤ σ 11 0 l ∧ σ 11 0 l < 8) (hfr : ∀ w, 0 ≤ w → w < 8 → 0 ≤ σ 12 0 w ∧ σ 12 0 w < 16) (hlp : ∀ k, 0 ≤ k → k < 7 → 0 ≤ σ 14 0 k ∧ σ 14 0 k < 4096) (hrm : ∀ d, 0 ≤ d → d < 4 → 0 ≤ σ 13 0 d ∧ σ 13 0 d ≤ 100) (C : Cx (ED e) l RX7 cX7_prepare 4 none 4 Ret G) (hR : ∀ σ2, prQ σ σ2 → Ret none σ2) : ∀ (k : Nat) (m : Int) (σ1 : qSt), m + (k : Int) = 4 → 0 ≤ m → pqI σ m σ1 → G σ1 71 [some (qr 15 0), some (qr 10 0), some (qr 1 0), some (qi m)] [] := by
  intro k
  induction k with
  | zero =>
    intro m σ1 hm hm0 hI
    have hb1 := hI.1.2.1
    have a13 := hI.1.1 13 0 m (by decide) (by decide) (by decide) (by decide) (by decide) (by decide) (by decide) (by decide)
    refine r_iload_n C dX7_prepare_71 rfl ?_
    refine r_iconst C dX7_prepare_72 ?_
    refine r_ic_ge 101 C dX7_prepare_73 (by decide) (by omega) (by omega) (fun h73 => ?_) (fun h73 => ?_)
    · refine r_aload_n C dX7_prepare_101 rfl ?_
      refine r_ldc C dX7_prepare_102 kc_X7_77 ?_
      refine r_put_i (c := 1) 7 C dX7_prepare_104 fw_X7_33 rfl rfl rfl rfl (by decide) rfl rfl ?_
      refine r_aload_n C dX7_prepare_107 rfl ?_
      refine r_iconst C dX7_prepare_108 ?_
      refine r_put_i (c := 1) 8 C dX7_prepare_109 fw_X7_37 rfl rfl rfl rfl (by decide) rfl rfl ?_
      refine r_vret C dX7_prepare_112 ?_
      rw [show m = 4 by omega] at hI
      exact hR _ (pr_end hI)
    · exfalso; omega
  | succ k ih =>
    intro m σ1 hm hm0 hI
    have hb1 := hI.1.2.1
    have a13 := hI.1.1 13 0 m (by decide) (by decide) (by decide) (by decide) (by decide) (by decide) (by decide) (by decide)
    refine r_iload_n C dX7_prepare_71 rfl ?_
    refine r_iconst C dX7_prepare_72 ?_
    refine r_ic_ge 101 C dX7_prepare_73 (by decide) (by omega) (by omega) (fun h73 => ?_) (fun h73 => ?_)
    · exfalso; omega
    · refine r_aload_n C dX7_prepare_76 rfl ?_
      refine r_get_r (c := 1) C dX7_prepare_77 fl_X7_24 rfl rfl rfl (by decide) rfl ?_
      refine r_iload_n C dX7_prepare_80 rfl ?_
      refine r_iconst C dX7_prepare_81 ?_
      refine r_iast (c := 1) (N := 4) C dX7_prepare_82 rfl rfl (by decide) (by omega) ?_
      refine r_aload_n C dX7_prepare_83 rfl ?_
      refine r_get_r (c := 1) C dX7_prepare_84 fl_X7_27 rfl rfl rfl (by decide) rfl ?_
      refine r_iload_n C dX7_prepare_87 rfl ?_
      refine r_aload_n C dX7_prepare_88 rfl ?_
      refine r_get_r (c := 1) C dX7_prepare_89 fl_X7_74 rfl rfl rfl (by decide) rfl ?_
      refine r_iload_n C dX7_prepare_92 rfl ?_
      refine r_iald (c := 1) (N := 4) C dX7_prepare_93 rfl rfl (by decide) (by omega) ?_
      refine r_v (b := (σ1 13 0 m)) (by simp [qUp, qCpy]) ?_
      refine r_iast (c := 1) (N := 4) C dX7_prepare_94 rfl rfl (by decide) (by omega) ?_
      refine r_iinc C dX7_prepare_95 rfl rfl rfl (by decide) ?_
      refine r_goto 71 C dX7_prepare_98 (by decide) ?_
      exact ih _ _ (by omega) (by omega) (pq_step hI a13 (by have := hrm m (by omega) (by omega); omega))
set_option maxRecDepth 20000 in
theorem c_X7_prepare (e : qR) (l : Launch) (σ : qSt) (hb : Bd σ) (hPl : PlR σ) (hlc : 0 ≤ σ 10 0 4 ∧ σ 10 0 4 ≤ 7) (hpt : ∀ l, 0 ≤ l → l < 12 → 0 ≤ σ 81 l 1 ∧ σ 81 l 1 < 6) (hac : ∀ l, 0 ≤ l → l < 6 → -1 ≤ σ 11 0 l ∧ σ 11 0 l < 8) (hfr : ∀ w, 0 ≤ w → w < 8 → 0 ≤ σ 12 0 w ∧ σ 12 0 w < 16) (hlp : ∀ k, 0 ≤ k → k < 7 → 0 ≤ σ 14 0 k ∧ σ 14 0 k < 4096) (hrm : ∀ d, 0 ≤ d → d < 4 → 0 ≤ σ 13 0 d ∧ σ 13 0 d ≤ 100) : CM (ED e) l yX7_prepare cX7_prepare 4 none 4 [qr 15 0, qr 10 0, qr 1 0] σ (Rv fun σ' => prQ σ σ') := by
  refine CM.mk tD_ok (by decide +kernel) (Nat.le_of_ble_eq_true rfl) (fun G C => ?_)
  show G σ 0 [some (qr 15 0), some (qr 10 0), some (qr 1 0), none] []
  refine r_aload_n C dX7_prepare_0 rfl ?_
  refine r_aload_n C dX7_prepare_1 rfl ?_
  refine r_get_i (c := 1) 4 C dX7_prepare_2 fl_X7_55 rfl rfl rfl rfl (by decide) ?_
  have b2 := hb 10 0 4 (by omega) (by omega)
  refine r_put_i (c := 1) 10 C dX7_prepare_5 fw_X7_44 rfl rfl rfl rfl (by decide) rfl rfl ?_
  refine r_iconst C dX7_prepare_8 ?_
  refine r_istore_n C dX7_prepare_9 rfl rfl (by decide) ?_
  refine lp_X7_prep1 e l σ hb hPl hlc hpt hac hfr hlp C (fun x σ2 hI2 => ?_) (σ 10 0 4).toNat _ _ (by omega) (by omega) ⟨fun x y z h0 h1 h2 h3 h4 h5 h6 h7 => qUp_ne (by omega), hb.up (by omega), fun j q1 q2 => by simp [qUp]; exact hPl j q1 q2, by simp [qUp], by simp [qUp], fun k q1 q2 => by omega⟩
  refine r_iconst C dX7_prepare_69 ?_
  refine r_istore_n C dX7_prepare_70 rfl rfl (by decide) ?_
  exact lp_X7_prep2 e l σ hb hPl hlc hpt hac hfr hlp hrm C (fun σ' h => ⟨rfl, h⟩) 4 _ _ (by omega) (by omega) ⟨hI2, fun d q1 q2 => by omega⟩
/-- the planner's memory: unknown, or as good as a new search -/
def plKn (σ σ0 : qSt) : Prop := σ 15 0 9 = 0 ∨ (σ 15 0 9 = 1 ∧ plE (σ0 10 0 4) (pS σ) (plRes σ0))
def skp (σ σ1 : qSt) : Prop := pAg σ σ1 ∧ Bd σ1 ∧ PlR σ1 ∧ σ1 15 0 9 = 1 ∧ plE (σ 10 0 4) (pS σ1) (plRes σ)
theorem sp_pre {σ σ1 : qSt} (h : prQ σ σ1) (hlc : 0 ≤ σ 10 0 4 ∧ σ 10 0 4 ≤ 7) (hrm : ∀ d, 0 ≤ d → d < 4 → 0 ≤ σ 13 0 d ∧ σ 13 0 d ≤ 100) : gPre σ1 (σ 10 0 4).toNat 0 0 (fun _ => 0) := by
  obtain ⟨⟨⟨i1, i2, i3, i4, i5, i6⟩, i7⟩, e7, e8⟩ := h
  have hp : ∀ r, r ≤ 7 → (4 : Int) ^ r ≤ 16384 := by decide
  have := hp (σ 10 0 4).toNat (by omega)
  refine ⟨i2, by omega, by omega, by omega, by omega, i3, fun d q1 q2 => ?_, by omega, by omega, by omega, by omega, by omega, by omega, fun j q1 q2 => by omega⟩
  have h1 := i7 d q1 q2
  have h2 := hrm d q1 q2
  omega
theorem sp_post {σ σ1 σ2 : qSt} (h : prQ σ σ1) (hlc : 0 ≤ σ 10 0 4 ∧ σ 10 0 4 ≤ 7) (hg : gPost σ1 (σ 10 0 4).toNat 0 0 (fun _ => 0) σ2) : skp σ (qUp σ2 15 0 9 1) := by
  obtain ⟨⟨⟨i1, i2, i3, i4, i5, i6⟩, i7⟩, e7, e8⟩ := h
  obtain ⟨g1, g2, g3, g4⟩ := hg
  refine ⟨fun x y z h0 h1 h2 h3 h4 h5 h6 h7 => ?_, g2.up (by omega), fun j q1 q2 => ?_, by simp [qUp], ?_⟩
  · rw [qUp_ne (by omega), g1 x y z h4 h7 (by omega)]
    exact i1 x y z h0 h1 h2 h3 h4 h5 h6 h7
  · have := i3 j q1 q2
    rw [qUp_ne (by omega), qUp_ne (by omega), qUp_ne (by omega), g1 16 0 j (by decide) (by decide) (by omega), g1 17 0 j (by decide) (by decide) (by omega), g1 18 0 j (by decide) (by decide) (by omega)]
    exact this
  · have e : pS (qUp σ2 15 0 9 1) = pS σ2 := by
      unfold pS
      refine Prod.ext (by simp [qUp]) (Prod.ext (by simp [qUp]) ?_)
      funext j
      simp [qUp]
    rw [e, g4, i4]
    unfold plRes
    refine gd_cg (fun j q1 q2 => i6 j q1 q2) _ _ _ _ _ _ _ _ _ _ (by omega) (by omega) (fun d q1 q2 => i7 d q1 q2) (fun j q1 q2 => rfl) ⟨e7, e8, fun q => ?_⟩
    have : (pS σ1).1 = 1000000 := e7
    omega
set_option maxRecDepth 20000 in
theorem c_X7_seekPlans (e : qR) (l : Launch) (σ : qSt) (hb : Bd σ) (hPl : PlR σ) (hlc : 0 ≤ σ 10 0 4 ∧ σ 10 0 4 ≤ 7) (hpt : ∀ l, 0 ≤ l → l < 12 → 0 ≤ σ 81 l 1 ∧ σ 81 l 1 < 6) (hac : ∀ l, 0 ≤ l → l < 6 → -1 ≤ σ 11 0 l ∧ σ 11 0 l < 8) (hfr : ∀ w, 0 ≤ w → w < 8 → 0 ≤ σ 12 0 w ∧ σ 12 0 w < 16) (hlp : ∀ k, 0 ≤ k → k < 7 → 0 ≤ σ 14 0 k ∧ σ 14 0 k < 4096) (hrm : ∀ d, 0 ≤ d → d < 4 → 0 ≤ σ 13 0 d ∧ σ 13 0 d ≤ 100) (hk : plKn σ σ) : CM (ED e) l yX7_seekPlans cX7_seekPlans 3 none 12 [qr 15 0, qr 10 0, qr 1 0] σ (Rv fun σ' => skp σ σ') := by
  refine CM.mk tD_ok (by decide +kernel) (Nat.le_of_ble_eq_true rfl) (fun G C => ?_)
  show G σ 0 [some (qr 15 0), some (qr 10 0), some (qr 1 0)] []
  refine r_aload_n C dX7_seekPlans_0 rfl ?_
  refine r_get_i (c := 1) 9 C dX7_seekPlans_1 fl_X7_40 rfl rfl rfl rfl (by decide) ?_
  have b1 := hb 15 0 9 (by omega) (by omega)
  refine r_if_eq 8 C dX7_seekPlans_4 (by decide) (by omega) (fun h4 => ?_) (fun h4 => ?_)
  · refine r_aload_n C dX7_seekPlans_8 rfl ?_
    refine r_aload_n C dX7_seekPlans_9 rfl ?_
    refine r_aload_n C dX7_seekPlans_10 rfl ?_
    refine r_cvv (c := 1) C dX7_seekPlans_11 mv_X7_47 (c_X7_prepare e l _ hb hPl hlc hpt hac hfr hlp hrm) (by decide) rfl rfl rfl rfl (by decide) rfl rfl (Nat.le_of_ble_eq_true rfl) (fun σ11 h11 => ?_)
    refine r_aload_n C dX7_seekPlans_14 rfl ?_
    refine r_iconst C dX7_seekPlans_15 ?_
    refine r_iconst C dX7_seekPlans_16 ?_
    refine r_cvv (c := 1) C dX7_seekPlans_17 mv_X7_51 (c_giveDays e l _ _ 0 0 (fun _ => 0) (sp_pre h11 hlc hrm)) (by omega) rfl rfl rfl rfl (by decide) rfl rfl (Nat.le_of_ble_eq_true rfl) (fun σ17 h17 => ?_)
    refine r_aload_n C dX7_seekPlans_20 rfl ?_
    refine r_iconst C dX7_seekPlans_21 ?_
    refine r_put_i (c := 1) 9 C dX7_seekPlans_22 fw_X7_40 rfl rfl rfl rfl (by decide) rfl rfl ?_
    refine r_vret C dX7_seekPlans_25 ?_
    exact ⟨rfl, sp_post h11 hlc h17⟩
  · refine r_vret C dX7_seekPlans_7 ?_
    rcases hk with q | q
    · exfalso; omega
    · exact ⟨rfl, fun _ _ _ _ _ _ _ _ _ _ _ => rfl, hb, hPl, q.1, q.2⟩
