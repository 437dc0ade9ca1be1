/-! THE FIT: the whole table -/
def IsDP (oc : Int → Int → Int) (pf lo hi : Int → Int) (n m j : Int) (T : Int → Int → Int) : Prop :=
  T m n = 0 ∧ (∀ p, 0 ≤ p → p < n → T m p = T m (p + 1) + pf p) ∧ (∀ p, 0 ≤ p → p ≤ n → 0 ≤ T m p ∧ T m p ≤ 2 * (n - p)) ∧
  ∀ s, j ≤ s → s < m → T s n = 1000000 ∧ (∀ p, 0 ≤ p → p < n → T s p = min (T s (p + 1) + pf p) (mnL (fun q => sOc (oc s) p q + T (s + 1) (p + q)) (lo s) (min (hi s) (n - p)).toNat)) ∧ ∀ p, 0 ≤ p → p ≤ n → 0 ≤ T s p ∧ T s p ≤ 1000000
def shX (oc : Int → Int → Int) (lo hi : Int → Int) (n : Int) (T : Int → Int → Int) (s p : Int) : Int := shF (fun j => decide (lo s ≤ (j : Int) ∧ sOc (oc s) p j + T (s + 1) (p + j) = T s p)) (min (hi s) (n - p)).toNat
def ocS (σ : qSt) (w i : Int) : Int → Int → Int := fun s q => cOv (σ 106 w s) (σ 82 i q) (σ 105 w 5)
def pfS (σ : qSt) (i : Int) : Int → Int := fun p => pz (σ 82 i p)
def loS (σ : qSt) (w : Int) : Int → Int := fun s => σ 107 w s
def hiS (σ : qSt) (w : Int) : Int → Int := fun s => if σ 105 w 5 = 1 ∨ σ 105 w 5 = 3 then σ 107 w s else σ 108 w s
def skI (σ : qSt) (w i j : Int) (σ1 : qSt) : Prop := (∀ (a : Nat) (b c : Int), a ≠ 25 → ¬ (a = 23 ∧ c = 4) → σ1 a b c = σ a b c) ∧ Bd σ1 ∧ σ1 23 0 4 = σ 105 w 7 ∧ IsDP (ocS σ w i) (pfS σ i) (loS σ w) (hiS σ w) (σ 81 i 2) (σ 105 w 7) j (σ1 25)
theorem sk_0 {σ σ1 σ2 : qSt} {w i : Int} (h1 : σ1 = qUp σ 23 0 4 (σ 105 w 7)) (h : fpI σ1 i (σ1 23 0 4) (σ1 81 i 2) 0 σ2) : skI σ w i (σ 105 w 7) σ2 := by
  have e1 : ∀ (a : Nat) (b c : Int), ¬ (a = 23 ∧ c = 4) → σ1 a b c = σ a b c := fun a b c hc => by
    rw [h1]
    simp only [qUp]
    rw [if_neg (by omega)]
  have e2 : σ1 23 0 4 = σ 105 w 7 := by rw [h1]; simp [qUp]
  rw [e2, e1 81 i 2 (by omega)] at h
  obtain ⟨q1, q2, q3, q4, q5⟩ := h
  refine ⟨fun a b c z1 z2 => by rw [q1 a b c (by omega), e1 a b c z2], q2, by rw [q1 23 0 4 (by omega), e2], q3, fun p z1 z2 => ?_, fun p z1 z2 => q5 p z1 z2, fun s z1 z2 => by omega⟩
  have := q4 p z1 z2
  rw [e1 82 i p (by omega)] at this
  exact this
theorem sk_nx {σ σ1 : qSt} {w i x : Int} (h : skI σ w i (x + 1) σ1) (hx : x < σ 105 w 7) : ∀ q, 0 ≤ q → q ≤ σ 81 i 2 → 0 ≤ σ1 25 (x + 1) q := by
  obtain ⟨-, -, -, -, -, h4, h5⟩ := h
  intro q q1 q2
  by_cases e : x + 1 = σ 105 w 7
  · rw [e]
    exact (h4 q q1 q2).1
  · exact ((h5 (x + 1) (by omega) (by omega)).2.2 q q1 q2).1
theorem sk_step {σ σ1 σ2 : qSt} {w i x : Int} (h : skI σ w i (x + 1) σ1) (hx : x < σ 105 w 7) (hf : fsI σ1 w i x (σ1 81 i 2) 0 σ2) : skI σ w i x σ2 := by
  obtain ⟨h1, h2, h3, d1, d2, d3, d4⟩ := h
  obtain ⟨f1, f2, f3, f4, f5⟩ := hf
  have e81 := h1 81 i 2 (by omega) (by omega)
  rw [e81] at f3 f4 f5
  refine ⟨fun a b c z1 z2 => by rw [f1 a b c (by omega), h1 a b c z1 z2], f2, by rw [f1 23 0 4 (by omega), h3], ?_, ?_, ?_, ?_⟩
  · rw [f1 25 _ _ (by omega)]
    exact d1
  · intro p z1 z2
    rw [f1 25 _ _ (by omega), f1 25 _ _ (by omega)]
    exact d2 p z1 z2
  · intro p z1 z2
    rw [f1 25 _ _ (by omega)]
    exact d3 p z1 z2
  · intro s z1 z2
    by_cases e : s = x
    · subst e
      refine ⟨f3, fun p q1 q2 => ?_, fun p q1 q2 => f5 p q1 q2⟩
      rw [f4 p q1 q2, h1 82 i p (by omega) (by omega)]
      have h1' : ∀ (a : Nat) (b c : Int), a ≠ 25 → a ≠ 23 → σ1 a b c = σ a b c := fun a b c q1 q2 => h1 a b c q1 (by omega)
      have e5 : lfS σ1 w i s p = mnL (fun q => sOc (ocS σ w i s) p q + σ2 25 (s + 1) (p + q)) (loS σ w s) (min (hiS σ w s) (σ 81 i 2 - p)).toNat := by
        unfold lfS ocS loS hiS
        simp only [h1' 106 _ _ (by decide) (by decide), h1' 82 _ _ (by decide) (by decide), h1' 105 _ _ (by decide) (by decide), h1' 107 _ _ (by decide) (by decide), h1' 108 _ _ (by decide) (by decide), e81, fun c => f1 25 (s + 1) c (by omega)]
      rw [e5]
      rfl
    · obtain ⟨g1, g2, g3⟩ := d4 s (by omega) z2
      have e6 : ∀ c, σ2 25 s c = σ1 25 s c := fun c => f1 25 s c (by omega)
      have e7 : ∀ c, σ2 25 (s + 1) c = σ1 25 (s + 1) c := fun c => f1 25 (s + 1) c (by omega)
      simp only [e6, e7]
      exact ⟨g1, g2, g3⟩
/-- what stands behind a search for THE FIT of a wording of a line -/
def skQ (σ : qSt) (w i z : Int) (σ1 : qSt) : Prop := (∀ (a : Nat) (b c : Int), a ≠ 23 → a ≠ 25 → a ≠ 34 → a ≠ 35 → σ1 a b c = σ a b c) ∧ Bd σ1 ∧ σ1 23 0 4 = σ 105 w 7 ∧ σ1 23 0 3 = σ1 25 0 0 ∧ IsDP (ocS σ w i) (pfS σ i) (loS σ w) (hiS σ w) (σ 81 i 2) (σ 105 w 7) 0 (σ1 25) ∧ ((z = 0 ∧ 1000000 ≤ σ1 25 0 0) ∨ (z = 1 ∧ σ1 25 0 0 < 1000000 ∧ ∃ t, 0 ≤ t ∧ t ≤ σ 105 w 7 ∧ TrP (shX (ocS σ w i) (loS σ w) (hiS σ w) (σ 81 i 2) (σ1 25)) (σ 81 i 2) (σ1 34 0) (σ1 35 0) t ∧ (t = σ 105 w 7 ∨ ∀ f, stB (σ1 34 0) (σ1 35 0) t ≤ f → f < σ 81 i 2 → shX (ocS σ w i) (loS σ w) (hiS σ w) (σ 81 i 2) (σ1 25) t f = 0)))
theorem sk_no {σ σ1 σ2 : qSt} {w i : Int} (h : skI σ w i 0 σ1) (h2 : σ2 = qUp σ1 23 0 3 (σ1 25 0 0)) (hz : -2000000 ≤ σ1 25 0 0 ∧ σ1 25 0 0 ≤ 2000000) (hf : 1000000 ≤ σ1 25 0 0) : skQ σ w i 0 σ2 := by
  obtain ⟨h1, hb, h3, hd⟩ := h
  subst h2
  refine ⟨fun a b c z1 z2 z3 z4 => ?_, hb.up hz, by simp [qUp, h3], by simp [qUp], ?_, Or.inl ⟨rfl, by simp [qUp]; exact hf⟩⟩
  · simp only [qUp]
    rw [if_neg (by omega)]
    exact h1 a b c z2 (by omega)
  · have : (qUp σ1 23 0 3 (σ1 25 0 0)) 25 = σ1 25 := by funext b c; simp [qUp]
    rw [this]
    exact hd
theorem sk_yes {σ σ1 σ2 σ3 : qSt} {w i : Int} (h : skI σ w i 0 σ1) (h2 : σ2 = qUp σ1 23 0 3 (σ1 25 0 0)) (hf : σ1 25 0 0 < 1000000) (ht : trQ σ2 w i σ3) : skQ σ w i 1 σ3 := by
  obtain ⟨h1, hb, h3, hd⟩ := h
  obtain ⟨t1, t2, t, t3, t4, t5, t6⟩ := ht
  have e1 : ∀ (a : Nat) (b c : Int), a ≠ 23 → σ2 a b c = σ1 a b c := fun a b c q => by
    rw [h2]
    simp only [qUp]
    rw [if_neg (by omega)]
  have e25 : σ3 25 = σ1 25 := by funext b c; rw [t1 25 b c (by decide) (by decide), e1 25 b c (by decide)]
  have e81 : σ2 81 i 2 = σ 81 i 2 := by rw [e1 81 i 2 (by decide), h1 81 i 2 (by decide) (by omega)]
  have e4 : σ2 23 0 4 = σ 105 w 7 := by rw [h2]; simp [qUp, h3]
  have h1' : ∀ (a : Nat) (b c : Int), a ≠ 25 → a ≠ 23 → σ1 a b c = σ a b c := fun a b c q1 q2 => h1 a b c q1 (by omega)
  have esh : shS σ2 w i = shX (ocS σ w i) (loS σ w) (hiS σ w) (σ 81 i 2) (σ3 25) := by
    funext s f
    unfold shS shX ocS loS hiS
    rw [e25]
    simp only [e81, e1 25 _ _ (by decide), e1 106 _ _ (by decide), e1 82 _ _ (by decide), e1 105 _ _ (by decide), e1 107 _ _ (by decide), e1 108 _ _ (by decide), h1' 106 _ _ (by decide) (by decide), h1' 82 _ _ (by decide) (by decide), h1' 105 _ _ (by decide) (by decide), h1' 107 _ _ (by decide) (by decide), h1' 108 _ _ (by decide) (by decide)]
  rw [esh, e81] at t5 t6
  rw [e4] at t4 t6
  refine ⟨fun a b c z1 z2 z3 z4 => by rw [t1 a b c z3 z4, e1 a b c z1, h1 a b c z2 (by omega)], t2, by rw [t1 23 0 4 (by decide) (by decide), e4], ?_, by rw [e25]; exact hd, Or.inr ⟨rfl, by rw [e25]; exact hf, t, t3, t4, t5, t6⟩⟩
  rw [t1 23 0 3 (by decide) (by decide), e25, h2]
  simp [qUp]
set_option maxRecDepth 20000 in
theorem lp_X2_seek {G : qSt → Nat → List (Option qV) → List qV → Prop} {Ret : Option qV → qSt → Prop} (e : qR) (l : Launch) (σ : qSt) (w i : Int) (hb : Bd σ) (hw : 0 ≤ w ∧ w < 20) (hi : 0 ≤ i ∧ i < 12) (hn : 0 ≤ σ 81 i 2 ∧ σ 81 i 2 ≤ 24) (hsc : 0 ≤ σ 105 w 7 ∧ σ 105 w 7 ≤ 8) (hlo : ∀ s, 0 ≤ s → s < 8 → 0 ≤ σ 107 w s ∧ σ 107 w s ≤ 6) (hmo : ∀ s, 0 ≤ s → s < 8 → 0 ≤ σ 108 w s ∧ σ 108 w s ≤ 6) (C : Cx (ED e) l RX2 cX2_seek 4 (some .boolean) 5 Ret G) (hR : ∀ z σ', skQ σ w i z σ' → Ret (some (qi z)) σ') : ∀ (k : Nat) (x : Int) (σ1 : qSt), x = (k : Int) - 1 → x < σ 105 w 7 → skI σ w i (x + 1) σ1 → G σ1 20 [some (qr 23 0), some (qr 105 w), some (qr 81 i), some (qi x)] [] := by
  intro k
  induction k with
  | zero =>
    intro x σ1 hx hxm hI
    have hb1 := hI.2.1
    have ha := hI.1
    have e81 := ha 81 i 2 (by decide) (by omega)
    have e23 := hI.2.2.1
    refine r_iload_n C dX2_seek_20 rfl ?_
    refine r_if_lt 37 C dX2_seek_21 (by decide) (by omega) (fun h21 => ?_) (fun h21 => ?_)
    · refine r_aload_n C dX2_seek_37 rfl ?_
      refine r_aload_n C dX2_seek_38 rfl ?_
      refine r_get_r (c := 1) C dX2_seek_39 fl_X2_11 rfl rfl rfl (by decide) rfl ?_
      refine r_iconst C dX2_seek_42 ?_
      refine r_aald (c := 1) (N := 9) C dX2_seek_43 rfl (by decide) rfl (by decide) (by omega) rfl ?_
      refine r_iconst C dX2_seek_44 ?_
      refine r_iald (c := 9) (N := 25) C dX2_seek_45 rfl rfl (by omega) (by omega) ?_
      have b45 := hb1 25 0 0 (by omega) (by omega)
      refine r_put_i (c := 1) 3 C dX2_seek_46 fw_X2_23 rfl rfl rfl rfl (by decide) rfl rfl ?_
      refine r_aload_n C dX2_seek_49 rfl ?_
      refine r_get_i (c := 1) 3 C dX2_seek_50 fl_X2_23 rfl rfl rfl rfl (by decide) ?_
      refine r_v (b := (σ1 25 0 0)) (by simp [qUp, qCpy]) ?_
      refine r_ldc C dX2_seek_53 kc_X2_41 ?_
      refine r_ic_lt 60 C dX2_seek_55 (by decide) (by omega) (by omega) (fun h55 => ?_) (fun h55 => ?_)
      · refine r_aload_n C dX2_seek_60 rfl ?_
        refine r_aload_n C dX2_seek_61 rfl ?_
        refine r_aload_n C dX2_seek_62 rfl ?_
        refine r_cvv (c := 1) C dX2_seek_63 mv_X2_42 (c_X2_trace e l _ w i (hb1.up (by omega)) hw hi (by simpa [qUp, e81] using hn) (by simpa [qUp, e23] using hsc) (fun s q1 q2 => by have := ha 107 w s (by decide) (by omega); simpa [qUp, this] using hlo s q1 q2) (fun s q1 q2 => by have := ha 108 w s (by decide) (by omega); simpa [qUp, this] using hmo s q1 q2)) (by decide) rfl rfl rfl rfl (by decide) rfl rfl (Nat.le_of_ble_eq_true rfl) (fun σ63 h63 => ?_)
        refine r_iconst C dX2_seek_66 ?_
        refine r_zret C dX2_seek_67 (by decide) ?_
        exact hR _ _ (sk_yes (by rw [show x + 1 = 0 by omega] at hI; exact hI) rfl (by omega) h63)
      · refine r_iconst C dX2_seek_58 ?_
        refine r_zret C dX2_seek_59 (by decide) ?_
        exact hR _ _ (sk_no (by rw [show x + 1 = 0 by omega] at hI; exact hI) rfl (by omega) (by omega))
    · exfalso; omega
  | succ k ih =>
    intro x σ1 hx hxm hI
    have hb1 := hI.2.1
    have ha := hI.1
    have e81 := ha 81 i 2 (by decide) (by omega)
    have e23 := hI.2.2.1
    refine r_iload_n C dX2_seek_20 rfl ?_
    refine r_if_lt 37 C dX2_seek_21 (by decide) (by omega) (fun h21 => ?_) (fun h21 => ?_)
    · exfalso; omega
    · refine r_aload_n C dX2_seek_24 rfl ?_
      refine r_aload_n C dX2_seek_25 rfl ?_
      refine r_aload_n C dX2_seek_26 rfl ?_
      refine r_iload_n C dX2_seek_27 rfl ?_
      refine r_cvv (c := 1) C dX2_seek_28 mv_X2_37 (c_X2_fillSyllable e l σ1 w i x hb1 hw hi (by omega) (by rw [e81]; exact hn) (by rw [ha 107 w x (by decide) (by omega)]; exact hlo x (by omega) (by omega)) (by rw [ha 108 w x (by decide) (by omega)]; exact hmo x (by omega) (by omega)) (by rw [e81]; exact sk_nx hI hxm)) (by decide) rfl rfl rfl rfl (by decide) rfl rfl (Nat.le_of_ble_eq_true rfl) (fun σ28 h28 => ?_)
      refine r_iinc C dX2_seek_31 rfl rfl rfl (by decide) ?_
      refine r_goto 20 C dX2_seek_34 (by decide) ?_
      exact ih _ _ (by omega) (by omega) (by have := sk_step hI hxm h28; rwa [show x + -1 + 1 = x by omega])
set_option maxRecDepth 20000 in
theorem c_X2_seek (e : qR) (l : Launch) (σ : qSt) (w i : Int) (hb : Bd σ) (hw : 0 ≤ w ∧ w < 20) (hi : 0 ≤ i ∧ i < 12) (hn : 0 ≤ σ 81 i 2 ∧ σ 81 i 2 ≤ 24) (hsc : 0 ≤ σ 105 w 7 ∧ σ 105 w 7 ≤ 8) (hlo : ∀ s, 0 ≤ s → s < 8 → 0 ≤ σ 107 w s ∧ σ 107 w s ≤ 6) (hmo : ∀ s, 0 ≤ s → s < 8 → 0 ≤ σ 108 w s ∧ σ 108 w s ≤ 6) : CM (ED e) l yX2_seek cX2_seek 4 (some .boolean) 5 [qr 23 0, qr 105 w, qr 81 i] σ (Ri fun z σ' => skQ σ w i z σ') := by
  refine CM.mk tD_ok (by decide +kernel) (Nat.le_of_ble_eq_true rfl) (fun G C => ?_)
  show G σ 0 [some (qr 23 0), some (qr 105 w), some (qr 81 i), none] []
  refine r_aload_n C dX2_seek_0 rfl ?_
  refine r_aload_n C dX2_seek_1 rfl ?_
  refine r_get_i (c := 20) 7 C dX2_seek_2 fl_X2_30 rfl rfl rfl rfl (by omega) ?_
  have b2 := hb 105 w 7 (by omega) (by omega)
  refine r_put_i (c := 1) 4 C dX2_seek_5 fw_X2_27 rfl rfl rfl rfl (by decide) rfl rfl ?_
  refine r_aload_n C dX2_seek_8 rfl ?_
  refine r_aload_n C dX2_seek_9 rfl ?_
  refine r_cvv (c := 1) C dX2_seek_10 mv_X2_33 (c_X2_fillPauses e l _ i (hb.up (by omega)) hi (by simp only [qUp_eq]; omega) (by simpa [qUp] using hn)) (by decide) rfl rfl rfl rfl (by decide) rfl rfl (Nat.le_of_ble_eq_true rfl) (fun σ10 h10 => ?_)
  have hI := sk_0 rfl h10
  have e23 := hI.2.2.1
  refine r_s rfl ?_
  refine r_aload_n C dX2_seek_13 rfl ?_
  refine r_get_i (c := 1) 4 C dX2_seek_14 fl_X2_27 rfl rfl rfl rfl (by decide) ?_
  refine r_v e23 ?_
  refine r_iconst C dX2_seek_17 ?_
  refine r_isub C dX2_seek_18 ?_
  refine r_istore_n C dX2_seek_19 rfl rfl (by decide) ?_
  exact lp_X2_seek e l σ w i hb hw hi hn hsc hlo hmo C (fun z σ' h => ⟨_, rfl, h⟩) (σ 105 w 7).toNat _ _ (by omega) (by omega) (by rw [show σ 105 w 7 - 1 + 1 = σ 105 w 7 by omega]; exact hI)
/-- which of the first k lies on frame x: the first one, or -1 -/
def onF (b l : Int → Int) (x : Int) : Nat → Int
  | 0 => -1
  | k + 1 => if onF b l x k ≠ -1 then onF b l x k else if b k ≤ x ∧ x < b k + l k then (k : Int) else -1
theorem onF_keep {b l : Int → Int} {x : Int} {m : Nat} (h : onF b l x m ≠ -1) : ∀ k : Nat, m ≤ k → onF b l x k = onF b l x m
  | 0, hk => by rw [show m = 0 by omega]
  | k + 1, hk => by
    by_cases e : m = k + 1
    · rw [e]
    · have := onF_keep h k (by omega)
      simp only [onF]
      rw [this, if_pos h]
set_option maxRecDepth 20000 in
theorem lp_X2_syllableOn {G : qSt → Nat → List (Option qV) → List qV → Prop} {Ret : Option qV → qSt → Prop} (e : qR) (l : Launch) (σ : qSt) (x : Int) (hb : Bd σ) (hc : 0 ≤ σ 23 0 4 ∧ σ 23 0 4 ≤ 8) (hx : InI x) (C : Cx (ED e) l RX2 cX2_syllableOn 3 (some .int) 2 Ret G) (hR : Ret (some (qi (onF (σ 34 0) (σ 35 0) x (σ 23 0 4).toNat))) σ) : ∀ (k : Nat) (m : Nat), onF (σ 34 0) (σ 35 0) x m = -1 → (m : Int) + k = σ 23 0 4 → G σ 2 [some (qr 23 0), some (qi x), some (qi (m : Int))] [] := by
  intro k
  induction k with
  | zero =>
    intro m hf hm
    refine r_iload_n C dX2_syllableOn_2 rfl ?_
    refine r_aload_n C dX2_syllableOn_3 rfl ?_
    refine r_get_i (c := 1) 4 C dX2_syllableOn_4 fl_X2_27 rfl rfl rfl rfl (by decide) ?_
    have b4 := hb 23 0 4 (by omega) (by omega)
    refine r_ic_ge 45 C dX2_syllableOn_7 (by decide) (by omega) (by omega) (fun h7 => ?_) (fun h7 => ?_)
    · refine r_iconst C dX2_syllableOn_45 ?_
      refine r_iret C dX2_syllableOn_46 ?_
      rw [show (σ 23 0 4).toNat = m by omega, hf] at hR
      exact hR
    · exfalso; omega
  | succ k ih =>
    intro m hf hm
    refine r_iload_n C dX2_syllableOn_2 rfl ?_
    refine r_aload_n C dX2_syllableOn_3 rfl ?_
    refine r_get_i (c := 1) 4 C dX2_syllableOn_4 fl_X2_27 rfl rfl rfl rfl (by decide) ?_
    have b4 := hb 23 0 4 (by omega) (by omega)
    refine r_ic_ge 45 C dX2_syllableOn_7 (by decide) (by omega) (by omega) (fun h7 => ?_) (fun h7 => ?_)
    · exfalso; omega
    · refine r_iload_n C dX2_syllableOn_10 rfl ?_
      refine r_aload_n C dX2_syllableOn_11 rfl ?_
      refine r_get_r (c := 1) C dX2_syllableOn_12 fl_X2_16 rfl rfl rfl (by decide) rfl ?_
      refine r_iload_n C dX2_syllableOn_15 rfl ?_
      refine r_iald (c := 1) (N := 8) C dX2_syllableOn_16 rfl rfl (by decide) (by omega) ?_
      have b16 := hb 34 0 (m : Int) (by omega) (by omega)
      refine r_ic_lt 39 C dX2_syllableOn_17 (by decide) (by omega) (by omega) (fun h17 => ?_) (fun h17 => ?_)
      · refine r_iinc C dX2_syllableOn_39 rfl rfl rfl (by decide) ?_
        refine r_goto 2 C dX2_syllableOn_42 (by decide) ?_
        exact ih (m + 1) (by simp only [onF]; rw [hf, if_neg (by simp), if_neg (by omega)]) (by omega)
      · refine r_iload_n C dX2_syllableOn_20 rfl ?_
        refine r_aload_n C dX2_syllableOn_21 rfl ?_
        refine r_get_r (c := 1) C dX2_syllableOn_22 fl_X2_16 rfl rfl rfl (by decide) rfl ?_
        refine r_iload_n C dX2_syllableOn_25 rfl ?_
        refine r_iald (c := 1) (N := 8) C dX2_syllableOn_26 rfl rfl (by decide) (by omega) ?_
        have b26 := hb 34 0 (m : Int) (by omega) (by omega)
        refine r_aload_n C dX2_syllableOn_27 rfl ?_
        refine r_get_r (c := 1) C dX2_syllableOn_28 fl_X2_20 rfl rfl rfl (by decide) rfl ?_
        refine r_iload_n C dX2_syllableOn_31 rfl ?_
        refine r_iald (c := 1) (N := 8) C dX2_syllableOn_32 rfl rfl (by decide) (by omega) ?_
        have b32 := hb 35 0 (m : Int) (by omega) (by omega)
        refine r_iadd C dX2_syllableOn_33 ?_
        refine r_ic_ge 39 C dX2_syllableOn_34 (by decide) (by omega) (by omega) (fun h34 => ?_) (fun h34 => ?_)
        · refine r_iinc C dX2_syllableOn_39 rfl rfl rfl (by decide) ?_
          refine r_goto 2 C dX2_syllableOn_42 (by decide) ?_
          exact ih (m + 1) (by simp only [onF]; rw [hf, if_neg (by simp), if_neg (by omega)]) (by omega)
        · refine r_iload_n C dX2_syllableOn_37 rfl ?_
          refine r_iret C dX2_syllableOn_38 ?_
          have hq : onF (σ 34 0) (σ 35 0) x (m + 1) = (m : Int) := by
            simp only [onF]
            rw [hf, if_neg (by simp), if_pos (by omega)]
          rw [onF_keep (m := m + 1) (by rw [hq]; omega) _ (by omega), hq] at hR
          exact hR
set_option maxRecDepth 20000 in
theorem c_X2_syllableOn (e : qR) (l : Launch) (σ : qSt) (x : Int) (hb : Bd σ) (hc : 0 ≤ σ 23 0 4 ∧ σ 23 0 4 ≤ 8) (hx : InI x) : CM (ED e) l yX2_syllableOn cX2_syllableOn 3 (some .int) 2 [qr 23 0, qi x] σ (Ri fun z σ' => z = onF (σ 34 0) (σ 35 0) x (σ 23 0 4).toNat ∧ σ = σ') := by
  refine CM.mk tD_ok (by decide +kernel) (Nat.le_of_ble_eq_true rfl) (fun G C => ?_)
  show G σ 0 [some (qr 23 0), some (qi x), none] []
  refine r_iconst C dX2_syllableOn_0 ?_
  refine r_istore_n C dX2_syllableOn_1 rfl rfl (by decide) ?_
  exact lp_X2_syllableOn e l σ x hb hc hx C ⟨_, rfl, rfl, rfl⟩ (σ 23 0 4).toNat 0 rfl (by omega)
