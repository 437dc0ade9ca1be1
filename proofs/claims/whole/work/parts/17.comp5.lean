/-! THE FIT: rows, the walk back, the whole -/
abbrev AgR (r : Int) (σ σ1 : qSt) : Prop := ∀ (a : Nat) (b c : Int), ¬ (a = 25 ∧ b = r) → σ1 a b c = σ a b c
def fpI (σ : qSt) (i r n k : Int) (σ1 : qSt) : Prop := AgR r σ σ1 ∧ Bd σ1 ∧ σ1 25 r n = 0 ∧ (∀ p, k ≤ p → p < n → σ1 25 r p = σ1 25 r (p + 1) + pz (σ 82 i p)) ∧ ∀ p, k ≤ p → p ≤ n → 0 ≤ σ1 25 r p ∧ σ1 25 r p ≤ 2 * (n - p)
theorem Bd.up {σ : qSt} (h : Bd σ) {k : Nat} {i j z : Int} (hz : -2000000 ≤ z ∧ z ≤ 2000000) : Bd (qUp σ k i j z) := by
  intro a b c h1 h2
  simp only [qUp]
  split
  · exact hz
  · exact h a b c h1 h2
theorem fp_0 {σ : qSt} (hb : Bd σ) (i r n : Int) : fpI σ i r n n (qUp σ 25 r n 0) := by
  refine ⟨fun a b c h => ?_, hb.up (by omega), by simp [qUp], fun p h1 h2 => by omega, fun p h1 h2 => ?_⟩
  · simp only [qUp]
    rw [if_neg (by rintro ⟨h1, h2, -⟩; exact h ⟨h1, h2⟩)]
  · rw [show p = n by omega]
    simp [qUp]
theorem fp_step {σ σ1 : qSt} {i r n x : Int} (h : fpI σ i r n (x + 1) σ1) (hx : 0 ≤ x ∧ x < n) (hn : n ≤ 24) : fpI σ i r n x (qUp σ1 25 r x (σ1 25 r (x + 1) + pz (σ1 82 i x))) := by
  obtain ⟨h1, h2, h3, h4, h5⟩ := h
  have h6 := h5 (x + 1) (by omega) (by omega)
  have h7 := pz_rng (σ1 82 i x)
  refine ⟨fun a b c h => ?_, h2.up (by omega), ?_, fun p q1 q2 => ?_, fun p q1 q2 => ?_⟩
  · simp only [qUp]
    rw [if_neg (by rintro ⟨q1, q2, -⟩; exact h ⟨q1, q2⟩)]
    exact h1 a b c h
  · simp only [qUp]
    rw [if_neg (by omega)]
    exact h3
  · by_cases e : p = x
    · subst e
      rw [qUp_eq, qUp_ne (by omega), h1 82 i p (by omega)]
    · simp only [qUp]
      rw [if_neg (by omega), if_neg (by omega)]
      exact h4 p (by omega) q2
  · by_cases e : p = x
    · subst e
      rw [qUp_eq]
      omega
    · simp only [qUp]
      rw [if_neg (by omega)]
      exact h5 p (by omega) q2
set_option maxRecDepth 20000 in
theorem lp_X2_fillPauses {G : qSt → Nat → List (Option qV) → List qV → Prop} {Ret : Option qV → qSt → Prop} (e : qR) (l : Launch) (σ : qSt) (i r n : Int) (hi : 0 ≤ i ∧ i < 12) (hr : 0 ≤ r ∧ r < 9) (hn : 0 ≤ n ∧ n ≤ 24) (C : Cx (ED e) l RX2 cX2_fillPauses 4 none 3 Ret G) (hR : ∀ σ', fpI σ i r n 0 σ' → Ret none σ') : ∀ (k : Nat) (x : Int) (σ1 : qSt), x = (k : Int) - 1 → x < n → fpI σ i r n (x + 1) σ1 → G σ1 24 [some (qr 23 0), some (qr 81 i), some (qr 25 r), some (qi x)] [] := by
  intro k
  induction k with
  | zero =>
    intro x σ1 hx hxn hI
    have hb1 := hI.2.1
    refine r_iload_n C dX2_fillPauses_24 rfl ?_
    refine r_if_lt 52 C dX2_fillPauses_25 (by decide) (by omega) (fun h25 => ?_) (fun h25 => ?_)
    · refine r_vret C dX2_fillPauses_52 ?_
      exact hR _ (by rw [show x + 1 = 0 by omega] at hI; exact hI)
    · exfalso; omega
  | succ k ih =>
    intro x σ1 hx hxn hI
    have hb1 := hI.2.1
    refine r_iload_n C dX2_fillPauses_24 rfl ?_
    refine r_if_lt 52 C dX2_fillPauses_25 (by decide) (by omega) (fun h25 => ?_) (fun h25 => ?_)
    · exfalso; omega
    · refine r_aload_n C dX2_fillPauses_28 rfl ?_
      refine r_iload_n C dX2_fillPauses_29 rfl ?_
      refine r_aload_n C dX2_fillPauses_30 rfl ?_
      refine r_iload_n C dX2_fillPauses_31 rfl ?_
      refine r_iconst C dX2_fillPauses_32 ?_
      refine r_iadd C dX2_fillPauses_33 ?_
      refine r_iald (c := 9) (N := 25) C dX2_fillPauses_34 rfl rfl (by omega) (by omega) ?_
      have b34 := hb1 25 r (x + 1) (by omega) (by omega)
      refine r_aload_n C dX2_fillPauses_35 rfl ?_
      refine r_get_r (c := 12) C dX2_fillPauses_36 fl_X2_51 rfl rfl rfl (by omega) rfl ?_
      refine r_iload_n C dX2_fillPauses_39 rfl ?_
      refine r_iald (c := 12) (N := 24) C dX2_fillPauses_40 rfl rfl (by omega) (by omega) ?_
      have b40 := hb1 82 i x (by omega) (by omega)
      refine r_csi C dX2_fillPauses_41 ms_X2_54 (c_X2_pauseCost e l _ _ (by omega)) (by decide) rfl rfl (Nat.le_of_ble_eq_true rfl) (fun z41 σ41 h41 => ?_)
      obtain ⟨rfl, rfl⟩ := h41
      refine r_iadd C dX2_fillPauses_44 ?_
      refine r_iast (c := 9) (N := 25) C dX2_fillPauses_45 rfl rfl (by omega) (by omega) ?_
      refine r_iinc C dX2_fillPauses_46 rfl rfl rfl (by decide) ?_
      refine r_goto 24 C dX2_fillPauses_49 (by decide) ?_
      exact ih _ _ (by omega) (by omega) (by have := fp_step hI (by omega) (by omega); rwa [show x + -1 + 1 = x by omega])
set_option maxRecDepth 20000 in
theorem c_X2_fillPauses (e : qR) (l : Launch) (σ : qSt) (i : Int) (hb : Bd σ) (hi : 0 ≤ i ∧ i < 12) (hr : 0 ≤ σ 23 0 4 ∧ σ 23 0 4 < 9) (hn : 0 ≤ σ 81 i 2 ∧ σ 81 i 2 ≤ 24) : CM (ED e) l yX2_fillPauses cX2_fillPauses 4 none 3 [qr 23 0, qr 81 i] σ (Rv fun σ' => fpI σ i (σ 23 0 4) (σ 81 i 2) 0 σ') := by
  refine CM.mk tD_ok (by decide +kernel) (Nat.le_of_ble_eq_true rfl) (fun G C => ?_)
  show G σ 0 [some (qr 23 0), some (qr 81 i), none, none] []
  refine r_aload_n C dX2_fillPauses_0 rfl ?_
  refine r_get_r (c := 1) C dX2_fillPauses_1 fl_X2_11 rfl rfl rfl (by decide) rfl ?_
  refine r_aload_n C dX2_fillPauses_4 rfl ?_
  refine r_get_i (c := 1) 4 C dX2_fillPauses_5 fl_X2_27 rfl rfl rfl rfl (by decide) ?_
  have b5 := hb 23 0 4 (by omega) (by omega)
  refine r_aald (c := 1) (N := 9) C dX2_fillPauses_8 rfl (by decide) rfl (by decide) (by omega) rfl ?_
  refine r_astore_n C dX2_fillPauses_9 rfl rfl (by decide) ?_
  refine r_aload_n C dX2_fillPauses_10 rfl ?_
  refine r_aload_n C dX2_fillPauses_11 rfl ?_
  refine r_get_i (c := 12) 2 C dX2_fillPauses_12 fl_X2_46 rfl rfl rfl rfl (by omega) ?_
  have b12 := hb 81 i 2 (by omega) (by omega)
  refine r_iconst C dX2_fillPauses_15 ?_
  refine r_iast (c := 9) (N := 25) C dX2_fillPauses_16 rfl rfl (by omega) (by omega) ?_
  refine r_aload_n C dX2_fillPauses_17 rfl ?_
  refine r_get_i (c := 12) 2 C dX2_fillPauses_18 fl_X2_46 rfl rfl rfl rfl (by omega) ?_
  refine r_v (b := (σ 81 i 2)) (by simp [qUp, qCpy]) ?_
  have b18 := hb 81 i 2 (by omega) (by omega)
  refine r_iconst C dX2_fillPauses_21 ?_
  refine r_isub C dX2_fillPauses_22 ?_
  refine r_istore_n C dX2_fillPauses_23 rfl rfl (by decide) ?_
  exact lp_X2_fillPauses e l σ i _ _ hi hr hn C (fun σ' h => ⟨rfl, h⟩) (σ 81 i 2).toNat _ _ (by omega) (by omega) (by rw [show σ 81 i 2 - 1 + 1 = σ 81 i 2 by omega]; exact fp_0 hb _ _ _)
def lfS (σ : qSt) (w i s p : Int) : Int := mnL (fun j => sOc (fun q => cOv (σ 106 w s) (σ 82 i q) (σ 105 w 5)) p j + σ 25 (s + 1) (p + j)) (σ 107 w s) (min (if σ 105 w 5 = 1 ∨ σ 105 w 5 = 3 then σ 107 w s else σ 108 w s) (σ 81 i 2 - p)).toNat
def shS (σ : qSt) (w i s p : Int) : Int := shF (fun j => decide (σ 107 w s ≤ (j : Int) ∧ sOc (fun q => cOv (σ 106 w s) (σ 82 i q) (σ 105 w 5)) p j + σ 25 (s + 1) (p + j) = σ 25 s p)) (min (if σ 105 w 5 = 1 ∨ σ 105 w 5 = 3 then σ 107 w s else σ 108 w s) (σ 81 i 2 - p)).toNat
theorem lfS_cg {σ σ1 : qSt} {w i s p : Int} (h : AgR s σ σ1) : lfS σ1 w i s p = lfS σ w i s p := by
  have h1 : ∀ (a : Nat) (b c : Int), a ≠ 25 → σ1 a b c = σ a b c := fun a b c q => h a b c (fun z => q z.1)
  have h2 : ∀ c, σ1 25 (s + 1) c = σ 25 (s + 1) c := fun c => h 25 (s + 1) c (by omega)
  unfold lfS
  simp only [h2, h1 106 _ _ (by decide), h1 82 _ _ (by decide), h1 105 _ _ (by decide), h1 107 _ _ (by decide), h1 108 _ _ (by decide), h1 81 _ _ (by decide)]
theorem lfS_rng {σ : qSt} {w i s p : Int} (hp : 0 ≤ p) (h : ∀ q, 0 ≤ q → q ≤ σ 81 i 2 → 0 ≤ σ 25 (s + 1) q) : 0 ≤ lfS σ w i s p ∧ lfS σ w i s p ≤ 1000000 := by
  unfold lfS
  refine ⟨mnL_ge _ (fun j h1 h2 => ?_), mnL_le _ _ _⟩
  have h3 := sOc_rng (oc := fun q => cOv (σ 106 w s) (σ 82 i q) (σ 105 w 5)) (fun q => cOv_rng _ _ _) p j
  have h4 := h (p + j) (by omega) (by omega)
  omega
theorem shS_cg {σ σ1 : qSt} {w i s p : Int} (h : ∀ (a : Nat) (b c : Int), a ≠ 34 → a ≠ 35 → σ1 a b c = σ a b c) : shS σ1 w i s p = shS σ w i s p := by
  unfold shS
  simp only [h 25 _ _ (by decide) (by decide), h 106 _ _ (by decide) (by decide), h 82 _ _ (by decide) (by decide), h 105 _ _ (by decide) (by decide), h 107 _ _ (by decide) (by decide), h 108 _ _ (by decide) (by decide), h 81 _ _ (by decide) (by decide)]
def fsI (σ : qSt) (w i s n k : Int) (σ1 : qSt) : Prop := AgR s σ σ1 ∧ Bd σ1 ∧ σ1 25 s n = 1000000 ∧ (∀ p, k ≤ p → p < n → σ1 25 s p = min (σ1 25 s (p + 1) + pz (σ 82 i p)) (lfS σ w i s p)) ∧ ∀ p, k ≤ p → p ≤ n → 0 ≤ σ1 25 s p ∧ σ1 25 s p ≤ 1000000
theorem fs_0 {σ : qSt} (hb : Bd σ) (w i s n : Int) : fsI σ w i s n n (qUp σ 25 s n 1000000) := by
  refine ⟨fun a b c h => ?_, hb.up (by omega), by simp [qUp], fun p h1 h2 => by omega, fun p h1 h2 => ?_⟩
  · simp only [qUp]
    rw [if_neg (by rintro ⟨h1, h2, -⟩; exact h ⟨h1, h2⟩)]
  · rw [show p = n by omega]
    simp [qUp]
theorem fs_step {σ σ1 : qSt} {w i s n x : Int} (h : fsI σ w i s n (x + 1) σ1) (hx : 0 ≤ x ∧ x < n) (hl : 0 ≤ lfS σ w i s x ∧ lfS σ w i s x ≤ 1000000) : fsI σ w i s n x (qUp σ1 25 s x (min (σ1 25 s (x + 1) + pz (σ1 82 i x)) (lfS σ1 w i s x))) := by
  obtain ⟨h1, h2, h3, h4, h5⟩ := h
  have h6 := h5 (x + 1) (by omega) (by omega)
  have h7 := pz_rng (σ1 82 i x)
  have h8 := lfS_cg (w := w) (i := i) (p := x) h1
  rw [h8]
  refine ⟨fun a b c h => ?_, h2.up (by omega), ?_, fun p q1 q2 => ?_, fun p q1 q2 => ?_⟩
  · simp only [qUp]
    rw [if_neg (by rintro ⟨q1, q2, -⟩; exact h ⟨q1, q2⟩)]
    exact h1 a b c h
  · simp only [qUp]
    rw [if_neg (by omega)]
    exact h3
  · by_cases e : p = x
    · subst e
      rw [qUp_eq, qUp_ne (by omega), h1 82 i p (by omega)]
    · simp only [qUp]
      rw [if_neg (by omega), if_neg (by omega)]
      exact h4 p (by omega) q2
  · by_cases e : p = x
    · subst e
      rw [qUp_eq]
      omega
    · simp only [qUp]
      rw [if_neg (by omega)]
      exact h5 p (by omega) q2
set_option maxRecDepth 20000 in
theorem lp_X2_fillSyllable {G : qSt → Nat → List (Option qV) → List qV → Prop} {Ret : Option qV → qSt → Prop} (e : qR) (l : Launch) (σ : qSt) (w i s : Int) (hw : 0 ≤ w ∧ w < 20) (hi : 0 ≤ i ∧ i < 12) (hs : 0 ≤ s ∧ s < 8) (hn : 0 ≤ σ 81 i 2 ∧ σ 81 i 2 ≤ 24) (hlo : 0 ≤ σ 107 w s ∧ σ 107 w s ≤ 6) (hmo : 0 ≤ σ 108 w s ∧ σ 108 w s ≤ 6) (hnx : ∀ q, 0 ≤ q → q ≤ σ 81 i 2 → 0 ≤ σ 25 (s + 1) q) (C : Cx (ED e) l RX2 cX2_fillSyllable 7 none 4 Ret G) (hR : ∀ σ', fsI σ w i s (σ 81 i 2) 0 σ' → Ret none σ') : ∀ (k : Nat) (x : Int) (o6 : Option qV) (σ1 : qSt), x = (k : Int) - 1 → x < σ 81 i 2 → fsI σ w i s (σ 81 i 2) (x + 1) σ1 → G σ1 25 [some (qr 23 0), some (qr 105 w), some (qr 81 i), some (qi s), some (qr 25 s), some (qi x), o6] [] := by
  intro k
  induction k with
  | zero =>
    intro x o6 σ1 hx hxn hI
    have hb1 := hI.2.1
    refine r_iload C dX2_fillSyllable_25 rfl ?_
    refine r_if_lt 75 C dX2_fillSyllable_27 (by decide) (by omega) (fun h27 => ?_) (fun h27 => ?_)
    · refine r_vret C dX2_fillSyllable_75 ?_
      exact hR _ (by rw [show x + 1 = 0 by omega] at hI; exact hI)
    · exfalso; omega
  | succ k ih =>
    intro x o6 σ1 hx hxn hI
    have hb1 := hI.2.1
    refine r_iload C dX2_fillSyllable_25 rfl ?_
    refine r_if_lt 75 C dX2_fillSyllable_27 (by decide) (by omega) (fun h27 => ?_) (fun h27 => ?_)
    · exfalso; omega
    · refine r_aload C dX2_fillSyllable_30 rfl ?_
      refine r_iload C dX2_fillSyllable_32 rfl ?_
      refine r_iconst C dX2_fillSyllable_34 ?_
      refine r_iadd C dX2_fillSyllable_35 ?_
      refine r_iald (c := 9) (N := 25) C dX2_fillSyllable_36 rfl rfl (by omega) (by omega) ?_
      have b36 := hb1 25 s (x + 1) (by omega) (by omega)
      refine r_aload_n C dX2_fillSyllable_37 rfl ?_
      refine r_get_r (c := 12) C dX2_fillSyllable_38 fl_X2_51 rfl rfl rfl (by omega) rfl ?_
      refine r_iload C dX2_fillSyllable_41 rfl ?_
      refine r_iald (c := 12) (N := 24) C dX2_fillSyllable_43 rfl rfl (by omega) (by omega) ?_
      have b43 := hb1 82 i x (by omega) (by omega)
      refine r_csi C dX2_fillSyllable_44 ms_X2_54 (c_X2_pauseCost e l _ _ (by omega)) (by decide) rfl rfl (Nat.le_of_ble_eq_true rfl) (fun z44 σ44 h44 => ?_)
      obtain ⟨rfl, rfl⟩ := h44
      have hpz := pz_rng (σ1 82 i x)
      refine r_iadd C dX2_fillSyllable_47 ?_
      refine r_istore C dX2_fillSyllable_48 rfl rfl (by decide) ?_
      refine r_aload C dX2_fillSyllable_50 rfl ?_
      refine r_iload C dX2_fillSyllable_52 rfl ?_
      refine r_iload C dX2_fillSyllable_54 rfl ?_
      refine r_aload_n C dX2_fillSyllable_56 rfl ?_
      refine r_aload_n C dX2_fillSyllable_57 rfl ?_
      refine r_aload_n C dX2_fillSyllable_58 rfl ?_
      refine r_iload_n C dX2_fillSyllable_59 rfl ?_
      refine r_iload C dX2_fillSyllable_60 rfl ?_
      refine r_cvi (c := 1) C dX2_fillSyllable_62 mv_X2_58 (c_X2_leastFrom e l σ1 w i s x hb1 hw hi hs (by rw [hI.1 81 i 2 (by omega)]; exact hn) (by rw [hI.1 81 i 2 (by omega)]; omega) (by rw [hI.1 107 w s (by omega)]; exact hlo) (by rw [hI.1 108 w s (by omega)]; exact hmo)) (by decide) rfl rfl rfl rfl (by decide) rfl rfl (Nat.le_of_ble_eq_true rfl) (fun z62 σ62 h62 => ?_)
      obtain ⟨rfl, rfl⟩ := h62
      have hlr : -3000000 ≤ lfS σ1 w i s x ∧ lfS σ1 w i s x ≤ 1000000 := by rw [lfS_cg hI.1]; have := lfS_rng (w := w) (i := i) (s := s) (p := x) (by omega) hnx; omega
      unfold lfS at hlr
      refine r_csi C dX2_fillSyllable_65 ms_X2_62 (c_min (ED e) tD_ok l _ _ _ (by omega) (by omega)) (by decide) rfl rfl (Nat.le_of_ble_eq_true rfl) (fun z65 σ65 h65 => ?_)
      obtain ⟨rfl, rfl⟩ := h65
      refine r_iast (c := 9) (N := 25) C dX2_fillSyllable_68 rfl rfl (by omega) (by omega) ?_
      refine r_iinc C dX2_fillSyllable_69 rfl rfl rfl (by decide) ?_
      refine r_goto 25 C dX2_fillSyllable_72 (by decide) ?_
      exact ih _ _ _ (by omega) (by omega) (by have := fs_step hI (by omega) (lfS_rng (by omega) hnx); rwa [show x + -1 + 1 = x by omega])
set_option maxRecDepth 20000 in
theorem c_X2_fillSyllable (e : qR) (l : Launch) (σ : qSt) (w i s : Int) (hb : Bd σ) (hw : 0 ≤ w ∧ w < 20) (hi : 0 ≤ i ∧ i < 12) (hs : 0 ≤ s ∧ s < 8) (hn : 0 ≤ σ 81 i 2 ∧ σ 81 i 2 ≤ 24) (hlo : 0 ≤ σ 107 w s ∧ σ 107 w s ≤ 6) (hmo : 0 ≤ σ 108 w s ∧ σ 108 w s ≤ 6) (hnx : ∀ q, 0 ≤ q → q ≤ σ 81 i 2 → 0 ≤ σ 25 (s + 1) q) : CM (ED e) l yX2_fillSyllable cX2_fillSyllable 7 none 4 [qr 23 0, qr 105 w, qr 81 i, qi s] σ (Rv fun σ' => fsI σ w i s (σ 81 i 2) 0 σ') := by
  refine CM.mk tD_ok (by decide +kernel) (Nat.le_of_ble_eq_true rfl) (fun G C => ?_)
  show G σ 0 [some (qr 23 0), some (qr 105 w), some (qr 81 i), some (qi s), none, none, none] []
  refine r_aload_n C dX2_fillSyllable_0 rfl ?_
  refine r_get_r (c := 1) C dX2_fillSyllable_1 fl_X2_11 rfl rfl rfl (by decide) rfl ?_
  refine r_iload_n C dX2_fillSyllable_4 rfl ?_
  refine r_aald (c := 1) (N := 9) C dX2_fillSyllable_5 rfl (by decide) rfl (by decide) (by omega) rfl ?_
  refine r_astore C dX2_fillSyllable_6 rfl rfl (by decide) ?_
  refine r_aload C dX2_fillSyllable_8 rfl ?_
  refine r_aload_n C dX2_fillSyllable_10 rfl ?_
  refine r_get_i (c := 12) 2 C dX2_fillSyllable_11 fl_X2_46 rfl rfl rfl rfl (by omega) ?_
  have b11 := hb 81 i 2 (by omega) (by omega)
  refine r_ldc C dX2_fillSyllable_14 kc_X2_41 ?_
  refine r_iast (c := 9) (N := 25) C dX2_fillSyllable_16 rfl rfl (by omega) (by omega) ?_
  refine r_aload_n C dX2_fillSyllable_17 rfl ?_
  refine r_get_i (c := 12) 2 C dX2_fillSyllable_18 fl_X2_46 rfl rfl rfl rfl (by omega) ?_
  refine r_v (b := (σ 81 i 2)) (by simp [qUp, qCpy]) ?_
  have b18 := hb 81 i 2 (by omega) (by omega)
  refine r_iconst C dX2_fillSyllable_21 ?_
  refine r_isub C dX2_fillSyllable_22 ?_
  refine r_istore C dX2_fillSyllable_23 rfl rfl (by decide) ?_
  exact lp_X2_fillSyllable e l σ w i s hw hi hs hn hlo hmo hnx C (fun σ' h => ⟨rfl, h⟩) (σ 81 i 2).toNat _ _ _ (by omega) (by omega) (by rw [show σ 81 i 2 - 1 + 1 = σ 81 i 2 by omega]; exact fs_0 hb _ _ _ _)
/-- where the one at j may begin: behind the one ahead of it -/
def stB (b l : Int → Int) (j : Int) : Int := if j = 0 then 0 else b (j - 1) + l (j - 1)
/-- the first t are laid as the walk lays them: each as early as one can, and then as short -/
def TrP (sh : Int → Int → Int) (n : Int) (b l : Int → Int) (t : Int) : Prop := ∀ j, 0 ≤ j → j < t → stB b l j ≤ b j ∧ b j < n ∧ l j = sh j (b j) ∧ 0 < l j ∧ ∀ f, stB b l j ≤ f → f < b j → sh j f = 0
abbrev AgT (σ σ1 : qSt) : Prop := ∀ (a : Nat) (b c : Int), a ≠ 34 → a ≠ 35 → σ1 a b c = σ a b c
def trI (σ : qSt) (w i t u p : Int) (σ1 : qSt) : Prop := AgT σ σ1 ∧ Bd σ1 ∧ 0 ≤ t ∧ t ≤ σ 23 0 4 ∧ TrP (shS σ w i) (σ 81 i 2) (σ1 34 0) (σ1 35 0) t ∧ u = stB (σ1 34 0) (σ1 35 0) t ∧ 0 ≤ u ∧ u ≤ 24 ∧ ∀ f, u ≤ f → f < p → shS σ w i t f = 0
def trQ (σ : qSt) (w i : Int) (σ1 : qSt) : Prop := AgT σ σ1 ∧ Bd σ1 ∧ ∃ t, 0 ≤ t ∧ t ≤ σ 23 0 4 ∧ TrP (shS σ w i) (σ 81 i 2) (σ1 34 0) (σ1 35 0) t ∧ (t = σ 23 0 4 ∨ ∀ f, stB (σ1 34 0) (σ1 35 0) t ≤ f → f < σ 81 i 2 → shS σ w i t f = 0)
theorem shS_le {σ : qSt} {w i s p : Int} (hp : p ≤ σ 81 i 2) : 0 ≤ shS σ w i s p ∧ shS σ w i s p ≤ σ 81 i 2 - p := by
  unfold shS
  have := shF_rng (fun j => decide (σ 107 w s ≤ (j : Int) ∧ sOc (fun q => cOv (σ 106 w s) (σ 82 i q) (σ 105 w 5)) p j + σ 25 (s + 1) (p + j) = σ 25 s p)) (min (if σ 105 w 5 = 1 ∨ σ 105 w 5 = 3 then σ 107 w s else σ 108 w s) (σ 81 i 2 - p)).toNat
  omega
theorem tr_skip {σ σ1 : qSt} {w i t u p : Int} (h : trI σ w i t u p σ1) (hp : p < u ∨ shS σ w i t p = 0) : trI σ w i t u (p + 1) σ1 := by
  obtain ⟨h1, h2, h3, h4, h5, h6, h7, h8, h9⟩ := h
  refine ⟨h1, h2, h3, h4, h5, h6, h7, h8, fun f q1 q2 => ?_⟩
  by_cases e : f = p
  · subst e
    omega
  · exact h9 f q1 (by omega)
theorem tr_put {σ σ1 : qSt} {w i t u p z : Int} (h : trI σ w i t u p σ1) (hn : σ 81 i 2 ≤ 24) (ht : t < σ 23 0 4) (hp : 0 ≤ p ∧ u ≤ p ∧ p < σ 81 i 2) (hz : z = shS σ w i t p) (hz0 : 0 < z) : trI σ w i (t + 1) (p + z) (p + 1) (qUp (qUp σ1 34 0 t p) 35 0 t z) := by
  obtain ⟨h1, h2, h3, h4, h5, h6, h7, h8, h9⟩ := h
  have hr := shS_le (w := w) (s := t) (i := i) (σ := σ) (p := p) (by omega)
  have e1 : ∀ j, j ≠ t → (qUp (qUp σ1 34 0 t p) 35 0 t z) 34 0 j = σ1 34 0 j := fun j hj => by simp [qUp, hj]
  have e2 : ∀ j, j ≠ t → (qUp (qUp σ1 34 0 t p) 35 0 t z) 35 0 j = σ1 35 0 j := fun j hj => by simp [qUp, hj]
  have e3 : (qUp (qUp σ1 34 0 t p) 35 0 t z) 34 0 t = p := by simp [qUp]
  have e4 : (qUp (qUp σ1 34 0 t p) 35 0 t z) 35 0 t = z := by simp [qUp]
  have e5 : ∀ j, j ≤ t → stB ((qUp (qUp σ1 34 0 t p) 35 0 t z) 34 0) ((qUp (qUp σ1 34 0 t p) 35 0 t z) 35 0) j = stB (σ1 34 0) (σ1 35 0) j := fun j hj => by
    unfold stB
    rw [e1 (j - 1) (by omega), e2 (j - 1) (by omega)]
  refine ⟨fun a b c q1 q2 => by simp only [qUp]; rw [if_neg (by omega), if_neg (by omega)]; exact h1 a b c q1 q2, (h2.up (by omega)).up (by omega), by omega, by omega, fun j q1 q2 => ?_, ?_, by omega, by omega, fun f q1 q2 => by omega⟩
  · by_cases e : j = t
    · subst e
      rw [e5 j (by omega), e3, e4, ← h6]
      exact ⟨by omega, by omega, hz, hz0, fun f q3 q4 => h9 f q3 q4⟩
    · rw [e5 j (by omega), e1 j e, e2 j e]
      exact h5 j q1 (by omega)
  · unfold stB
    rw [if_neg (by omega), show t + 1 - 1 = t by omega, e3, e4]
set_option maxRecDepth 20000 in
theorem lp_X2_trace {G : qSt → Nat → List (Option qV) → List qV → Prop} {Ret : Option qV → qSt → Prop} (e : qR) (l : Launch) (σ : qSt) (w i : Int) (hw : 0 ≤ w ∧ w < 20) (hi : 0 ≤ i ∧ i < 12) (hn : 0 ≤ σ 81 i 2 ∧ σ 81 i 2 ≤ 24) (hsc : 0 ≤ σ 23 0 4 ∧ σ 23 0 4 ≤ 8) (hlo : ∀ s, 0 ≤ s → s < 8 → 0 ≤ σ 107 w s ∧ σ 107 w s ≤ 6) (hmo : ∀ s, 0 ≤ s → s < 8 → 0 ≤ σ 108 w s ∧ σ 108 w s ≤ 6) (C : Cx (ED e) l RX2 cX2_trace 7 none 4 Ret G) (hR : ∀ σ', trQ σ w i σ' → Ret none σ') : ∀ (k : Nat) (t u x : Int) (o6 : Option qV) (σ1 : qSt), x + (k : Int) = σ 81 i 2 → trI σ w i t u x σ1 → 0 ≤ x → G σ1 8 [some (qr 23 0), some (qr 105 w), some (qr 81 i), some (qi t), some (qi u), some (qi x), o6] [] := by
  intro k
  induction k with
  | zero =>
    intro t u x o6 σ1 hx hI hx0
    have hb1 := hI.2.1
    have ha := hI.1
    have e81 := ha 81 i 2 (by decide) (by decide)
    have e23 := ha 23 0 4 (by decide) (by decide)
    obtain ⟨-, -, ht0, htc, -, -, hu0, hu1, -⟩ := id hI
    refine r_iload C dX2_trace_8 rfl ?_
    refine r_aload_n C dX2_trace_10 rfl ?_
    refine r_get_i (c := 12) 2 C dX2_trace_11 fl_X2_46 rfl rfl rfl rfl (by omega) ?_
    have b11 := hb1 81 i 2 (by omega) (by omega)
    refine r_ic_ge 84 C dX2_trace_14 (by decide) (by omega) (by omega) (fun h14 => ?_) (fun h14 => ?_)
    · refine r_vret C dX2_trace_84 ?_
      exact hR _ ⟨ha, hb1, t, ht0, htc, hI.2.2.2.2.1, by first | (left; omega) | (right; rw [← hI.2.2.2.2.2.1]; intro f q1 q2; exact hI.2.2.2.2.2.2.2.2 f q1 (by omega))⟩
    · exfalso; omega
  | succ k ih =>
    intro t u x o6 σ1 hx hI hx0
    have hb1 := hI.2.1
    have ha := hI.1
    have e81 := ha 81 i 2 (by decide) (by decide)
    have e23 := ha 23 0 4 (by decide) (by decide)
    obtain ⟨-, -, ht0, htc, -, -, hu0, hu1, -⟩ := id hI
    refine r_iload C dX2_trace_8 rfl ?_
    refine r_aload_n C dX2_trace_10 rfl ?_
    refine r_get_i (c := 12) 2 C dX2_trace_11 fl_X2_46 rfl rfl rfl rfl (by omega) ?_
    have b11 := hb1 81 i 2 (by omega) (by omega)
    refine r_ic_ge 84 C dX2_trace_14 (by decide) (by omega) (by omega) (fun h14 => ?_) (fun h14 => ?_)
    · exfalso; omega
    · refine r_iload_n C dX2_trace_17 rfl ?_
      refine r_aload_n C dX2_trace_18 rfl ?_
      refine r_get_i (c := 1) 4 C dX2_trace_19 fl_X2_27 rfl rfl rfl rfl (by decide) ?_
      have b19 := hb1 23 0 4 (by omega) (by omega)
      refine r_ic_ge 84 C dX2_trace_22 (by decide) (by omega) (by omega) (fun h22 => ?_) (fun h22 => ?_)
      · refine r_vret C dX2_trace_84 ?_
        exact hR _ ⟨ha, hb1, t, ht0, htc, hI.2.2.2.2.1, by first | (left; omega) | (right; rw [← hI.2.2.2.2.2.1]; intro f q1 q2; exact hI.2.2.2.2.2.2.2.2 f q1 (by omega))⟩
      · refine r_iload C dX2_trace_25 rfl ?_
        refine r_iload C dX2_trace_27 rfl ?_
        refine r_ic_ge 36 C dX2_trace_29 (by decide) (by omega) (by omega) (fun h29 => ?_) (fun h29 => ?_)
        · refine r_aload_n C dX2_trace_36 rfl ?_
          refine r_aload_n C dX2_trace_37 rfl ?_
          refine r_aload_n C dX2_trace_38 rfl ?_
          refine r_iload_n C dX2_trace_39 rfl ?_
          refine r_iload C dX2_trace_40 rfl ?_
          refine r_cvi (c := 1) C dX2_trace_42 mv_X2_77 (c_X2_shortestFrom e l σ1 w i t x hb1 hw hi (by omega) (by rw [ha 81 i 2 (by decide) (by decide)]; exact hn) (by rw [ha 81 i 2 (by decide) (by decide)]; omega) (by rw [ha 107 w t (by decide) (by decide)]; exact hlo t (by omega) (by omega)) (by rw [ha 108 w t (by decide) (by decide)]; exact hmo t (by omega) (by omega))) (by decide) rfl rfl rfl rfl (by decide) rfl rfl (Nat.le_of_ble_eq_true rfl) (fun z42 σ42 h42 => ?_)
          obtain ⟨hz42, rfl⟩ := h42
          have hz2 : z42 = shS σ w i t x := by rw [← shS_cg ha, hz42]; rfl
          clear hz42
          have hz3 := shS_le (σ := σ) (w := w) (i := i) (s := t) (p := x) (by omega)
          refine r_istore C dX2_trace_45 rfl rfl (by decide) ?_
          refine r_iload C dX2_trace_47 rfl ?_
          refine r_if_le 78 C dX2_trace_49 (by decide) (by omega) (fun h49 => ?_) (fun h49 => ?_)
          · refine r_iinc C dX2_trace_78 rfl rfl rfl (by decide) ?_
            refine r_goto 8 C dX2_trace_81 (by decide) ?_
            exact ih _ _ _ _ _ (by omega) (tr_skip hI (by omega)) (by omega)
          · refine r_aload_n C dX2_trace_52 rfl ?_
            refine r_get_r (c := 1) C dX2_trace_53 fl_X2_16 rfl rfl rfl (by decide) rfl ?_
            refine r_iload_n C dX2_trace_56 rfl ?_
            refine r_iload C dX2_trace_57 rfl ?_
            refine r_iast (c := 1) (N := 8) C dX2_trace_59 rfl rfl (by decide) (by omega) ?_
            refine r_aload_n C dX2_trace_60 rfl ?_
            refine r_get_r (c := 1) C dX2_trace_61 fl_X2_20 rfl rfl rfl (by decide) rfl ?_
            refine r_iload_n C dX2_trace_64 rfl ?_
            refine r_iload C dX2_trace_65 rfl ?_
            refine r_iast (c := 1) (N := 8) C dX2_trace_67 rfl rfl (by decide) (by omega) ?_
            refine r_iload C dX2_trace_68 rfl ?_
            refine r_iload C dX2_trace_70 rfl ?_
            refine r_iadd C dX2_trace_72 ?_
            refine r_istore C dX2_trace_73 rfl rfl (by decide) ?_
            refine r_iinc C dX2_trace_75 rfl rfl rfl (by decide) ?_
            refine r_iinc C dX2_trace_78 rfl rfl rfl (by decide) ?_
            refine r_goto 8 C dX2_trace_81 (by decide) ?_
            exact ih _ _ _ _ _ (by omega) (tr_put hI (by omega) (by omega) (by omega) hz2 (by omega)) (by omega)
        · refine r_iconst C dX2_trace_32 ?_
          refine r_goto 45 C dX2_trace_33 (by decide) ?_
          refine r_istore C dX2_trace_45 rfl rfl (by decide) ?_
          refine r_iload C dX2_trace_47 rfl ?_
          refine r_if_le 78 C dX2_trace_49 (by decide) (by decide) (fun _ => ?_) (fun h => absurd h (by decide))
          refine r_iinc C dX2_trace_78 rfl rfl rfl (by decide) ?_
          refine r_goto 8 C dX2_trace_81 (by decide) ?_
          exact ih _ _ _ _ _ (by omega) (tr_skip hI (by omega)) (by omega)
set_option maxRecDepth 20000 in
theorem c_X2_trace (e : qR) (l : Launch) (σ : qSt) (w i : Int) (hb : Bd σ) (hw : 0 ≤ w ∧ w < 20) (hi : 0 ≤ i ∧ i < 12) (hn : 0 ≤ σ 81 i 2 ∧ σ 81 i 2 ≤ 24) (hsc : 0 ≤ σ 23 0 4 ∧ σ 23 0 4 ≤ 8) (hlo : ∀ s, 0 ≤ s → s < 8 → 0 ≤ σ 107 w s ∧ σ 107 w s ≤ 6) (hmo : ∀ s, 0 ≤ s → s < 8 → 0 ≤ σ 108 w s ∧ σ 108 w s ≤ 6) : CM (ED e) l yX2_trace cX2_trace 7 none 4 [qr 23 0, qr 105 w, qr 81 i] σ (Rv fun σ' => trQ σ w i σ') := by
  refine CM.mk tD_ok (by decide +kernel) (Nat.le_of_ble_eq_true rfl) (fun G C => ?_)
  show G σ 0 [some (qr 23 0), some (qr 105 w), some (qr 81 i), none, none, none, none] []
  refine r_iconst C dX2_trace_0 ?_
  refine r_istore_n C dX2_trace_1 rfl rfl (by decide) ?_
  refine r_iconst C dX2_trace_2 ?_
  refine r_istore C dX2_trace_3 rfl rfl (by decide) ?_
  refine r_iconst C dX2_trace_5 ?_
  refine r_istore C dX2_trace_6 rfl rfl (by decide) ?_
  exact lp_X2_trace e l σ w i hw hi hn hsc hlo hmo C (fun σ' h => ⟨rfl, h⟩) (σ 81 i 2).toNat _ _ _ _ _ (by omega) ⟨fun _ _ _ _ _ => rfl, hb, by omega, by omega, fun j q1 q2 => by omega, by simp [stB], by omega, by omega, fun f q1 q2 => by omega⟩ (by omega)
