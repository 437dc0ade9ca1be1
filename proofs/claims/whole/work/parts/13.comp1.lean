/-! the class: small methods -/
abbrev Bd (σ : qSt) : Prop := ∀ (k : Nat) (i j : Int), k ≠ 206 → ¬ (k = 0 ∧ j = 12) → -2000000 ≤ σ k i j ∧ σ k i j ≤ 2000000
set_option maxRecDepth 20000 in
theorem c_X10_within (e : qR) (l : Launch) (σ : qSt) (v b : Int) (hv : InI v) (hbb : InI b) : CM (ED e) l yX10_within cX10_within 2 (some .boolean) 2 [qi v, qi b] σ (Ri fun z σ' => z = (if 0 ≤ v ∧ v < b then 1 else 0) ∧ σ = σ') := by
  refine CM.mk tD_ok (by decide +kernel) (Nat.le_of_ble_eq_true rfl) (fun G C => ?_)
  show G σ 0 [some (qi v), some (qi b)] []
  refine r_iload_n C dX10_within_0 rfl ?_
  refine r_if_lt 13 C dX10_within_1 (by decide) (by omega) (fun h1 => ?_) (fun h1 => ?_)
  · refine r_iconst C dX10_within_13 ?_
    refine r_zret C dX10_within_14 (by decide) ?_
    exact ⟨_, rfl, by omega, rfl⟩
  · refine r_iload_n C dX10_within_4 rfl ?_
    refine r_iload_n C dX10_within_5 rfl ?_
    refine r_ic_ge 13 C dX10_within_6 (by decide) (by omega) (by omega) (fun h6 => ?_) (fun h6 => ?_)
    · refine r_iconst C dX10_within_13 ?_
      refine r_zret C dX10_within_14 (by decide) ?_
      exact ⟨_, rfl, by omega, rfl⟩
    · refine r_iconst C dX10_within_9 ?_
      refine r_goto 14 C dX10_within_10 (by decide) ?_
      refine r_zret C dX10_within_14 (by decide) ?_
      exact ⟨_, rfl, by omega, rfl⟩
set_option maxRecDepth 20000 in
theorem c_X10_isNoneOrWithin (e : qR) (l : Launch) (σ : qSt) (v b : Int) (hv : InI v) (hbb : InI b) : CM (ED e) l yX10_isNoneOrWithin cX10_isNoneOrWithin 2 (some .boolean) 3 [qi v, qi b] σ (Ri fun z σ' => z = (if v = -1 ∨ (0 ≤ v ∧ v < b) then 1 else 0) ∧ σ = σ') := by
  refine CM.mk tD_ok (by decide +kernel) (Nat.le_of_ble_eq_true rfl) (fun G C => ?_)
  show G σ 0 [some (qi v), some (qi b)] []
  refine r_iload_n C dX10_isNoneOrWithin_0 rfl ?_
  refine r_iconst C dX10_isNoneOrWithin_1 ?_
  refine r_ic_eq 13 C dX10_isNoneOrWithin_2 (by decide) (by omega) (by omega) (fun h2 => ?_) (fun h2 => ?_)
  · refine r_iconst C dX10_isNoneOrWithin_13 ?_
    refine r_goto 18 C dX10_isNoneOrWithin_14 (by decide) ?_
    refine r_zret C dX10_isNoneOrWithin_18 (by decide) ?_
    exact ⟨_, rfl, by omega, rfl⟩
  · refine r_iload_n C dX10_isNoneOrWithin_5 rfl ?_
    refine r_iload_n C dX10_isNoneOrWithin_6 rfl ?_
    refine r_csi C dX10_isNoneOrWithin_7 ms_X10_86 (c_X10_within e l _ _ _ (by omega) (by omega)) (by decide) rfl rfl (Nat.le_of_ble_eq_true rfl) (fun z7 σ7 h7 => ?_)
    obtain ⟨rfl, rfl⟩ := h7
    refine r_ifb_eq 17 C dX10_isNoneOrWithin_10 (by decide) (fun h10 => ?_) (fun h10 => ?_)
    · refine r_iconst C dX10_isNoneOrWithin_17 ?_
      refine r_zret C dX10_isNoneOrWithin_18 (by decide) ?_
      exact ⟨_, rfl, by omega, rfl⟩
    · refine r_iconst C dX10_isNoneOrWithin_13 ?_
      refine r_goto 18 C dX10_isNoneOrWithin_14 (by decide) ?_
      refine r_zret C dX10_isNoneOrWithin_18 (by decide) ?_
      exact ⟨_, rfl, by omega, rfl⟩
set_option maxRecDepth 20000 in
theorem c_X10_isLength (e : qR) (l : Launch) (σ : qSt) (v : Int) (hv : InI v) : CM (ED e) l yX10_isLength cX10_isLength 1 (some .boolean) 2 [qi v] σ (Ri fun z σ' => z = (if 1 ≤ v ∧ v ≤ 6 then 1 else 0) ∧ σ = σ') := by
  refine CM.mk tD_ok (by decide +kernel) (Nat.le_of_ble_eq_true rfl) (fun G C => ?_)
  show G σ 0 [some (qi v)] []
  refine r_iload_n C dX10_isLength_0 rfl ?_
  refine r_iconst C dX10_isLength_1 ?_
  refine r_ic_lt 15 C dX10_isLength_2 (by decide) (by omega) (by omega) (fun h2 => ?_) (fun h2 => ?_)
  · refine r_iconst C dX10_isLength_15 ?_
    refine r_zret C dX10_isLength_16 (by decide) ?_
    exact ⟨_, rfl, by omega, rfl⟩
  · refine r_iload_n C dX10_isLength_5 rfl ?_
    refine r_bipush C dX10_isLength_6 ?_
    refine r_ic_gt 15 C dX10_isLength_8 (by decide) (by omega) (by omega) (fun h8 => ?_) (fun h8 => ?_)
    · refine r_iconst C dX10_isLength_15 ?_
      refine r_zret C dX10_isLength_16 (by decide) ?_
      exact ⟨_, rfl, by omega, rfl⟩
    · refine r_iconst C dX10_isLength_11 ?_
      refine r_goto 16 C dX10_isLength_12 (by decide) ?_
      refine r_zret C dX10_isLength_16 (by decide) ?_
      exact ⟨_, rfl, by omega, rfl⟩
set_option maxRecDepth 20000 in
theorem c_X10_isLine (e : qR) (l : Launch) (σ : qSt) (x : Int) (hb : Bd σ) (hv : InI x) : CM (ED e) l yX10_isLine cX10_isLine 2 (some .boolean) 3 [qr 0 0, qi x] σ (Ri fun z σ' => z = (if 0 ≤ x ∧ x < σ 0 0 10 then 1 else 0) ∧ σ = σ') := by
  refine CM.mk tD_ok (by decide +kernel) (Nat.le_of_ble_eq_true rfl) (fun G C => ?_)
  show G σ 0 [some (qr 0 0), some (qi x)] []
  refine r_iload_n C dX10_isLine_0 rfl ?_
  refine r_aload_n C dX10_isLine_1 rfl ?_
  refine r_get_i (c := 1) 10 C dX10_isLine_2 fl_X10_73 rfl rfl rfl rfl (by decide) ?_
  have b2 := hb 0 0 10 (by omega) (by omega)
  refine r_csi C dX10_isLine_5 ms_X10_86 (c_X10_within e l _ _ _ (by omega) (by omega)) (by decide) rfl rfl (Nat.le_of_ble_eq_true rfl) (fun z5 σ5 h5 => ?_)
  obtain ⟨rfl, rfl⟩ := h5
  refine r_zret C dX10_isLine_8 (by split <;> simp) ?_
  exact ⟨_, rfl, rfl, rfl⟩
set_option maxRecDepth 20000 in
theorem c_X10_isWording (e : qR) (l : Launch) (σ : qSt) (x : Int) (hb : Bd σ) (hv : InI x) : CM (ED e) l yX10_isWording cX10_isWording 2 (some .boolean) 3 [qr 0 0, qi x] σ (Ri fun z σ' => z = (if 0 ≤ x ∧ x < σ 0 0 11 then 1 else 0) ∧ σ = σ') := by
  refine CM.mk tD_ok (by decide +kernel) (Nat.le_of_ble_eq_true rfl) (fun G C => ?_)
  show G σ 0 [some (qr 0 0), some (qi x)] []
  refine r_iload_n C dX10_isWording_0 rfl ?_
  refine r_aload_n C dX10_isWording_1 rfl ?_
  refine r_get_i (c := 1) 11 C dX10_isWording_2 fl_X10_77 rfl rfl rfl rfl (by decide) ?_
  have b2 := hb 0 0 11 (by omega) (by omega)
  refine r_csi C dX10_isWording_5 ms_X10_86 (c_X10_within e l _ _ _ (by omega) (by omega)) (by decide) rfl rfl (Nat.le_of_ble_eq_true rfl) (fun z5 σ5 h5 => ?_)
  obtain ⟨rfl, rfl⟩ := h5
  refine r_zret C dX10_isWording_8 (by split <;> simp) ?_
  exact ⟨_, rfl, rfl, rfl⟩
set_option maxRecDepth 20000 in
theorem c_X10_finding (e : qR) (l : Launch) (σ : qSt) (x : Int) : CM (ED e) l yX10_finding cX10_finding 2 (some .int) 2 [qr 0 0, qi x] σ (Ri fun z σ' => z = x ∧ σ' = qUp σ 0 0 12 (σ 0 0 12 + 1)) := by
  refine CM.mk tD_ok (by decide +kernel) (Nat.le_of_ble_eq_true rfl) (fun G C => ?_)
  show G σ 0 [some (qr 0 0), some (qi x)] []
  refine r_aload_n C dX10_finding_0 rfl ?_
  refine r_dup C dX10_finding_1 ?_
  refine r_get_i (c := 1) 12 C dX10_finding_2 fl_X10_80 rfl rfl rfl rfl (by decide) ?_
  refine r_iconst C dX10_finding_5 ?_
  refine r_iadd C dX10_finding_6 ?_
  refine r_put_i (c := 1) 12 C dX10_finding_7 fw_X10_80 rfl rfl rfl rfl (by decide) rfl rfl ?_
  refine r_iload_n C dX10_finding_10 rfl ?_
  refine r_iret C dX10_finding_11 ?_
  exact ⟨_, rfl, rfl, rfl⟩

set_option maxRecDepth 20000 in
theorem c_X4_append (e : qR) (l : Launch) (σ : qSt) (land sort word day : Int) (hc : 0 ≤ σ 4 0 5 ∧ σ 4 0 5 < 40) : CM (ED e) l yX4_append cX4_append 5 none 2 [qr 4 0, qi land, qi sort, qi word, qi day] σ (Rv fun σ' => σ' = qUp (qUp (qUp (qUp (qUp σ 6 0 (σ 4 0 5) land) 7 0 (σ 4 0 5) sort) 8 0 (σ 4 0 5) word) 9 0 (σ 4 0 5) day) 4 0 5 (σ 4 0 5 + 1)) := by
  refine CM.mk tD_ok (by decide +kernel) (Nat.le_of_ble_eq_true rfl) (fun G C => ?_)
  show G σ 0 [some (qr 4 0), some (qi land), some (qi sort), some (qi word), some (qi day)] []
  refine r_aload_n C dX4_append_0 rfl ?_
  refine r_get_r (c := 1) C dX4_append_1 fl_X4_15 rfl rfl rfl (by decide) rfl ?_
  refine r_aload_n C dX4_append_4 rfl ?_
  refine r_get_i (c := 1) 5 C dX4_append_5 fl_X4_27 rfl rfl rfl rfl (by decide) ?_
  refine r_iload_n C dX4_append_8 rfl ?_
  refine r_iast (c := 1) (N := 40) C dX4_append_9 rfl rfl (by decide) (by omega) ?_
  refine r_aload_n C dX4_append_10 rfl ?_
  refine r_get_r (c := 1) C dX4_append_11 fl_X4_18 rfl rfl rfl (by decide) rfl ?_
  refine r_aload_n C dX4_append_14 rfl ?_
  refine r_get_i (c := 1) 5 C dX4_append_15 fl_X4_27 rfl rfl rfl rfl (by decide) ?_
  refine r_v (b := (σ 4 0 5)) (by simp [qUp, qCpy]) ?_
  refine r_iload_n C dX4_append_18 rfl ?_
  refine r_iast (c := 1) (N := 40) C dX4_append_19 rfl rfl (by decide) (by omega) ?_
  refine r_aload_n C dX4_append_20 rfl ?_
  refine r_get_r (c := 1) C dX4_append_21 fl_X4_21 rfl rfl rfl (by decide) rfl ?_
  refine r_aload_n C dX4_append_24 rfl ?_
  refine r_get_i (c := 1) 5 C dX4_append_25 fl_X4_27 rfl rfl rfl rfl (by decide) ?_
  refine r_v (b := (σ 4 0 5)) (by simp [qUp, qCpy]) ?_
  refine r_iload_n C dX4_append_28 rfl ?_
  refine r_iast (c := 1) (N := 40) C dX4_append_29 rfl rfl (by decide) (by omega) ?_
  refine r_aload_n C dX4_append_30 rfl ?_
  refine r_get_r (c := 1) C dX4_append_31 fl_X4_24 rfl rfl rfl (by decide) rfl ?_
  refine r_aload_n C dX4_append_34 rfl ?_
  refine r_get_i (c := 1) 5 C dX4_append_35 fl_X4_27 rfl rfl rfl rfl (by decide) ?_
  refine r_v (b := (σ 4 0 5)) (by simp [qUp, qCpy]) ?_
  refine r_iload C dX4_append_38 rfl ?_
  refine r_iast (c := 1) (N := 40) C dX4_append_40 rfl rfl (by decide) (by omega) ?_
  refine r_aload_n C dX4_append_41 rfl ?_
  refine r_dup C dX4_append_42 ?_
  refine r_get_i (c := 1) 5 C dX4_append_43 fl_X4_27 rfl rfl rfl rfl (by decide) ?_
  refine r_v (b := (σ 4 0 5)) (by simp [qUp, qCpy]) ?_
  refine r_iconst C dX4_append_46 ?_
  refine r_iadd C dX4_append_47 ?_
  refine r_put_i (c := 1) 5 C dX4_append_48 fw_X4_27 rfl rfl rfl rfl (by decide) rfl rfl ?_
  refine r_vret C dX4_append_51 ?_
  exact ⟨rfl, rfl⟩
set_option maxRecDepth 20000 in
theorem c_X4_overrules (e : qR) (l : Launch) (σ : qSt) (t f land day : Int) (hb : Bd σ) (ht : 0 ≤ t ∧ t < 40) (hf : InI f ∧ f < 40) (hl : InI land) (hd : InI day) : CM (ED e) l yX4_overrules cX4_overrules 5 (some .boolean) 2 [qr 4 0, qi t, qi f, qi land, qi day] σ (Ri fun z σ' => z = (if σ 6 0 t = land ∧ σ 9 0 t ≤ day ∧ (f < 0 ∨ σ 9 0 f ≤ σ 9 0 t) then 1 else 0) ∧ σ = σ') := by
  refine CM.mk tD_ok (by decide +kernel) (Nat.le_of_ble_eq_true rfl) (fun G C => ?_)
  show G σ 0 [some (qr 4 0), some (qi t), some (qi f), some (qi land), some (qi day)] []
  refine r_aload_n C dX4_overrules_0 rfl ?_
  refine r_get_r (c := 1) C dX4_overrules_1 fl_X4_15 rfl rfl rfl (by decide) rfl ?_
  refine r_iload_n C dX4_overrules_4 rfl ?_
  refine r_iald (c := 1) (N := 40) C dX4_overrules_5 rfl rfl (by decide) (by omega) ?_
  have b5 := hb 6 0 t (by omega) (by omega)
  refine r_iload_n C dX4_overrules_6 rfl ?_
  refine r_ic_ne 44 C dX4_overrules_7 (by decide) (by omega) (by omega) (fun h7 => ?_) (fun h7 => ?_)
  · refine r_iconst C dX4_overrules_44 ?_
    refine r_zret C dX4_overrules_45 (by decide) ?_
    exact ⟨_, rfl, by omega, rfl⟩
  · refine r_aload_n C dX4_overrules_10 rfl ?_
    refine r_get_r (c := 1) C dX4_overrules_11 fl_X4_24 rfl rfl rfl (by decide) rfl ?_
    refine r_iload_n C dX4_overrules_14 rfl ?_
    refine r_iald (c := 1) (N := 40) C dX4_overrules_15 rfl rfl (by decide) (by omega) ?_
    have b15 := hb 9 0 t (by omega) (by omega)
    refine r_iload C dX4_overrules_16 rfl ?_
    refine r_ic_gt 44 C dX4_overrules_18 (by decide) (by omega) (by omega) (fun h18 => ?_) (fun h18 => ?_)
    · refine r_iconst C dX4_overrules_44 ?_
      refine r_zret C dX4_overrules_45 (by decide) ?_
      exact ⟨_, rfl, by omega, rfl⟩
    · refine r_iload_n C dX4_overrules_21 rfl ?_
      refine r_if_lt 40 C dX4_overrules_22 (by decide) (by omega) (fun h22 => ?_) (fun h22 => ?_)
      · refine r_iconst C dX4_overrules_40 ?_
        refine r_goto 45 C dX4_overrules_41 (by decide) ?_
        refine r_zret C dX4_overrules_45 (by decide) ?_
        exact ⟨_, rfl, by omega, rfl⟩
      · refine r_aload_n C dX4_overrules_25 rfl ?_
        refine r_get_r (c := 1) C dX4_overrules_26 fl_X4_24 rfl rfl rfl (by decide) rfl ?_
        refine r_iload_n C dX4_overrules_29 rfl ?_
        refine r_iald (c := 1) (N := 40) C dX4_overrules_30 rfl rfl (by decide) (by omega) ?_
        have b30 := hb 9 0 t (by omega) (by omega)
        refine r_aload_n C dX4_overrules_31 rfl ?_
        refine r_get_r (c := 1) C dX4_overrules_32 fl_X4_24 rfl rfl rfl (by decide) rfl ?_
        refine r_iload_n C dX4_overrules_35 rfl ?_
        refine r_iald (c := 1) (N := 40) C dX4_overrules_36 rfl rfl (by decide) (by omega) ?_
        have b36 := hb 9 0 f (by omega) (by omega)
        refine r_ic_lt 44 C dX4_overrules_37 (by decide) (by omega) (by omega) (fun h37 => ?_) (fun h37 => ?_)
        · refine r_iconst C dX4_overrules_44 ?_
          refine r_zret C dX4_overrules_45 (by decide) ?_
          exact ⟨_, rfl, by omega, rfl⟩
        · refine r_iconst C dX4_overrules_40 ?_
          refine r_goto 45 C dX4_overrules_41 (by decide) ?_
          refine r_zret C dX4_overrules_45 (by decide) ?_
          exact ⟨_, rfl, by omega, rfl⟩
/-- the text in force, by its place: of the first n the latest, of several the last one (-1: none); q says which are meant -/
def inF (ld dy : Int → Int) (q : Int → Bool) (land day : Int) : Nat → Int
  | 0 => -1
  | n + 1 => if q n = true ∧ ld n = land ∧ dy n ≤ day ∧ (inF ld dy q land day n < 0 ∨ dy (inF ld dy q land day n) ≤ dy n) then (n : Int) else inF ld dy q land day n
theorem inF_lt (ld dy : Int → Int) (q : Int → Bool) (land day : Int) : ∀ n : Nat, -1 ≤ inF ld dy q land day n ∧ inF ld dy q land day n < n
  | 0 => by simp [inF]
  | n + 1 => by
    have := inF_lt ld dy q land day n
    simp only [inF]
    split <;> omega
def qBar (so wo : Int → Int) (word : Int) : Int → Bool := fun t => decide (so t ≠ 2 ∧ wo t = word)
def qCho (so wo nm : Int → Int) (name : Int) : Int → Bool := fun t => decide (so t = 2 ∧ nm (wo t) = name)
set_option maxRecDepth 20000 in
theorem lp_X4_isBarred {G : qSt → Nat → List (Option qV) → List qV → Prop} {Ret : Option qV → qSt → Prop} (e : qR) (l : Launch) (σ : qSt) (land word day : Int) (hb : Bd σ) (hc : 0 ≤ σ 4 0 5 ∧ σ 4 0 5 ≤ 40) (hl : InI land) (hw : InI word) (hd : InI day) (C : Cx (ED e) l RX4 cX4_isBarred 6 (some .boolean) 3 Ret G) (hR : ∀ z, z = (if 0 ≤ inF (σ 6 0) (σ 9 0) (qBar (σ 7 0) (σ 8 0) word) land day (σ 4 0 5).toNat ∧ σ 7 0 (inF (σ 6 0) (σ 9 0) (qBar (σ 7 0) (σ 8 0) word) land day (σ 4 0 5).toNat) = 0 then 1 else 0) → Ret (some (qi z)) σ) : ∀ (k : Nat) (m : Nat) (f : Int), f = inF (σ 6 0) (σ 9 0) (qBar (σ 7 0) (σ 8 0) word) land day m → (m : Int) + k = σ 4 0 5 → G σ 6 [some (qr 4 0), some (qi land), some (qi word), some (qi day), some (qi f), some (qi (m : Int))] [] := by
  intro k
  induction k with
  | zero =>
    intro m f hf hm
    have hfl := inF_lt (σ 6 0) (σ 9 0) (qBar (σ 7 0) (σ 8 0) word) land day m
    rw [← hf] at hfl
    refine r_iload C dX4_isBarred_6 rfl ?_
    refine r_aload_n C dX4_isBarred_8 rfl ?_
    refine r_get_i (c := 1) 5 C dX4_isBarred_9 fl_X4_27 rfl rfl rfl rfl (by decide) ?_
    have b9 := hb 4 0 5 (by omega) (by omega)
    refine r_ic_ge 60 C dX4_isBarred_12 (by decide) (by omega) (by omega) (fun h12 => ?_) (fun h12 => ?_)
    · refine r_iload C dX4_isBarred_60 rfl ?_
      refine r_if_lt 79 C dX4_isBarred_62 (by decide) (by omega) (fun h62 => ?_) (fun h62 => ?_)
      · refine r_iconst C dX4_isBarred_79 ?_
        refine r_zret C dX4_isBarred_80 (by decide) ?_
        exact hR _ (by rw [show (σ 4 0 5).toNat = m by omega, ← hf]; omega)
      · refine r_aload_n C dX4_isBarred_65 rfl ?_
        refine r_get_r (c := 1) C dX4_isBarred_66 fl_X4_18 rfl rfl rfl (by decide) rfl ?_
        refine r_iload C dX4_isBarred_69 rfl ?_
        refine r_iald (c := 1) (N := 40) C dX4_isBarred_71 rfl rfl (by decide) (by omega) ?_
        have b71 := hb 7 0 f (by omega) (by omega)
        refine r_if_ne 79 C dX4_isBarred_72 (by decide) (by omega) (fun h72 => ?_) (fun h72 => ?_)
        · refine r_iconst C dX4_isBarred_79 ?_
          refine r_zret C dX4_isBarred_80 (by decide) ?_
          exact hR _ (by rw [show (σ 4 0 5).toNat = m by omega, ← hf]; omega)
        · refine r_iconst C dX4_isBarred_75 ?_
          refine r_goto 80 C dX4_isBarred_76 (by decide) ?_
          refine r_zret C dX4_isBarred_80 (by decide) ?_
          exact hR _ (by rw [show (σ 4 0 5).toNat = m by omega, ← hf]; omega)
    · exfalso; omega
  | succ k ih =>
    intro m f hf hm
    have hfl := inF_lt (σ 6 0) (σ 9 0) (qBar (σ 7 0) (σ 8 0) word) land day m
    rw [← hf] at hfl
    refine r_iload C dX4_isBarred_6 rfl ?_
    refine r_aload_n C dX4_isBarred_8 rfl ?_
    refine r_get_i (c := 1) 5 C dX4_isBarred_9 fl_X4_27 rfl rfl rfl rfl (by decide) ?_
    have b9 := hb 4 0 5 (by omega) (by omega)
    refine r_ic_ge 60 C dX4_isBarred_12 (by decide) (by omega) (by omega) (fun h12 => ?_) (fun h12 => ?_)
    · exfalso; omega
    · refine r_aload_n C dX4_isBarred_15 rfl ?_
      refine r_get_r (c := 1) C dX4_isBarred_16 fl_X4_18 rfl rfl rfl (by decide) rfl ?_
      refine r_iload C dX4_isBarred_19 rfl ?_
      refine r_iald (c := 1) (N := 40) C dX4_isBarred_21 rfl rfl (by decide) (by omega) ?_
      have b21 := hb 7 0 (m : Int) (by omega) (by omega)
      refine r_iconst C dX4_isBarred_22 ?_
      refine r_ic_eq 54 C dX4_isBarred_23 (by decide) (by omega) (by omega) (fun h23 => ?_) (fun h23 => ?_)
      · refine r_iinc C dX4_isBarred_54 rfl rfl rfl (by decide) ?_
        refine r_goto 6 C dX4_isBarred_57 (by decide) ?_
        exact ih (m + 1) _ (by simp only [inF]; rw [← hf]; simp only [qBar, decide_eq_true_eq]; split <;> omega) (by omega)
      · refine r_aload_n C dX4_isBarred_26 rfl ?_
        refine r_get_r (c := 1) C dX4_isBarred_27 fl_X4_21 rfl rfl rfl (by decide) rfl ?_
        refine r_iload C dX4_isBarred_30 rfl ?_
        refine r_iald (c := 1) (N := 40) C dX4_isBarred_32 rfl rfl (by decide) (by omega) ?_
        have b32 := hb 8 0 (m : Int) (by omega) (by omega)
        refine r_iload_n C dX4_isBarred_33 rfl ?_
        refine r_ic_ne 54 C dX4_isBarred_34 (by decide) (by omega) (by omega) (fun h34 => ?_) (fun h34 => ?_)
        · refine r_iinc C dX4_isBarred_54 rfl rfl rfl (by decide) ?_
          refine r_goto 6 C dX4_isBarred_57 (by decide) ?_
          exact ih (m + 1) _ (by simp only [inF]; rw [← hf]; simp only [qBar, decide_eq_true_eq]; split <;> omega) (by omega)
        · refine r_aload_n C dX4_isBarred_37 rfl ?_
          refine r_iload C dX4_isBarred_38 rfl ?_
          refine r_iload C dX4_isBarred_40 rfl ?_
          refine r_iload_n C dX4_isBarred_42 rfl ?_
          refine r_iload_n C dX4_isBarred_43 rfl ?_
          refine r_cvi (c := 1) C dX4_isBarred_44 mv_X4_31 (c_X4_overrules e l _ _ _ _ _ hb (by omega) (by omega) (by omega) (by omega)) (by decide) rfl rfl rfl rfl (by decide) rfl rfl (Nat.le_of_ble_eq_true rfl) (fun z44 σ44 h44 => ?_)
          obtain ⟨rfl, rfl⟩ := h44
          refine r_ifb_eq 54 C dX4_isBarred_47 (by decide) (fun h47 => ?_) (fun h47 => ?_)
          · refine r_iinc C dX4_isBarred_54 rfl rfl rfl (by decide) ?_
            refine r_goto 6 C dX4_isBarred_57 (by decide) ?_
            exact ih (m + 1) _ (by simp only [inF]; rw [← hf]; simp only [qBar, decide_eq_true_eq]; split <;> omega) (by omega)
          · refine r_iload C dX4_isBarred_50 rfl ?_
            refine r_istore C dX4_isBarred_52 rfl rfl (by decide) ?_
            refine r_iinc C dX4_isBarred_54 rfl rfl rfl (by decide) ?_
            refine r_goto 6 C dX4_isBarred_57 (by decide) ?_
            exact ih (m + 1) _ (by simp only [inF]; rw [← hf]; simp only [qBar, decide_eq_true_eq]; split <;> omega) (by omega)
set_option maxRecDepth 20000 in
theorem c_X4_isBarred (e : qR) (l : Launch) (σ : qSt) (land word day : Int) (hb : Bd σ) (hc : 0 ≤ σ 4 0 5 ∧ σ 4 0 5 ≤ 40) (hl : InI land) (hw : InI word) (hd : InI day) : CM (ED e) l yX4_isBarred cX4_isBarred 6 (some .boolean) 3 [qr 4 0, qi land, qi word, qi day] σ (Ri fun z σ' => z = (if 0 ≤ inF (σ 6 0) (σ 9 0) (qBar (σ 7 0) (σ 8 0) word) land day (σ 4 0 5).toNat ∧ σ 7 0 (inF (σ 6 0) (σ 9 0) (qBar (σ 7 0) (σ 8 0) word) land day (σ 4 0 5).toNat) = 0 then 1 else 0) ∧ σ = σ') := by
  refine CM.mk tD_ok (by decide +kernel) (Nat.le_of_ble_eq_true rfl) (fun G C => ?_)
  show G σ 0 [some (qr 4 0), some (qi land), some (qi word), some (qi day), none, none] []
  refine r_iconst C dX4_isBarred_0 ?_
  refine r_istore C dX4_isBarred_1 rfl rfl (by decide) ?_
  refine r_iconst C dX4_isBarred_3 ?_
  refine r_istore C dX4_isBarred_4 rfl rfl (by decide) ?_
  exact lp_X4_isBarred e l σ land word day hb hc hl hw hd C (fun z hz => ⟨_, rfl, hz, rfl⟩) (σ 4 0 5).toNat 0 _ rfl (by omega)
