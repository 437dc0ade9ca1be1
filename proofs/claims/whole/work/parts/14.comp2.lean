/-! bits -/
theorem z_nI (n : Nat) : nI n = Int32.ofInt (n : Int) := rfl
theorem z_tn (a : Int) : (Int32.ofInt a).toBitVec.toNat = (a % 4294967296).toNat := by
  rw [Int32.toBitVec_ofInt, BitVec.toNat_ofInt]
  rfl
theorem z_mask (a : Int) (k : Nat) (p : Int) (hp : ((2 ^ k : Nat) : Int) = p) (hd : p ∣ 4294967296) (hq : p ≤ 4294967296) : Int32.ofInt a &&& Int32.ofInt (p - 1) = Int32.ofInt (a % p) := by
  have h1 : 0 < 2 ^ k := Nat.two_pow_pos k
  have hm : (Int32.ofInt (p - 1)).toBitVec.toNat = 2 ^ k - 1 := by
    rw [z_tn, Int.emod_eq_of_lt (by omega) (by omega)]
    omega
  rw [pk_and _ k hm, z_tn, z_nI]
  congr 1
  have h2 : (((a % 4294967296).toNat % 2 ^ k : Nat) : Int) = ((a % 4294967296).toNat : Int) % ((2 ^ k : Nat) : Int) := by push_cast; rfl
  rw [h2, hp, Int.toNat_of_nonneg (Int.emod_nonneg _ (by decide)), Int.emod_emod_of_dvd _ hd]
/-! the laws -/
def barB (ld so wo dy : Int → Int) (n : Nat) (land word day : Int) : Bool := decide (0 ≤ inF ld dy (qBar so wo word) land day n ∧ so (inF ld dy (qBar so wo word) land day n) = 0)
def choF (ld so wo dy nm : Int → Int) (n : Nat) (land name day : Int) : Int := if inF ld dy (qCho so wo nm name) land day n < 0 then -1 else wo (inF ld dy (qCho so wo nm name) land day n)
def okW (ld so wo dy nm : Int → Int) (n : Nat) (land day word : Int) : Bool := decide (¬ barB ld so wo dy n land word day = true ∧ (nm word < 0 ∨ choF ld so wo dy nm n land (nm word) day < 0 ∨ choF ld so wo dy nm n land (nm word) day = word))
def allW (f : Int → Bool) : Nat → Bool
  | 0 => true
  | n + 1 => allW f n && f n
theorem allW_no {f : Int → Bool} {m : Nat} (h : f m = false) : ∀ n : Nat, m < n → allW f n = false
  | 0, hn => absurd hn (Nat.not_lt_zero _)
  | n + 1, hn => by
    simp only [allW]
    by_cases e : m = n
    · subst e
      rw [h, Bool.and_false]
    · rw [allW_no h n (by omega), Bool.false_and]
def cntE (f : Int → Int) (x : Int) : Nat → Int
  | 0 => 0
  | n + 1 => cntE f x n + (if f n = x then 1 else 0)
theorem cntE_le (f : Int → Int) (x : Int) : ∀ n : Nat, 0 ≤ cntE f x n ∧ cntE f x n ≤ n
  | 0 => by simp [cntE]
  | n + 1 => by
    have := cntE_le f x n
    simp only [cntE]
    split <;> omega
theorem c_isBarred (e : qR) (l : Launch) (σ : qSt) (land word day : Int) (hb : Bd σ) (hc : 0 ≤ σ 4 0 5 ∧ σ 4 0 5 ≤ 40) (hl : InI land) (hw : InI word) (hd : InI day) : CM (ED e) l yX4_isBarred cX4_isBarred 6 (some .boolean) 3 [qr 4 0, qi land, qi word, qi day] σ (Ri fun z σ' => z = (if barB (σ 6 0) (σ 7 0) (σ 8 0) (σ 9 0) (σ 4 0 5).toNat land word day = true then 1 else 0) ∧ σ = σ') :=
  (c_X4_isBarred e l σ land word day hb hc hl hw hd).weaken (fun r σ' h => by
    obtain ⟨z, rfl, hz, h2⟩ := h
    exact ⟨z, rfl, by rw [hz]; simp only [barB, decide_eq_true_eq], h2⟩)
set_option maxRecDepth 20000 in
theorem lp_X4_choiceFor {G : qSt → Nat → List (Option qV) → List qV → Prop} {Ret : Option qV → qSt → Prop} (e : qR) (l : Launch) (σ : qSt) (land name day : Int) (hb : Bd σ) (hc : 0 ≤ σ 4 0 5 ∧ σ 4 0 5 ≤ 40) (hW : ∀ t, 0 ≤ t → t < 40 → 0 ≤ σ 8 0 t ∧ σ 8 0 t < 32) (hl : InI land) (hw : InI name) (hd : InI day) (C : Cx (ED e) l RX4 cX4_choiceFor 6 (some .int) 3 Ret G) (hR : ∀ z, z = choF (σ 6 0) (σ 7 0) (σ 8 0) (σ 9 0) (σ 5 0) (σ 4 0 5).toNat land name day → Ret (some (qi z)) σ) : ∀ (k : Nat) (m : Nat) (f : Int), f = inF (σ 6 0) (σ 9 0) (qCho (σ 7 0) (σ 8 0) (σ 5 0) name) land day m → (m : Int) + k = σ 4 0 5 → G σ 6 [some (qr 4 0), some (qi land), some (qi name), some (qi day), some (qi f), some (qi (m : Int))] [] := by
  intro k
  induction k with
  | zero =>
    intro m f hf hm
    have hfl := inF_lt (σ 6 0) (σ 9 0) (qCho (σ 7 0) (σ 8 0) (σ 5 0) name) land day m
    rw [← hf] at hfl
    refine r_iload C dX4_choiceFor_6 rfl ?_
    refine r_aload_n C dX4_choiceFor_8 rfl ?_
    refine r_get_i (c := 1) 5 C dX4_choiceFor_9 fl_X4_27 rfl rfl rfl rfl (by decide) ?_
    have b9 := hb 4 0 5 (by omega) (by omega)
    refine r_ic_ge 65 C dX4_choiceFor_12 (by decide) (by omega) (by omega) (fun h12 => ?_) (fun h12 => ?_)
    · refine r_iload C dX4_choiceFor_65 rfl ?_
      refine r_if_ge 74 C dX4_choiceFor_67 (by decide) (by omega) (fun h67 => ?_) (fun h67 => ?_)
      · refine r_aload_n C dX4_choiceFor_74 rfl ?_
        refine r_get_r (c := 1) C dX4_choiceFor_75 fl_X4_21 rfl rfl rfl (by decide) rfl ?_
        refine r_iload C dX4_choiceFor_78 rfl ?_
        refine r_iald (c := 1) (N := 40) C dX4_choiceFor_80 rfl rfl (by decide) (by omega) ?_
        have b80 := hb 8 0 f (by omega) (by omega)
        refine r_iret C dX4_choiceFor_81 ?_
        exact hR _ (by simp only [choF]; rw [show (σ 4 0 5).toNat = m by omega, ← hf]; split <;> omega)
      · refine r_iconst C dX4_choiceFor_70 ?_
        refine r_goto 81 C dX4_choiceFor_71 (by decide) ?_
        refine r_iret C dX4_choiceFor_81 ?_
        exact hR _ (by simp only [choF]; rw [show (σ 4 0 5).toNat = m by omega, ← hf]; split <;> omega)
    · exfalso; omega
  | succ k ih =>
    intro m f hf hm
    have hfl := inF_lt (σ 6 0) (σ 9 0) (qCho (σ 7 0) (σ 8 0) (σ 5 0) name) land day m
    rw [← hf] at hfl
    refine r_iload C dX4_choiceFor_6 rfl ?_
    refine r_aload_n C dX4_choiceFor_8 rfl ?_
    refine r_get_i (c := 1) 5 C dX4_choiceFor_9 fl_X4_27 rfl rfl rfl rfl (by decide) ?_
    have b9 := hb 4 0 5 (by omega) (by omega)
    refine r_ic_ge 65 C dX4_choiceFor_12 (by decide) (by omega) (by omega) (fun h12 => ?_) (fun h12 => ?_)
    · exfalso; omega
    · refine r_aload_n C dX4_choiceFor_15 rfl ?_
      refine r_get_r (c := 1) C dX4_choiceFor_16 fl_X4_18 rfl rfl rfl (by decide) rfl ?_
      refine r_iload C dX4_choiceFor_19 rfl ?_
      refine r_iald (c := 1) (N := 40) C dX4_choiceFor_21 rfl rfl (by decide) (by omega) ?_
      have b21 := hb 7 0 (m : Int) (by omega) (by omega)
      refine r_iconst C dX4_choiceFor_22 ?_
      refine r_ic_ne 59 C dX4_choiceFor_23 (by decide) (by omega) (by omega) (fun h23 => ?_) (fun h23 => ?_)
      · refine r_iinc C dX4_choiceFor_59 rfl rfl rfl (by decide) ?_
        refine r_goto 6 C dX4_choiceFor_62 (by decide) ?_
        exact ih (m + 1) _ (by simp only [inF]; rw [← hf]; simp only [qCho, decide_eq_true_eq]; split <;> omega) (by omega)
      · refine r_aload_n C dX4_choiceFor_26 rfl ?_
        refine r_get_r (c := 1) C dX4_choiceFor_27 fl_X4_9 rfl rfl rfl (by decide) rfl ?_
        refine r_aload_n C dX4_choiceFor_30 rfl ?_
        refine r_get_r (c := 1) C dX4_choiceFor_31 fl_X4_21 rfl rfl rfl (by decide) rfl ?_
        refine r_iload C dX4_choiceFor_34 rfl ?_
        refine r_iald (c := 1) (N := 40) C dX4_choiceFor_36 rfl rfl (by decide) (by omega) ?_
        have b36 := hb 8 0 (m : Int) (by omega) (by omega)
        have w37 := hW (m : Int) (by omega) (by omega)
        refine r_iald (c := 1) (N := 32) C dX4_choiceFor_37 rfl rfl (by decide) (by omega) ?_
        have b37 := hb 5 0 (σ 8 0 (m : Int)) (by omega) (by omega)
        refine r_iload_n C dX4_choiceFor_38 rfl ?_
        refine r_ic_ne 59 C dX4_choiceFor_39 (by decide) (by omega) (by omega) (fun h39 => ?_) (fun h39 => ?_)
        · refine r_iinc C dX4_choiceFor_59 rfl rfl rfl (by decide) ?_
          refine r_goto 6 C dX4_choiceFor_62 (by decide) ?_
          exact ih (m + 1) _ (by simp only [inF]; rw [← hf]; simp only [qCho, decide_eq_true_eq]; split <;> omega) (by omega)
        · refine r_aload_n C dX4_choiceFor_42 rfl ?_
          refine r_iload C dX4_choiceFor_43 rfl ?_
          refine r_iload C dX4_choiceFor_45 rfl ?_
          refine r_iload_n C dX4_choiceFor_47 rfl ?_
          refine r_iload_n C dX4_choiceFor_48 rfl ?_
          refine r_cvi (c := 1) C dX4_choiceFor_49 mv_X4_31 (c_X4_overrules e l _ _ _ _ _ hb (by omega) (by omega) (by omega) (by omega)) (by decide) rfl rfl rfl rfl (by decide) rfl rfl (Nat.le_of_ble_eq_true rfl) (fun z49 σ49 h49 => ?_)
          obtain ⟨rfl, rfl⟩ := h49
          refine r_ifb_eq 59 C dX4_choiceFor_52 (by decide) (fun h52 => ?_) (fun h52 => ?_)
          · refine r_iinc C dX4_choiceFor_59 rfl rfl rfl (by decide) ?_
            refine r_goto 6 C dX4_choiceFor_62 (by decide) ?_
            exact ih (m + 1) _ (by simp only [inF]; rw [← hf]; simp only [qCho, decide_eq_true_eq]; split <;> omega) (by omega)
          · refine r_iload C dX4_choiceFor_55 rfl ?_
            refine r_istore C dX4_choiceFor_57 rfl rfl (by decide) ?_
            refine r_iinc C dX4_choiceFor_59 rfl rfl rfl (by decide) ?_
            refine r_goto 6 C dX4_choiceFor_62 (by decide) ?_
            exact ih (m + 1) _ (by simp only [inF]; rw [← hf]; simp only [qCho, decide_eq_true_eq]; split <;> omega) (by omega)
set_option maxRecDepth 20000 in
theorem c_X4_choiceFor (e : qR) (l : Launch) (σ : qSt) (land name day : Int) (hb : Bd σ) (hc : 0 ≤ σ 4 0 5 ∧ σ 4 0 5 ≤ 40) (hW : ∀ t, 0 ≤ t → t < 40 → 0 ≤ σ 8 0 t ∧ σ 8 0 t < 32) (hl : InI land) (hw : InI name) (hd : InI day) : CM (ED e) l yX4_choiceFor cX4_choiceFor 6 (some .int) 3 [qr 4 0, qi land, qi name, qi day] σ (Ri fun z σ' => z = choF (σ 6 0) (σ 7 0) (σ 8 0) (σ 9 0) (σ 5 0) (σ 4 0 5).toNat land name day ∧ σ = σ') := by
  refine CM.mk tD_ok (by decide +kernel) (Nat.le_of_ble_eq_true rfl) (fun G C => ?_)
  show G σ 0 [some (qr 4 0), some (qi land), some (qi name), some (qi day), none, none] []
  refine r_iconst C dX4_choiceFor_0 ?_
  refine r_istore C dX4_choiceFor_1 rfl rfl (by decide) ?_
  refine r_iconst C dX4_choiceFor_3 ?_
  refine r_istore C dX4_choiceFor_4 rfl rfl (by decide) ?_
  exact lp_X4_choiceFor e l σ land name day hb hc hW hl hw hd C (fun z hz => ⟨_, rfl, hz, rfl⟩) (σ 4 0 5).toNat 0 _ rfl (by omega)
theorem choF_rng {ld so wo dy nm : Int → Int} {n : Nat} {land name day : Int} (hn : n ≤ 40) (hW : ∀ t, 0 ≤ t → t < 40 → 0 ≤ wo t ∧ wo t < 32) : -1 ≤ choF ld so wo dy nm n land name day ∧ choF ld so wo dy nm n land name day < 32 := by
  unfold choF
  have := inF_lt ld dy (qCho so wo nm name) land day n
  split
  · omega
  · have := hW _ (by omega : 0 ≤ inF ld dy (qCho so wo nm name) land day n) (by omega)
    omega
set_option maxRecDepth 20000 in
theorem c_X4_allowsWord (e : qR) (l : Launch) (σ : qSt) (word land day : Int) (hb : Bd σ) (hc : 0 ≤ σ 4 0 5 ∧ σ 4 0 5 ≤ 40) (hW : ∀ t, 0 ≤ t → t < 40 → 0 ≤ σ 8 0 t ∧ σ 8 0 t < 32) (hl : InI land) (hw : 0 ≤ word ∧ word < 32) (hd : InI day) : CM (ED e) l yX4_allowsWord cX4_allowsWord 5 (some .boolean) 4 [qr 4 0, qi word, qi land, qi day] σ (Ri fun z σ' => z = (if okW (σ 6 0) (σ 7 0) (σ 8 0) (σ 9 0) (σ 5 0) (σ 4 0 5).toNat land day word = true then 1 else 0) ∧ σ = σ') := by
  refine CM.mk tD_ok (by decide +kernel) (Nat.le_of_ble_eq_true rfl) (fun G C => ?_)
  show G σ 0 [some (qr 4 0), some (qi word), some (qi land), some (qi day), none] []
  refine r_aload_n C dX4_allowsWord_0 rfl ?_
  refine r_iload_n C dX4_allowsWord_1 rfl ?_
  refine r_iload_n C dX4_allowsWord_2 rfl ?_
  refine r_iload_n C dX4_allowsWord_3 rfl ?_
  refine r_cvi (c := 1) C dX4_allowsWord_4 mv_X4_45 (c_isBarred e l _ _ _ _ hb hc (by omega) (by omega) (by omega)) (by decide) rfl rfl rfl rfl (by decide) rfl rfl (Nat.le_of_ble_eq_true rfl) (fun z4 σ4 h4 => ?_)
  obtain ⟨rfl, rfl⟩ := h4
  refine r_ifb_eq 12 C dX4_allowsWord_7 (by decide) (fun h7 => ?_) (fun h7 => ?_)
  · refine r_aload_n C dX4_allowsWord_12 rfl ?_
    refine r_get_r (c := 1) C dX4_allowsWord_13 fl_X4_9 rfl rfl rfl (by decide) rfl ?_
    refine r_iload_n C dX4_allowsWord_16 rfl ?_
    refine r_iald (c := 1) (N := 32) C dX4_allowsWord_17 rfl rfl (by decide) (by omega) ?_
    have b17 := hb 5 0 word (by omega) (by omega)
    refine r_if_ge 23 C dX4_allowsWord_18 (by decide) (by omega) (fun h18 => ?_) (fun h18 => ?_)
    · refine r_aload_n C dX4_allowsWord_23 rfl ?_
      refine r_iload_n C dX4_allowsWord_24 rfl ?_
      refine r_aload_n C dX4_allowsWord_25 rfl ?_
      refine r_get_r (c := 1) C dX4_allowsWord_26 fl_X4_9 rfl rfl rfl (by decide) rfl ?_
      refine r_iload_n C dX4_allowsWord_29 rfl ?_
      refine r_iald (c := 1) (N := 32) C dX4_allowsWord_30 rfl rfl (by decide) (by omega) ?_
      have b30 := hb 5 0 word (by omega) (by omega)
      refine r_iload_n C dX4_allowsWord_31 rfl ?_
      refine r_cvi (c := 1) C dX4_allowsWord_32 mv_X4_48 (c_X4_choiceFor e l _ _ _ _ hb hc hW (by omega) (by omega) (by omega)) (by decide) rfl rfl rfl rfl (by decide) rfl rfl (Nat.le_of_ble_eq_true rfl) (fun z32 σ32 h32 => ?_)
      obtain ⟨rfl, rfl⟩ := h32
      have hch := choF_rng (ld := σ 6 0) (so := σ 7 0) (wo := σ 8 0) (dy := σ 9 0) (nm := σ 5 0) (n := (σ 4 0 5).toNat) (land := land) (name := σ 5 0 word) (day := day) (by omega) hW
      refine r_istore C dX4_allowsWord_35 rfl rfl (by decide) ?_
      refine r_iload C dX4_allowsWord_37 rfl ?_
      refine r_if_lt 48 C dX4_allowsWord_39 (by decide) (by omega) (fun h39 => ?_) (fun h39 => ?_)
      · refine r_iconst C dX4_allowsWord_48 ?_
        refine r_goto 53 C dX4_allowsWord_49 (by decide) ?_
        refine r_zret C dX4_allowsWord_53 (by decide) ?_
        exact ⟨_, rfl, (if_pos (by simp only [okW, decide_eq_true_eq]; exact ⟨h7, by omega⟩)).symm, rfl⟩
      · refine r_iload C dX4_allowsWord_42 rfl ?_
        refine r_iload_n C dX4_allowsWord_44 rfl ?_
        refine r_ic_ne 52 C dX4_allowsWord_45 (by decide) (by omega) (by omega) (fun h45 => ?_) (fun h45 => ?_)
        · refine r_iconst C dX4_allowsWord_52 ?_
          refine r_zret C dX4_allowsWord_53 (by decide) ?_
          exact ⟨_, rfl, (if_neg (by simp only [okW, decide_eq_true_eq]; exact fun q => by have := q.2; omega)).symm, rfl⟩
        · refine r_iconst C dX4_allowsWord_48 ?_
          refine r_goto 53 C dX4_allowsWord_49 (by decide) ?_
          refine r_zret C dX4_allowsWord_53 (by decide) ?_
          exact ⟨_, rfl, (if_pos (by simp only [okW, decide_eq_true_eq]; exact ⟨h7, by omega⟩)).symm, rfl⟩
    · refine r_iconst C dX4_allowsWord_21 ?_
      refine r_zret C dX4_allowsWord_22 (by decide) ?_
      exact ⟨_, rfl, (if_pos (by simp only [okW, decide_eq_true_eq]; exact ⟨h7, Or.inl h18⟩)).symm, rfl⟩
  · refine r_iconst C dX4_allowsWord_10 ?_
    refine r_zret C dX4_allowsWord_11 (by decide) ?_
    exact ⟨_, rfl, (if_neg (by simp only [okW, decide_eq_true_eq]; exact fun q => q.1 h7)).symm, rfl⟩
set_option maxRecDepth 20000 in
theorem lp_X4_allows {G : qSt → Nat → List (Option qV) → List qV → Prop} {Ret : Option qV → qSt → Prop} (e : qR) (l : Launch) (σ : qSt) (w land day : Int) (hb : Bd σ) (hc : 0 ≤ σ 4 0 5 ∧ σ 4 0 5 ≤ 40) (hW : ∀ t, 0 ≤ t → t < 40 → 0 ≤ σ 8 0 t ∧ σ 8 0 t < 32) (hl : InI land) (hd : InI day) (hw : 0 ≤ w ∧ w < 20) (hs : 0 ≤ σ 105 w 7 ∧ σ 105 w 7 ≤ 8) (hV : ∀ t, 0 ≤ t → t < 8 → 0 ≤ σ 109 w t ∧ σ 109 w t < 32) (C : Cx (ED e) l RX4 cX4_allows 5 (some .boolean) 5 Ret G) (hR : ∀ z, z = (if allW (fun i => okW (σ 6 0) (σ 7 0) (σ 8 0) (σ 9 0) (σ 5 0) (σ 4 0 5).toNat land day (σ 109 w i)) (σ 105 w 7).toNat = true then 1 else 0) → Ret (some (qi z)) σ) : ∀ (k : Nat) (m : Nat), allW (fun i => okW (σ 6 0) (σ 7 0) (σ 8 0) (σ 9 0) (σ 5 0) (σ 4 0 5).toNat land day (σ 109 w i)) m = true → (m : Int) + k = σ 105 w 7 → G σ 3 [some (qr 4 0), some (qr 105 w), some (qi land), some (qi day), some (qi (m : Int))] [] := by
  intro k
  induction k with
  | zero =>
    intro m hf hm
    refine r_iload C dX4_allows_3 rfl ?_
    refine r_aload_n C dX4_allows_5 rfl ?_
    refine r_get_i (c := 20) 7 C dX4_allows_6 fl_X4_35 rfl rfl rfl rfl (by omega) ?_
    have b6 := hb 105 w 7 (by omega) (by omega)
    refine r_ic_ge 36 C dX4_allows_9 (by decide) (by omega) (by omega) (fun h9 => ?_) (fun h9 => ?_)
    · refine r_iconst C dX4_allows_36 ?_
      refine r_zret C dX4_allows_37 (by decide) ?_
      exact hR _ (by rw [show (σ 105 w 7).toNat = m by omega, hf]; rfl)
    · exfalso; omega
  | succ k ih =>
    intro m hf hm
    refine r_iload C dX4_allows_3 rfl ?_
    refine r_aload_n C dX4_allows_5 rfl ?_
    refine r_get_i (c := 20) 7 C dX4_allows_6 fl_X4_35 rfl rfl rfl rfl (by omega) ?_
    have b6 := hb 105 w 7 (by omega) (by omega)
    refine r_ic_ge 36 C dX4_allows_9 (by decide) (by omega) (by omega) (fun h9 => ?_) (fun h9 => ?_)
    · exfalso; omega
    · refine r_aload_n C dX4_allows_12 rfl ?_
      refine r_aload_n C dX4_allows_13 rfl ?_
      refine r_get_r (c := 20) C dX4_allows_14 fl_X4_40 rfl rfl rfl (by omega) rfl ?_
      refine r_iload C dX4_allows_17 rfl ?_
      refine r_iald (c := 20) (N := 8) C dX4_allows_19 rfl rfl (by omega) (by omega) ?_
      have b19 := hb 109 w (m : Int) (by omega) (by omega)
      have w20 := hV (m : Int) (by omega) (by omega)
      refine r_iload_n C dX4_allows_20 rfl ?_
      refine r_iload_n C dX4_allows_21 rfl ?_
      refine r_cvi (c := 1) C dX4_allows_22 mv_X4_41 (c_X4_allowsWord e l _ _ _ _ hb hc hW (by omega) (by omega) (by omega)) (by decide) rfl rfl rfl rfl (by decide) rfl rfl (Nat.le_of_ble_eq_true rfl) (fun z22 σ22 h22 => ?_)
      obtain ⟨rfl, rfl⟩ := h22
      refine r_ifb_ne 30 C dX4_allows_25 (by decide) (fun h25 => ?_) (fun h25 => ?_)
      · refine r_iinc C dX4_allows_30 rfl rfl rfl (by decide) ?_
        refine r_goto 3 C dX4_allows_33 (by decide) ?_
        exact ih (m + 1) (by simp only [allW, hf, Bool.true_and]; exact h25) (by omega)
      · refine r_iconst C dX4_allows_28 ?_
        refine r_zret C dX4_allows_29 (by decide) ?_
        exact hR _ (by rw [allW_no (m := m) (by simpa using h25) _ (by omega)]; rfl)
set_option maxRecDepth 20000 in
theorem c_X4_allows (e : qR) (l : Launch) (σ : qSt) (w land day : Int) (hb : Bd σ) (hc : 0 ≤ σ 4 0 5 ∧ σ 4 0 5 ≤ 40) (hW : ∀ t, 0 ≤ t → t < 40 → 0 ≤ σ 8 0 t ∧ σ 8 0 t < 32) (hl : InI land) (hd : InI day) (hw : 0 ≤ w ∧ w < 20) (hs : 0 ≤ σ 105 w 7 ∧ σ 105 w 7 ≤ 8) (hV : ∀ t, 0 ≤ t → t < 8 → 0 ≤ σ 109 w t ∧ σ 109 w t < 32) : CM (ED e) l yX4_allows cX4_allows 5 (some .boolean) 5 [qr 4 0, qr 105 w, qi land, qi day] σ (Ri fun z σ' => z = (if allW (fun i => okW (σ 6 0) (σ 7 0) (σ 8 0) (σ 9 0) (σ 5 0) (σ 4 0 5).toNat land day (σ 109 w i)) (σ 105 w 7).toNat = true then 1 else 0) ∧ σ = σ') := by
  refine CM.mk tD_ok (by decide +kernel) (Nat.le_of_ble_eq_true rfl) (fun G C => ?_)
  show G σ 0 [some (qr 4 0), some (qr 105 w), some (qi land), some (qi day), none] []
  refine r_iconst C dX4_allows_0 ?_
  refine r_istore C dX4_allows_1 rfl rfl (by decide) ?_
  exact lp_X4_allows e l σ w land day hb hc hW hl hd hw hs hV C (fun z hz => ⟨_, rfl, hz, rfl⟩) (σ 105 w 7).toNat 0 rfl (by omega)
