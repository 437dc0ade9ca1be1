/-! THE FIT: tables and their equations -/
def sOc (oc : Int → Int) (p : Int) : Nat → Int
  | 0 => 0
  | k + 1 => sOc oc p k + oc (p + k)
/-- the least of c at 1 .. k from lo on; 1000000 if there is none below it -/
def mnL (c : Nat → Int) (lo : Int) : Nat → Int
  | 0 => 1000000
  | k + 1 => if lo ≤ ((k + 1 : Nat) : Int) then min (mnL c lo k) (c (k + 1)) else mnL c lo k
/-- the first of 1 .. k at which c holds; 0 if it does nowhere -/
def shF (c : Nat → Bool) : Nat → Int
  | 0 => 0
  | k + 1 => if shF c k ≠ 0 then shF c k else if c (k + 1) = true then ((k + 1 : Nat) : Int) else 0
def pz (s : Int) : Int := if s = 0 then 0 else 2
theorem pz_rng (s : Int) : 0 ≤ pz s ∧ pz s ≤ 2 := by unfold pz; split <;> omega
theorem sOc_rng {oc : Int → Int} (h : ∀ q, 0 ≤ oc q ∧ oc q ≤ 3) (p : Int) : ∀ k : Nat, 0 ≤ sOc oc p k ∧ sOc oc p k ≤ 3 * k
  | 0 => by simp [sOc]
  | k + 1 => by
    have h1 := sOc_rng h p k
    have h2 := h (p + k)
    simp only [sOc]
    omega
theorem mnL_le (c : Nat → Int) (lo : Int) : ∀ k : Nat, mnL c lo k ≤ 1000000
  | 0 => by simp [mnL]
  | k + 1 => by
    have := mnL_le c lo k
    simp only [mnL]
    split <;> omega
theorem mnL_ge {c : Nat → Int} {lo : Int} : ∀ k : Nat, (∀ j, 1 ≤ j → j ≤ k → 0 ≤ c j) → 0 ≤ mnL c lo k
  | 0, _ => by simp [mnL]
  | k + 1, h => by
    have h1 := mnL_ge (c := c) (lo := lo) k (fun j a b => h j a (by omega))
    have h2 := h (k + 1) (by omega) (by omega)
    simp only [mnL]
    split <;> omega
theorem shF_rng (c : Nat → Bool) : ∀ k : Nat, 0 ≤ shF c k ∧ shF c k ≤ k
  | 0 => by simp [shF]
  | k + 1 => by
    have := shF_rng c k
    simp only [shF]
    split
    · omega
    · split <;> omega
theorem shF_keep {c : Nat → Bool} {m : Nat} (h : shF c m ≠ 0) : ∀ k : Nat, m ≤ k → shF c k = shF c m
  | 0, hk => by rw [show m = 0 by omega]
  | k + 1, hk => by
    by_cases e : m = k + 1
    · rw [e]
    · have := shF_keep h k (by omega)
      simp only [shF]
      rw [this, if_pos h]
theorem mnL_lo (c : Nat → Int) (lo : Int) : ∀ k : Nat, (∀ j, -3000000 ≤ c j) → -3000000 ≤ mnL c lo k
  | 0, _ => by simp [mnL]
  | k + 1, h => by
    have h1 := mnL_lo c lo k h
    have h2 := h (k + 1)
    simp only [mnL]
    split <;> omega
set_option maxRecDepth 20000 in
theorem c_X2_pauseCost (e : qR) (l : Launch) (σ : qSt) (s : Int) (hs : InI s) : CM (ED e) l yX2_pauseCost cX2_pauseCost 1 (some .int) 2 [qi s] σ (Ri fun z σ' => z = pz s ∧ σ = σ') := by
  refine CM.mk tD_ok (by decide +kernel) (Nat.le_of_ble_eq_true rfl) (fun G C => ?_)
  show G σ 0 [some (qi s)] []
  refine r_iload_n C dX2_pauseCost_0 rfl ?_
  refine r_if_ne 8 C dX2_pauseCost_1 (by decide) (by omega) (fun h1 => ?_) (fun h1 => ?_)
  · refine r_iconst C dX2_pauseCost_8 ?_
    refine r_iret C dX2_pauseCost_9 ?_
    exact ⟨_, rfl, by simp only [pz]; omega, rfl⟩
  · refine r_iconst C dX2_pauseCost_4 ?_
    refine r_goto 9 C dX2_pauseCost_5 (by decide) ?_
    refine r_iret C dX2_pauseCost_9 ?_
    exact ⟨_, rfl, by simp only [pz]; omega, rfl⟩
set_option maxRecDepth 20000 in
theorem lp_X2_leastFrom {G : qSt → Nat → List (Option qV) → List qV → Prop} {Ret : Option qV → qSt → Prop} (e : qR) (l : Launch) (σ : qSt) (w i s p : Int) (K : Nat) (hb : Bd σ) (hw : 0 ≤ w ∧ w < 20) (hi : 0 ≤ i ∧ i < 12) (hs : 0 ≤ s ∧ s < 8) (hn : 0 ≤ σ 81 i 2 ∧ σ 81 i 2 ≤ 24) (hp : 0 ≤ p ∧ p < σ 81 i 2) (hlo : 0 ≤ σ 107 w s ∧ σ 107 w s ≤ 6) (hmo : 0 ≤ σ 108 w s ∧ σ 108 w s ≤ 6) (hK : (K : Int) ≤ σ 81 i 2 - p) (C : Cx (ED e) l RX2 cX2_leastFrom 9 (some .int) 3 Ret G) (hR : Ret (some (qi (mnL (fun j => sOc (fun q => cOv (σ 106 w s) (σ 82 i q) (σ 105 w 5)) p j + σ 25 (s + 1) (p + j)) (σ 107 w s) K))) σ) : ∀ (k : Nat) (m : Nat) (x la le : Int), x = (m : Int) + 1 → la = sOc (fun q => cOv (σ 106 w s) (σ 82 i q) (σ 105 w 5)) p m → le = mnL (fun j => sOc (fun q => cOv (σ 106 w s) (σ 82 i q) (σ 105 w 5)) p j + σ 25 (s + 1) (p + j)) (σ 107 w s) m → m + k = K → G σ 27 [some (qr 23 0), some (qr 105 w), some (qr 81 i), some (qi s), some (qi p), some (qi (K : Int)), some (qi la), some (qi le), some (qi x)] [] := by
  intro k
  induction k with
  | zero =>
    intro m x la le hx hla hle hm
    have hsr := sOc_rng (oc := (fun q => cOv (σ 106 w s) (σ 82 i q) (σ 105 w 5))) (fun q => cOv_rng _ _ _) p m
    have hml := mnL_le (fun j => sOc (fun q => cOv (σ 106 w s) (σ 82 i q) (σ 105 w 5)) p j + σ 25 (s + 1) (p + j)) (σ 107 w s) m
    rw [← hla] at hsr
    rw [← hle] at hml
    have hmg : -3000000 ≤ le := by rw [hle]; exact mnL_lo _ _ _ (fun j => by have h1 := sOc_rng (oc := (fun q => cOv (σ 106 w s) (σ 82 i q) (σ 105 w 5))) (fun q => cOv_rng _ _ _) p j; have h2 := hb 25 (s + 1) (p + j) (by omega) (by omega); omega)
    refine r_iload C dX2_leastFrom_27 rfl ?_
    refine r_iload C dX2_leastFrom_29 rfl ?_
    refine r_ic_gt 97 C dX2_leastFrom_31 (by decide) (by omega) (by omega) (fun h31 => ?_) (fun h31 => ?_)
    · refine r_iload C dX2_leastFrom_97 rfl ?_
      refine r_iret C dX2_leastFrom_99 ?_
      rw [show m = K by omega] at hle
      rw [hle]
      exact hR
    · exfalso; omega
  | succ k ih =>
    intro m x la le hx hla hle hm
    have hsr := sOc_rng (oc := (fun q => cOv (σ 106 w s) (σ 82 i q) (σ 105 w 5))) (fun q => cOv_rng _ _ _) p m
    have hml := mnL_le (fun j => sOc (fun q => cOv (σ 106 w s) (σ 82 i q) (σ 105 w 5)) p j + σ 25 (s + 1) (p + j)) (σ 107 w s) m
    rw [← hla] at hsr
    rw [← hle] at hml
    have hmg : -3000000 ≤ le := by rw [hle]; exact mnL_lo _ _ _ (fun j => by have h1 := sOc_rng (oc := (fun q => cOv (σ 106 w s) (σ 82 i q) (σ 105 w 5))) (fun q => cOv_rng _ _ _) p j; have h2 := hb 25 (s + 1) (p + j) (by omega) (by omega); omega)
    refine r_iload C dX2_leastFrom_27 rfl ?_
    refine r_iload C dX2_leastFrom_29 rfl ?_
    refine r_ic_gt 97 C dX2_leastFrom_31 (by decide) (by omega) (by omega) (fun h31 => ?_) (fun h31 => ?_)
    · exfalso; omega
    · refine r_iload C dX2_leastFrom_34 rfl ?_
      refine r_aload_n C dX2_leastFrom_36 rfl ?_
      refine r_iload_n C dX2_leastFrom_37 rfl ?_
      refine r_aload_n C dX2_leastFrom_38 rfl ?_
      refine r_get_r (c := 12) C dX2_leastFrom_39 fl_X2_51 rfl rfl rfl (by omega) rfl ?_
      refine r_iload C dX2_leastFrom_42 rfl ?_
      refine r_iload C dX2_leastFrom_44 rfl ?_
      refine r_iadd C dX2_leastFrom_46 ?_
      refine r_iconst C dX2_leastFrom_47 ?_
      refine r_isub C dX2_leastFrom_48 ?_
      refine r_iald (c := 12) (N := 24) C dX2_leastFrom_49 rfl rfl (by omega) (by omega) ?_
      have b49 := hb 82 i ((p + x) - 1) (by omega) (by omega)
      refine r_cvi (c := 20) C dX2_leastFrom_50 mv_X2_71 (c_X9_costOver e l _ _ _ _ hb hw hs (by omega)) (by decide) rfl rfl rfl rfl (by omega) rfl rfl (Nat.le_of_ble_eq_true rfl) (fun z50 σ50 h50 => ?_)
      obtain ⟨rfl, rfl⟩ := h50
      have hcv50 := cOv_rng (σ 106 w s) (σ 82 i (p + x - 1)) (σ 105 w 5)
      refine r_iadd C dX2_leastFrom_53 ?_
      refine r_istore C dX2_leastFrom_54 rfl rfl (by decide) ?_
      refine r_iload C dX2_leastFrom_56 rfl ?_
      refine r_aload_n C dX2_leastFrom_58 rfl ?_
      refine r_get_r (c := 20) C dX2_leastFrom_59 fl_X2_74 rfl rfl rfl (by omega) rfl ?_
      refine r_iload_n C dX2_leastFrom_62 rfl ?_
      refine r_iald (c := 20) (N := 8) C dX2_leastFrom_63 rfl rfl (by omega) (by omega) ?_
      have b63 := hb 107 w s (by omega) (by omega)
      refine r_ic_lt 91 C dX2_leastFrom_64 (by decide) (by omega) (by omega) (fun h64 => ?_) (fun h64 => ?_)
      · refine r_iinc C dX2_leastFrom_91 rfl rfl rfl (by decide) ?_
        refine r_goto 27 C dX2_leastFrom_94 (by decide) ?_
        exact ih (m + 1) _ _ _ (by omega) (by simp only [sOc]; rw [← hla, show p + x - 1 = p + (m : Int) by omega]) (by simp only [mnL]; rw [← hle]; first | (rw [if_pos (by omega)]; simp only [sOc]; rw [← hla, show p + x - 1 = p + (m : Int) by omega, show p + x = p + ((m + 1 : Nat) : Int) by omega]) | rw [if_neg (by omega)]) (by omega)
      · refine r_iload C dX2_leastFrom_67 rfl ?_
        refine r_iload C dX2_leastFrom_69 rfl ?_
        refine r_aload_n C dX2_leastFrom_71 rfl ?_
        refine r_get_r (c := 1) C dX2_leastFrom_72 fl_X2_11 rfl rfl rfl (by decide) rfl ?_
        refine r_iload_n C dX2_leastFrom_75 rfl ?_
        refine r_iconst C dX2_leastFrom_76 ?_
        refine r_iadd C dX2_leastFrom_77 ?_
        refine r_aald (c := 1) (N := 9) C dX2_leastFrom_78 rfl (by decide) rfl (by decide) (by omega) rfl ?_
        refine r_iload C dX2_leastFrom_79 rfl ?_
        refine r_iload C dX2_leastFrom_81 rfl ?_
        refine r_iadd C dX2_leastFrom_83 ?_
        refine r_iald (c := 9) (N := 25) C dX2_leastFrom_84 rfl rfl (by omega) (by omega) ?_
        have b84 := hb 25 (s + 1) (p + x) (by omega) (by omega)
        refine r_iadd C dX2_leastFrom_85 ?_
        refine r_csi C dX2_leastFrom_86 ms_X2_62 (c_min (ED e) tD_ok l _ _ _ (by omega) (by omega)) (by decide) rfl rfl (Nat.le_of_ble_eq_true rfl) (fun z86 σ86 h86 => ?_)
        obtain ⟨rfl, rfl⟩ := h86
        refine r_istore C dX2_leastFrom_89 rfl rfl (by decide) ?_
        refine r_iinc C dX2_leastFrom_91 rfl rfl rfl (by decide) ?_
        refine r_goto 27 C dX2_leastFrom_94 (by decide) ?_
        exact ih (m + 1) _ _ _ (by omega) (by simp only [sOc]; rw [← hla, show p + x - 1 = p + (m : Int) by omega]) (by simp only [mnL]; rw [← hle]; first | (rw [if_pos (by omega)]; simp only [sOc]; rw [← hla, show p + x - 1 = p + (m : Int) by omega, show p + x = p + ((m + 1 : Nat) : Int) by omega]) | rw [if_neg (by omega)]) (by omega)
set_option maxRecDepth 20000 in
theorem c_X2_leastFrom (e : qR) (l : Launch) (σ : qSt) (w i s p : Int) (hb : Bd σ) (hw : 0 ≤ w ∧ w < 20) (hi : 0 ≤ i ∧ i < 12) (hs : 0 ≤ s ∧ s < 8) (hn : 0 ≤ σ 81 i 2 ∧ σ 81 i 2 ≤ 24) (hp : 0 ≤ p ∧ p < σ 81 i 2) (hlo : 0 ≤ σ 107 w s ∧ σ 107 w s ≤ 6) (hmo : 0 ≤ σ 108 w s ∧ σ 108 w s ≤ 6) : CM (ED e) l yX2_leastFrom cX2_leastFrom 9 (some .int) 3 [qr 23 0, qr 105 w, qr 81 i, qi s, qi p] σ (Ri fun z σ' => z = mnL (fun j => sOc (fun q => cOv (σ 106 w s) (σ 82 i q) (σ 105 w 5)) p j + σ 25 (s + 1) (p + j)) (σ 107 w s) (min (if σ 105 w 5 = 1 ∨ σ 105 w 5 = 3 then σ 107 w s else σ 108 w s) (σ 81 i 2 - p)).toNat ∧ σ = σ') := by
  refine CM.mk tD_ok (by decide +kernel) (Nat.le_of_ble_eq_true rfl) (fun G C => ?_)
  show G σ 0 [some (qr 23 0), some (qr 105 w), some (qr 81 i), some (qi s), some (qi p), none, none, none, none] []
  refine r_aload_n C dX2_leastFrom_0 rfl ?_
  refine r_iload_n C dX2_leastFrom_1 rfl ?_
  refine r_cvi (c := 20) C dX2_leastFrom_2 mv_X2_68 (c_X9_longest e l _ _ _ hb hw hs) (by decide) rfl rfl rfl rfl (by omega) rfl rfl (Nat.le_of_ble_eq_true rfl) (fun z2 σ2 h2 => ?_)
  obtain ⟨rfl, rfl⟩ := h2
  refine r_aload_n C dX2_leastFrom_5 rfl ?_
  refine r_get_i (c := 12) 2 C dX2_leastFrom_6 fl_X2_46 rfl rfl rfl rfl (by omega) ?_
  have b6 := hb 81 i 2 (by omega) (by omega)
  refine r_iload C dX2_leastFrom_9 rfl ?_
  refine r_isub C dX2_leastFrom_11 ?_
  refine r_csi C dX2_leastFrom_12 ms_X2_62 (c_min (ED e) tD_ok l _ _ _ (by omega) (by omega)) (by decide) rfl rfl (Nat.le_of_ble_eq_true rfl) (fun z12 σ12 h12 => ?_)
  obtain ⟨rfl, rfl⟩ := h12
  refine r_v (b := (((min (if σ 105 w 5 = 1 ∨ σ 105 w 5 = 3 then σ 107 w s else σ 108 w s) (σ 81 i 2 - p)).toNat : Nat) : Int)) (by omega) ?_
  refine r_istore C dX2_leastFrom_15 rfl rfl (by decide) ?_
  refine r_iconst C dX2_leastFrom_17 ?_
  refine r_istore C dX2_leastFrom_18 rfl rfl (by decide) ?_
  refine r_ldc C dX2_leastFrom_20 kc_X2_41 ?_
  refine r_istore C dX2_leastFrom_22 rfl rfl (by decide) ?_
  refine r_iconst C dX2_leastFrom_24 ?_
  refine r_istore C dX2_leastFrom_25 rfl rfl (by decide) ?_
  exact lp_X2_leastFrom e l σ w i s p _ hb hw hi hs hn hp hlo hmo (by omega) C ⟨_, rfl, rfl, rfl⟩ (min (if σ 105 w 5 = 1 ∨ σ 105 w 5 = 3 then σ 107 w s else σ 108 w s) (σ 81 i 2 - p)).toNat 0 _ _ _ (by omega) rfl rfl (by omega)
set_option maxRecDepth 20000 in
theorem lp_X2_shortestFrom {G : qSt → Nat → List (Option qV) → List qV → Prop} {Ret : Option qV → qSt → Prop} (e : qR) (l : Launch) (σ : qSt) (w i s p : Int) (K : Nat) (hb : Bd σ) (hw : 0 ≤ w ∧ w < 20) (hi : 0 ≤ i ∧ i < 12) (hs : 0 ≤ s ∧ s < 8) (hn : 0 ≤ σ 81 i 2 ∧ σ 81 i 2 ≤ 24) (hp : 0 ≤ p ∧ p < σ 81 i 2) (hlo : 0 ≤ σ 107 w s ∧ σ 107 w s ≤ 6) (hmo : 0 ≤ σ 108 w s ∧ σ 108 w s ≤ 6) (hK : (K : Int) ≤ σ 81 i 2 - p) (C : Cx (ED e) l RX2 cX2_shortestFrom 8 (some .int) 3 Ret G) (hR : Ret (some (qi (shF (fun j => decide (σ 107 w s ≤ (j : Int) ∧ sOc (fun q => cOv (σ 106 w s) (σ 82 i q) (σ 105 w 5)) p j + σ 25 (s + 1) (p + j) = σ 25 s p)) K))) σ) : ∀ (k : Nat) (m : Nat) (x la : Int), x = (m : Int) + 1 → la = sOc (fun q => cOv (σ 106 w s) (σ 82 i q) (σ 105 w 5)) p m → shF (fun j => decide (σ 107 w s ≤ (j : Int) ∧ sOc (fun q => cOv (σ 106 w s) (σ 82 i q) (σ 105 w 5)) p j + σ 25 (s + 1) (p + j) = σ 25 s p)) m = 0 → m + k = K → G σ 23 [some (qr 23 0), some (qr 105 w), some (qr 81 i), some (qi s), some (qi p), some (qi (K : Int)), some (qi la), some (qi x)] [] := by
  intro k
  induction k with
  | zero =>
    intro m x la hx hla hle hm
    have hsr := sOc_rng (oc := (fun q => cOv (σ 106 w s) (σ 82 i q) (σ 105 w 5))) (fun q => cOv_rng _ _ _) p m
    rw [← hla] at hsr
    refine r_iload C dX2_shortestFrom_23 rfl ?_
    refine r_iload C dX2_shortestFrom_25 rfl ?_
    refine r_ic_gt 101 C dX2_shortestFrom_27 (by decide) (by omega) (by omega) (fun h27 => ?_) (fun h27 => ?_)
    · refine r_iconst C dX2_shortestFrom_101 ?_
      refine r_iret C dX2_shortestFrom_102 ?_
      rw [show m = K by omega] at hle
      rw [hle] at hR
      exact hR
    · exfalso; omega
  | succ k ih =>
    intro m x la hx hla hle hm
    have hsr := sOc_rng (oc := (fun q => cOv (σ 106 w s) (σ 82 i q) (σ 105 w 5))) (fun q => cOv_rng _ _ _) p m
    rw [← hla] at hsr
    refine r_iload C dX2_shortestFrom_23 rfl ?_
    refine r_iload C dX2_shortestFrom_25 rfl ?_
    refine r_ic_gt 101 C dX2_shortestFrom_27 (by decide) (by omega) (by omega) (fun h27 => ?_) (fun h27 => ?_)
    · exfalso; omega
    · refine r_iload C dX2_shortestFrom_30 rfl ?_
      refine r_aload_n C dX2_shortestFrom_32 rfl ?_
      refine r_iload_n C dX2_shortestFrom_33 rfl ?_
      refine r_aload_n C dX2_shortestFrom_34 rfl ?_
      refine r_get_r (c := 12) C dX2_shortestFrom_35 fl_X2_51 rfl rfl rfl (by omega) rfl ?_
      refine r_iload C dX2_shortestFrom_38 rfl ?_
      refine r_iload C dX2_shortestFrom_40 rfl ?_
      refine r_iadd C dX2_shortestFrom_42 ?_
      refine r_iconst C dX2_shortestFrom_43 ?_
      refine r_isub C dX2_shortestFrom_44 ?_
      refine r_iald (c := 12) (N := 24) C dX2_shortestFrom_45 rfl rfl (by omega) (by omega) ?_
      have b45 := hb 82 i ((p + x) - 1) (by omega) (by omega)
      refine r_cvi (c := 20) C dX2_shortestFrom_46 mv_X2_71 (c_X9_costOver e l _ _ _ _ hb hw hs (by omega)) (by decide) rfl rfl rfl rfl (by omega) rfl rfl (Nat.le_of_ble_eq_true rfl) (fun z46 σ46 h46 => ?_)
      obtain ⟨rfl, rfl⟩ := h46
      have hcv46 := cOv_rng (σ 106 w s) (σ 82 i (p + x - 1)) (σ 105 w 5)
      refine r_iadd C dX2_shortestFrom_49 ?_
      refine r_istore C dX2_shortestFrom_50 rfl rfl (by decide) ?_
      refine r_iload C dX2_shortestFrom_52 rfl ?_
      refine r_aload_n C dX2_shortestFrom_54 rfl ?_
      refine r_get_r (c := 20) C dX2_shortestFrom_55 fl_X2_74 rfl rfl rfl (by omega) rfl ?_
      refine r_iload_n C dX2_shortestFrom_58 rfl ?_
      refine r_iald (c := 20) (N := 8) C dX2_shortestFrom_59 rfl rfl (by omega) (by omega) ?_
      have b59 := hb 107 w s (by omega) (by omega)
      refine r_ic_lt 95 C dX2_shortestFrom_60 (by decide) (by omega) (by omega) (fun h60 => ?_) (fun h60 => ?_)
      · refine r_iinc C dX2_shortestFrom_95 rfl rfl rfl (by decide) ?_
        refine r_goto 23 C dX2_shortestFrom_98 (by decide) ?_
        exact ih (m + 1) _ _ (by omega) (by simp only [sOc]; rw [← hla, show p + x - 1 = p + (m : Int) by omega]) (by simp only [shF]; rw [hle, if_neg (by simp), if_neg (by rw [decide_eq_true_eq]; simp only [sOc]; rw [← hla, ← show p + x - 1 = p + (m : Int) by omega, ← show p + x = p + ((m + 1 : Nat) : Int) by omega]; omega)]) (by omega)
      · refine r_iload C dX2_shortestFrom_63 rfl ?_
        refine r_aload_n C dX2_shortestFrom_65 rfl ?_
        refine r_get_r (c := 1) C dX2_shortestFrom_66 fl_X2_11 rfl rfl rfl (by decide) rfl ?_
        refine r_iload_n C dX2_shortestFrom_69 rfl ?_
        refine r_iconst C dX2_shortestFrom_70 ?_
        refine r_iadd C dX2_shortestFrom_71 ?_
        refine r_aald (c := 1) (N := 9) C dX2_shortestFrom_72 rfl (by decide) rfl (by decide) (by omega) rfl ?_
        refine r_iload C dX2_shortestFrom_73 rfl ?_
        refine r_iload C dX2_shortestFrom_75 rfl ?_
        refine r_iadd C dX2_shortestFrom_77 ?_
        refine r_iald (c := 9) (N := 25) C dX2_shortestFrom_78 rfl rfl (by omega) (by omega) ?_
        have b78 := hb 25 (s + 1) (p + x) (by omega) (by omega)
        refine r_iadd C dX2_shortestFrom_79 ?_
        refine r_aload_n C dX2_shortestFrom_80 rfl ?_
        refine r_get_r (c := 1) C dX2_shortestFrom_81 fl_X2_11 rfl rfl rfl (by decide) rfl ?_
        refine r_iload_n C dX2_shortestFrom_84 rfl ?_
        refine r_aald (c := 1) (N := 9) C dX2_shortestFrom_85 rfl (by decide) rfl (by decide) (by omega) rfl ?_
        refine r_iload C dX2_shortestFrom_86 rfl ?_
        refine r_iald (c := 9) (N := 25) C dX2_shortestFrom_88 rfl rfl (by omega) (by omega) ?_
        have b88 := hb 25 s p (by omega) (by omega)
        refine r_ic_ne 95 C dX2_shortestFrom_89 (by decide) (by omega) (by omega) (fun h89 => ?_) (fun h89 => ?_)
        · refine r_iinc C dX2_shortestFrom_95 rfl rfl rfl (by decide) ?_
          refine r_goto 23 C dX2_shortestFrom_98 (by decide) ?_
          exact ih (m + 1) _ _ (by omega) (by simp only [sOc]; rw [← hla, show p + x - 1 = p + (m : Int) by omega]) (by simp only [shF]; rw [hle, if_neg (by simp), if_neg (by rw [decide_eq_true_eq]; simp only [sOc]; rw [← hla, ← show p + x - 1 = p + (m : Int) by omega, ← show p + x = p + ((m + 1 : Nat) : Int) by omega]; omega)]) (by omega)
        · refine r_iload C dX2_shortestFrom_92 rfl ?_
          refine r_iret C dX2_shortestFrom_94 ?_
          have hq : shF (fun j => decide (σ 107 w s ≤ (j : Int) ∧ sOc (fun q => cOv (σ 106 w s) (σ 82 i q) (σ 105 w 5)) p j + σ 25 (s + 1) (p + j) = σ 25 s p)) (m + 1) = x := by
            simp only [shF]
            rw [hle, if_neg (by simp), if_pos (by rw [decide_eq_true_eq]; simp only [sOc]; rw [← hla, ← show p + x - 1 = p + (m : Int) by omega, ← show p + x = p + ((m + 1 : Nat) : Int) by omega]; omega)]
            omega
          rw [shF_keep (m := m + 1) (by rw [hq]; omega) K (by omega), hq] at hR
          exact hR
set_option maxRecDepth 20000 in
theorem c_X2_shortestFrom (e : qR) (l : Launch) (σ : qSt) (w i s p : Int) (hb : Bd σ) (hw : 0 ≤ w ∧ w < 20) (hi : 0 ≤ i ∧ i < 12) (hs : 0 ≤ s ∧ s < 8) (hn : 0 ≤ σ 81 i 2 ∧ σ 81 i 2 ≤ 24) (hp : 0 ≤ p ∧ p < σ 81 i 2) (hlo : 0 ≤ σ 107 w s ∧ σ 107 w s ≤ 6) (hmo : 0 ≤ σ 108 w s ∧ σ 108 w s ≤ 6) : CM (ED e) l yX2_shortestFrom cX2_shortestFrom 8 (some .int) 3 [qr 23 0, qr 105 w, qr 81 i, qi s, qi p] σ (Ri fun z σ' => z = shF (fun j => decide (σ 107 w s ≤ (j : Int) ∧ sOc (fun q => cOv (σ 106 w s) (σ 82 i q) (σ 105 w 5)) p j + σ 25 (s + 1) (p + j) = σ 25 s p)) (min (if σ 105 w 5 = 1 ∨ σ 105 w 5 = 3 then σ 107 w s else σ 108 w s) (σ 81 i 2 - p)).toNat ∧ σ = σ') := by
  refine CM.mk tD_ok (by decide +kernel) (Nat.le_of_ble_eq_true rfl) (fun G C => ?_)
  show G σ 0 [some (qr 23 0), some (qr 105 w), some (qr 81 i), some (qi s), some (qi p), none, none, none] []
  refine r_aload_n C dX2_shortestFrom_0 rfl ?_
  refine r_iload_n C dX2_shortestFrom_1 rfl ?_
  refine r_cvi (c := 20) C dX2_shortestFrom_2 mv_X2_68 (c_X9_longest e l _ _ _ hb hw hs) (by decide) rfl rfl rfl rfl (by omega) rfl rfl (Nat.le_of_ble_eq_true rfl) (fun z2 σ2 h2 => ?_)
  obtain ⟨rfl, rfl⟩ := h2
  refine r_aload_n C dX2_shortestFrom_5 rfl ?_
  refine r_get_i (c := 12) 2 C dX2_shortestFrom_6 fl_X2_46 rfl rfl rfl rfl (by omega) ?_
  have b6 := hb 81 i 2 (by omega) (by omega)
  refine r_iload C dX2_shortestFrom_9 rfl ?_
  refine r_isub C dX2_shortestFrom_11 ?_
  refine r_csi C dX2_shortestFrom_12 ms_X2_62 (c_min (ED e) tD_ok l _ _ _ (by omega) (by omega)) (by decide) rfl rfl (Nat.le_of_ble_eq_true rfl) (fun z12 σ12 h12 => ?_)
  obtain ⟨rfl, rfl⟩ := h12
  refine r_v (b := (((min (if σ 105 w 5 = 1 ∨ σ 105 w 5 = 3 then σ 107 w s else σ 108 w s) (σ 81 i 2 - p)).toNat : Nat) : Int)) (by omega) ?_
  refine r_istore C dX2_shortestFrom_15 rfl rfl (by decide) ?_
  refine r_iconst C dX2_shortestFrom_17 ?_
  refine r_istore C dX2_shortestFrom_18 rfl rfl (by decide) ?_
  refine r_iconst C dX2_shortestFrom_20 ?_
  refine r_istore C dX2_shortestFrom_21 rfl rfl (by decide) ?_
  exact lp_X2_shortestFrom e l σ w i s p _ hb hw hi hs hn hp hlo hmo (by omega) C ⟨_, rfl, rfl, rfl⟩ (min (if σ 105 w 5 = 1 ∨ σ 105 w 5 = 3 then σ 107 w s else σ 108 w s) (σ 81 i 2 - p)).toNat 0 _ _ (by omega) rfl rfl (by omega)
