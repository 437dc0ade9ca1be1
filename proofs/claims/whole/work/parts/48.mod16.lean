/-! the reference's plan: what each loop needs -/
def bsum (x : Int) : Nat → Int
  | 0 => 0
  | k + 1 => bsum x k + x / 2 ^ k % 2
theorem bsum_r (x : Int) : ∀ k : Nat, 0 ≤ bsum x k ∧ bsum x k ≤ k
  | 0 => by simp [bsum]
  | k + 1 => by
    have := bsum_r x k
    simp only [bsum]
    generalize x / 2 ^ k = y
    push_cast
    omega
theorem bsum_12 (x : Int) : bsum x 12 = pop12 x := by
  unfold pop12
  simp only [bsum, Int.reducePow]
  omega
theorem band_ac (a b c : Int) : band (band a b) c = band (band a c) b := by
  unfold band
  simp only [Int.toNat_natCast]
  congr 1
  rw [Nat.and_assoc, Nat.and_comm b.toNat, ← Nat.and_assoc]
theorem band_id (a b : Int) : band (band a b) b = band a b := by
  unfold band
  simp only [Int.toNat_natCast]
  congr 1
  rw [Nat.and_assoc, Nat.and_self]
theorem bit_i {a : Int} (ha : 0 ≤ a) (n : Nat) : a / 2 ^ n % 2 = 1 ↔ a.toNat.testBit n = true := by
  obtain ⟨k, rfl⟩ : ∃ k : Nat, a = k := ⟨a.toNat, by omega⟩
  have h := Nat.toNat_testBit k n
  have e : ((k : Int) / 2 ^ n % 2) = ((k / 2 ^ n % 2 : Nat) : Int) := by push_cast; rfl
  rw [e, ← h, Int.toNat_natCast]
  cases k.testBit n <;> simp
theorem bor_bit {a : Int} (ha : 0 ≤ a) {w : Int} (hw : 0 ≤ w) (n : Nat) : bor a (2 ^ w.toNat) / 2 ^ n % 2 = 1 ↔ (a / 2 ^ n % 2 = 1 ∨ w = n) := by
  have hb : 0 ≤ bor a (2 ^ w.toNat) := by unfold bor; omega
  rw [bit_i hb, bit_i ha]
  unfold bor
  have e : ((2 : Int) ^ w.toNat).toNat = 2 ^ w.toNat := by
    have : ((2 : Int) ^ w.toNat) = ((2 ^ w.toNat : Nat) : Int) := by norm_cast
    rw [this, Int.toNat_natCast]
  rw [Int.toNat_natCast, e, Nat.testBit_or, Nat.testBit_two_pow]
  simp only [Bool.or_eq_true, decide_eq_true_eq]
  constructor
  · rintro (h | h)
    · exact Or.inl h
    · exact Or.inr (by omega)
  · rintro (h | h)
    · exact Or.inl h
    · exact Or.inr (by omega)
theorem doa_bor {a w : Int} {fr : Int → Int} (ha : 0 ≤ a) (hw : 0 ≤ w) : ∀ n : Nat, doa (bor a (2 ^ w.toNat)) fr n = if w < n then band (doa a fr n) (fr w) else doa a fr n
  | 0 => by simp [doa]; omega
  | n + 1 => by
    have ih := doa_bor (fr := fr) ha hw n
    have hb := bor_bit ha hw n
    simp only [doa]
    by_cases e : w = n
    · rw [if_pos (hb.mpr (Or.inr e)), if_pos (by omega), ih, if_neg (by omega), e]
      split
      · rw [band_id]
      · rfl
    · by_cases q : a / 2 ^ n % 2 = 1
      · rw [if_pos (hb.mpr (Or.inl q)), if_pos q, ih]
        by_cases u : w < n
        · rw [if_pos u, if_pos (by omega), band_ac]
        · rw [if_neg u, if_neg (by omega)]
      · rw [if_neg (fun h => (hb.mp h).elim q e), if_neg q, ih]
        by_cases u : w < n
        · rw [if_pos u, if_pos (by omega)]
        · rw [if_neg u, if_neg (by omega)]
theorem doa_0 (fr : Int → Int) : ∀ n : Nat, doa 0 fr n = 15
  | 0 => rfl
  | n + 1 => by
    simp only [doa]
    rw [doa_0 fr n]
    simp
set_option maxRecDepth 20000 in
theorem lp_X11_many {G : qSt → Nat → List (Option qV) → List qV → Prop} {Ret : Option qV → qSt → Prop} (e : qR) (l : Launch) (σ : qSt) (x : Int) (hx : 0 ≤ x ∧ x < 4096) (C : Cx (EM e) l RX11 cX11_many 3 (some .int) 2 Ret G) (hN : Ret (some (qi (pop12 x))) σ) : ∀ (k : Nat) (m : Nat) (s : Int), (m : Int) + (k : Int) = 12 → s = bsum x m → G σ 4 [some (qi x), some (qi s), some (qi (m : Int))] [] := by
  intro k
  induction k with
  | zero =>
    intro m s hm hs
    have hr := bsum_r x m
    refine r_iload_n C dX11_many_4 rfl ?_
    refine r_bipush C dX11_many_5 ?_
    refine r_ic_ge 24 C dX11_many_7 (by decide) (by omega) (by omega) (fun h7 => ?_) (fun h7 => ?_)
    · refine r_iload_n C dX11_many_24 rfl ?_
      refine r_iret C dX11_many_25 ?_
      rw [← bsum_12, show (12 : Nat) = m by omega, ← hs] at hN
      exact hN
    · exfalso; omega
  | succ k ih =>
    intro m s hm hs
    have hr := bsum_r x m
    refine r_iload_n C dX11_many_4 rfl ?_
    refine r_bipush C dX11_many_5 ?_
    refine r_ic_ge 24 C dX11_many_7 (by decide) (by omega) (by omega) (fun h7 => ?_) (fun h7 => ?_)
    · exfalso; omega
    · refine r_iload_n C dX11_many_10 rfl ?_
      refine r_iload_n C dX11_many_11 rfl ?_
      refine r_iload_n C dX11_many_12 rfl ?_
      refine r_ishr (x / 2 ^ m) C dX11_many_13 (by have q := z_shr (a := x) (b := (m : Int)) (by omega) (by omega); rw [Int.toNat_natCast] at q; exact q) ?_
      refine r_iconst C dX11_many_14 ?_
      refine r_iand (x / 2 ^ m % 2) C dX11_many_15 z_bit ?_
      refine r_iadd C dX11_many_16 ?_
      refine r_istore_n C dX11_many_17 rfl rfl (by decide) ?_
      refine r_iinc C dX11_many_18 rfl rfl rfl (by decide) ?_
      refine r_goto 4 C dX11_many_21 (by decide) ?_
      exact ih (m + 1) _ (by push_cast; omega) (by rw [hs]; rfl)
set_option maxRecDepth 20000 in
theorem c_X11_many (e : qR) (l : Launch) (σ : qSt) (x : Int) (hx : 0 ≤ x ∧ x < 4096) : CM (EM e) l yX11_many cX11_many 3 (some .int) 2 [qi x] σ (Ri fun z σ' => z = pop12 x ∧ σ = σ') := by
  refine CM.mk tM_ok (by decide +kernel) (Nat.le_of_ble_eq_true rfl) (fun G C => ?_)
  show G σ 0 [some (qi x), none, none] []
  refine r_iconst C dX11_many_0 ?_
  refine r_istore_n C dX11_many_1 rfl rfl (by decide) ?_
  refine r_iconst C dX11_many_2 ?_
  refine r_istore_n C dX11_many_3 rfl rfl (by decide) ?_
  exact lp_X11_many e l σ x hx C ⟨_, rfl, rfl, rfl⟩ 12 0 _ (by omega) rfl
