/-! sets as numbers -/
def bor (a b : Int) : Int := ((a.toNat ||| b.toNat : Nat) : Int)
def band (a b : Int) : Int := ((a.toNat &&& b.toNat : Nat) : Int)
def bdf (a b : Int) : Int := ((a.toNat ^^^ (a.toNat &&& b.toNat) : Nat) : Int)
theorem nx_or (a b : Nat) : Int32.ofInt (a : Int) ||| Int32.ofInt (b : Int) = Int32.ofInt ((a ||| b : Nat) : Int) := by
  apply Int32.toBitVec_inj.mp
  apply BitVec.eq_of_toNat_eq
  rw [Int32.toBitVec_or, BitVec.toNat_or, z_tn, z_tn, z_tn]
  rw [show ((a : Int) % 4294967296).toNat = a % 2 ^ 32 by omega, show ((b : Int) % 4294967296).toNat = b % 2 ^ 32 by omega, show (((a ||| b : Nat) : Int) % 4294967296).toNat = (a ||| b) % 2 ^ 32 by omega, Nat.or_mod_two_pow]
theorem nx_dif (a b : Nat) : Int32.ofInt (a : Int) &&& (Int32.ofInt (b : Int) ^^^ Int32.ofInt (-1)) = Int32.ofInt ((a ^^^ (a &&& b) : Nat) : Int) := by
  apply Int32.toBitVec_inj.mp
  have h : ∀ x y : BitVec 32, x &&& (y ^^^ (Int32.ofInt (-1)).toBitVec) = x ^^^ (x &&& y) := by
    intro x y
    apply BitVec.eq_of_getLsbD_eq
    intro i hi
    have hm : (Int32.ofInt (-1)).toBitVec = BitVec.allOnes 32 := by decide
    rw [hm]
    simp only [BitVec.getLsbD_and, BitVec.getLsbD_xor, BitVec.getLsbD_allOnes, hi, decide_true]
    cases x.getLsbD i <;> cases y.getLsbD i <;> rfl
  rw [Int32.toBitVec_and, Int32.toBitVec_xor, h]
  apply BitVec.eq_of_toNat_eq
  rw [BitVec.toNat_xor, BitVec.toNat_and, z_tn, z_tn, z_tn]
  rw [show ((a : Int) % 4294967296).toNat = a % 2 ^ 32 by omega, show ((b : Int) % 4294967296).toNat = b % 2 ^ 32 by omega, show (((a ^^^ (a &&& b) : Nat) : Int) % 4294967296).toNat = (a ^^^ (a &&& b)) % 2 ^ 32 by omega, Nat.xor_mod_two_pow, Nat.and_mod_two_pow]
theorem pop12_t (n : Nat) : pop12 (n : Int) = ((n.testBit 0).toNat + (n.testBit 1).toNat + (n.testBit 2).toNat + (n.testBit 3).toNat + (n.testBit 4).toNat + (n.testBit 5).toNat + (n.testBit 6).toNat + (n.testBit 7).toNat + (n.testBit 8).toNat + (n.testBit 9).toNat + (n.testBit 10).toNat + (n.testBit 11).toNat : Nat) := by
  have h : ∀ (k : Nat) (p : Int), ((2 ^ k : Nat) : Int) = p → (((n.testBit k).toNat : Nat) : Int) = (n : Int) / p % 2 := by
    intro k p hp
    rw [Nat.toNat_testBit, ← hp]
    push_cast
    rfl
  unfold pop12
  simp only [Int.natCast_add]
  rw [h 0 1 rfl, h 1 2 rfl, h 2 4 rfl, h 3 8 rfl, h 4 16 rfl, h 5 32 rfl, h 6 64 rfl, h 7 128 rfl, h 8 256 rfl, h 9 512 rfl, h 10 1024 rfl, h 11 2048 rfl, Int.ediv_one]
theorem bt_p (a b : Nat) : pop12 ((a ^^^ (a &&& b) : Nat) : Int) + pop12 ((b : Nat) : Int) = pop12 ((b ||| a : Nat) : Int) := by
  have h : ∀ k, ((a ^^^ (a &&& b)).testBit k).toNat + (b.testBit k).toNat = ((b ||| a).testBit k).toNat := by
    intro k
    simp only [Nat.testBit_xor, Nat.testBit_and, Nat.testBit_or]
    cases a.testBit k <;> cases b.testBit k <;> rfl
  rw [pop12_t, pop12_t, pop12_t, ← h 0, ← h 1, ← h 2, ← h 3, ← h 4, ← h 5, ← h 6, ← h 7, ← h 8, ← h 9, ← h 10, ← h 11]
  omega
theorem bt_4 : ∀ a, a < 16 → ∀ b, b < 16 → Int32.ofInt ((a : Nat) : Int) &&& Int32.ofInt ((b : Nat) : Int) = Int32.ofInt ((a &&& b : Nat) : Int) ∧ a &&& b < 16 := by decide +kernel
theorem bor_v {a b : Int} (ha : 0 ≤ a ∧ a < 256) (hb : 0 ≤ b ∧ b < 256) : Int32.ofInt a ||| Int32.ofInt b = Int32.ofInt (bor a b) := by
  have := nx_or a.toNat b.toNat
  rwa [Int.toNat_of_nonneg ha.1, Int.toNat_of_nonneg hb.1] at this
theorem bor_r {a b : Int} (ha : 0 ≤ a ∧ a < 256) (hb : 0 ≤ b ∧ b < 256) : 0 ≤ bor a b ∧ bor a b < 256 := by
  have := Nat.or_lt_two_pow (n := 8) (show a.toNat < 2 ^ 8 by omega) (show b.toNat < 2 ^ 8 by omega)
  unfold bor
  omega
theorem bdf_v {a b w : Int} (ha : 0 ≤ a ∧ a < 256) (hb : 0 ≤ b ∧ b < 256) (hw : Int32.ofInt b ^^^ Int32.ofInt (-1) = Int32.ofInt w) : Int32.ofInt a &&& Int32.ofInt w = Int32.ofInt (bdf a b) := by
  have := nx_dif a.toNat b.toNat
  rw [Int.toNat_of_nonneg ha.1, Int.toNat_of_nonneg hb.1, hw] at this
  exact this
theorem bdf_r {a b : Int} (ha : 0 ≤ a ∧ a < 256) (hb : 0 ≤ b ∧ b < 256) : 0 ≤ bdf a b ∧ bdf a b < 256 := by
  have := Nat.xor_lt_two_pow (n := 8) (show a.toNat < 2 ^ 8 by omega) (Nat.and_lt_two_pow (n := 8) a.toNat (show b.toNat < 2 ^ 8 by omega))
  unfold bdf
  omega
theorem bdf_p {a b : Int} (ha : 0 ≤ a) (hb : 0 ≤ b) : pop12 (bdf a b) + pop12 b = pop12 (bor b a) := by
  have := bt_p a.toNat b.toNat
  rw [Int.toNat_of_nonneg hb] at this
  exact this
theorem band_v {a b : Int} (ha : 0 ≤ a ∧ a < 16) (hb : 0 ≤ b ∧ b < 16) : Int32.ofInt a &&& Int32.ofInt b = Int32.ofInt (band a b) := by
  have := (bt_4 a.toNat (by omega) b.toNat (by omega)).1
  rwa [Int.toNat_of_nonneg ha.1, Int.toNat_of_nonneg hb.1] at this
theorem band_r {a b : Int} (ha : 0 ≤ a ∧ a < 16) (hb : 0 ≤ b ∧ b < 16) : 0 ≤ band a b ∧ band a b < 16 := by
  have := (bt_4 a.toNat (by omega) b.toNat (by omega)).2
  unfold band
  omega
theorem pop12_r {z : Int} (h : 0 ≤ z) : 0 ≤ pop12 z ∧ pop12 z ≤ 12 := by unfold pop12; omega
theorem z_shm {b : Int} (hb : 0 ≤ b ∧ b < 32) : ((Int32.ofInt b &&& 31).toBitVec.smod 32).toNat = b.toNat := by
  have h : ∀ n, n < 32 → ((Int32.ofInt ((n : Nat) : Int) &&& 31).toBitVec.smod 32).toNat = n := by decide +kernel
  have := h b.toNat (by omega)
  rwa [Int.toNat_of_nonneg hb.1] at this
theorem z_shr {a b : Int} (ha : InI a) (hb : 0 ≤ b ∧ b < 32) : Int32.ofInt a >>> (Int32.ofInt b &&& 31) = Int32.ofInt (a / 2 ^ b.toNat) := by
  apply Int32.toInt_inj.mp
  have h2 : (1 : Int) ≤ 2 ^ b.toNat := by exact_mod_cast Nat.one_le_two_pow
  have h3 : InI (a / 2 ^ b.toNat) := by
    constructor
    · have := Int.ediv_le_ediv (a := -2147483648) (b := a) (c := 2 ^ b.toNat) (by omega) ha.1
      have h5 : (-2147483648 : Int) ≤ -2147483648 / 2 ^ b.toNat := by
        apply Int.le_ediv_of_mul_le (by omega)
        omega
      omega
    · by_cases q : 0 ≤ a
      · have := Int.ediv_le_self (2 ^ b.toNat) q
        omega
      · have := Int.ediv_neg_of_neg_of_pos (a := a) (b := 2 ^ b.toNat) (by omega) (by omega)
        omega
  rw [pk_shr _ _ b.toNat (z_shm hb), z_toInt ha, z_toInt h3, Int.shiftRight_eq_div_pow]
  norm_cast
theorem z_shl1 {b : Int} (hb : 0 ≤ b ∧ b < 13) : Int32.ofInt 1 <<< (Int32.ofInt b &&& 31) = Int32.ofInt (2 ^ b.toNat) := by
  have h : ∀ n, n < 13 → Int32.ofInt 1 <<< (Int32.ofInt ((n : Nat) : Int) &&& 31) = Int32.ofInt (2 ^ n) := by decide +kernel
  have := h b.toNat (by omega)
  rwa [Int.toNat_of_nonneg hb.1] at this
theorem p2_r {b : Int} (hb : 0 ≤ b ∧ b < 8) : (1 : Int) ≤ 2 ^ b.toNat ∧ (2 : Int) ^ b.toNat < 256 := by
  have h : ∀ n, n < 8 → (1 : Int) ≤ 2 ^ n ∧ (2 : Int) ^ n < 256 := by decide
  exact h b.toNat (by omega)
theorem z_bit {a : Int} : Int32.ofInt a &&& Int32.ofInt 1 = Int32.ofInt (a % 2) := z_mask a 1 2 rfl (by decide) (by decide)
/-! the crew -/
def aol (set : Int) (who : Int → Int) : Nat → Int
  | 0 => 0
  | l + 1 => if set / 2 ^ l % 2 = 1 ∧ 0 ≤ who l then bor (aol set who l) (2 ^ (who l).toNat) else aol set who l
theorem aol_r {set : Int} {who : Int → Int} (h : ∀ l, who l < 8) : ∀ n : Nat, 0 ≤ aol set who n ∧ aol set who n < 256
  | 0 => by simp [aol]
  | n + 1 => by
    have h1 := aol_r (set := set) h n
    simp only [aol]
    split
    · next q =>
      have h2 := p2_r (b := who n) ⟨q.2, h n⟩
      exact bor_r h1 (by omega)
    · exact h1
def doa (acts : Int) (fr : Int → Int) : Nat → Int
  | 0 => 15
  | w + 1 => if acts / 2 ^ w % 2 = 1 then band (doa acts fr w) (fr w) else doa acts fr w
theorem doa_r {acts : Int} {fr : Int → Int} : ∀ n : Nat, (∀ w : Nat, w < n → 0 ≤ fr w ∧ fr w < 16) → 0 ≤ doa acts fr n ∧ doa acts fr n < 16
  | 0, _ => by simp [doa]
  | n + 1, h => by
    have h1 := doa_r (acts := acts) n (fun w q => h w (by omega))
    simp only [doa]
    split
    · exact band_r h1 (h n (by omega))
    · exact h1
theorem aol_r2 {set : Int} {who : Int → Int} : ∀ n : Nat, (∀ l : Nat, l < n → who l < 8) → 0 ≤ aol set who n ∧ aol set who n < 256
  | 0, _ => by simp [aol]
  | n + 1, h => by
    have h1 := aol_r2 (set := set) n (fun l q => h l (by omega))
    simp only [aol]
    split
    · next q =>
      have h2 := p2_r (b := who n) ⟨q.2, h n (by omega)⟩
      exact bor_r h1 (by omega)
    · exact h1
set_option maxRecDepth 20000 in
theorem c_X1_appendLoop (e : qR) (l : Launch) (σ : qSt) (x : Int) (hc : 0 ≤ σ 10 0 4 ∧ σ 10 0 4 < 7) : CM (ED e) l yX1_appendLoop cX1_appendLoop 2 none 2 [qr 10 0, qi x] σ (Rv fun σ' => σ' = qUp (qUp σ 14 0 (σ 10 0 4) x) 10 0 4 (σ 10 0 4 + 1)) := by
  refine CM.mk tD_ok (by decide +kernel) (Nat.le_of_ble_eq_true rfl) (fun G C => ?_)
  show G σ 0 [some (qr 10 0), some (qi x)] []
  refine r_aload_n C dX1_appendLoop_0 rfl ?_
  refine r_get_r (c := 1) C dX1_appendLoop_1 fl_X1_21 rfl rfl rfl (by decide) rfl ?_
  refine r_aload_n C dX1_appendLoop_4 rfl ?_
  refine r_get_i (c := 1) 4 C dX1_appendLoop_5 fl_X1_24 rfl rfl rfl rfl (by decide) ?_
  refine r_iload_n C dX1_appendLoop_8 rfl ?_
  refine r_iast (c := 1) (N := 7) C dX1_appendLoop_9 rfl rfl (by decide) (by omega) ?_
  refine r_aload_n C dX1_appendLoop_10 rfl ?_
  refine r_dup C dX1_appendLoop_11 ?_
  refine r_get_i (c := 1) 4 C dX1_appendLoop_12 fl_X1_24 rfl rfl rfl rfl (by decide) ?_
  refine r_v (b := (σ 10 0 4)) (by simp [qUp, qCpy]) ?_
  refine r_iconst C dX1_appendLoop_15 ?_
  refine r_iadd C dX1_appendLoop_16 ?_
  refine r_put_i (c := 1) 4 C dX1_appendLoop_17 fw_X1_24 rfl rfl rfl rfl (by decide) rfl rfl ?_
  refine r_vret C dX1_appendLoop_20 ?_
  exact ⟨rfl, rfl⟩
set_option maxRecDepth 20000 in
theorem lp_X1_actorsOfLoop {G : qSt → Nat → List (Option qV) → List qV → Prop} {Ret : Option qV → qSt → Prop} (e : qR) (l : Launch) (σ : qSt) (x : Int) (hb : Bd σ) (hx : 0 ≤ x ∧ x < 7) (hpt : ∀ l, 0 ≤ l → l < 12 → 0 ≤ σ 81 l 1 ∧ σ 81 l 1 < 6) (hac : ∀ l, 0 ≤ l → l < 6 → -1 ≤ σ 11 0 l ∧ σ 11 0 l < 8) (C : Cx (ED e) l RX1 cX1_actorsOfLoop 6 (some .int) 2 Ret G) (hR : Ret (some (qi (aol (σ 14 0 x) (fun l => σ 11 0 (σ 81 l 1)) 12))) σ) : ∀ (k : Nat) (m : Nat) (a : Int) (o5 : Option qV), a = aol (σ 14 0 x) (fun l => σ 11 0 (σ 81 l 1)) m → m + k = 12 → G σ 5 [some (qr 10 0), some (qi x), some (qr 1 0), some (qi a), some (qi (m : Int)), o5] [] := by
  intro k
  induction k with
  | zero =>
    intro m a o5 hf hm
    have har := aol_r2 (set := σ 14 0 x) (who := (fun l => σ 11 0 (σ 81 l 1))) m (fun l q => by have h1 := hpt l (by omega) (by omega); have h2 := hac _ h1.1 h1.2; exact h2.2)
    rw [← hf] at har
    refine r_iload C dX1_actorsOfLoop_5 rfl ?_
    refine r_bipush C dX1_actorsOfLoop_7 ?_
    refine r_ic_ge 59 C dX1_actorsOfLoop_9 (by decide) (by omega) (by omega) (fun h9 => ?_) (fun h9 => ?_)
    · refine r_iload_n C dX1_actorsOfLoop_59 rfl ?_
      refine r_iret C dX1_actorsOfLoop_60 ?_
      rw [show m = 12 by omega] at hf
      rw [hf]
      exact hR
    · exfalso; omega
  | succ k ih =>
    intro m a o5 hf hm
    have har := aol_r2 (set := σ 14 0 x) (who := (fun l => σ 11 0 (σ 81 l 1))) m (fun l q => by have h1 := hpt l (by omega) (by omega); have h2 := hac _ h1.1 h1.2; exact h2.2)
    rw [← hf] at har
    refine r_iload C dX1_actorsOfLoop_5 rfl ?_
    refine r_bipush C dX1_actorsOfLoop_7 ?_
    refine r_ic_ge 59 C dX1_actorsOfLoop_9 (by decide) (by omega) (by omega) (fun h9 => ?_) (fun h9 => ?_)
    · exfalso; omega
    · refine r_aload_n C dX1_actorsOfLoop_12 rfl ?_
      refine r_get_r (c := 1) C dX1_actorsOfLoop_13 fl_X1_9 rfl rfl rfl (by decide) rfl ?_
      refine r_aload_n C dX1_actorsOfLoop_16 rfl ?_
      refine r_iload C dX1_actorsOfLoop_17 rfl ?_
      refine r_aald (c := 1) (N := 12) C dX1_actorsOfLoop_19 rfl (by decide) rfl (by decide) (by omega) rfl ?_
      have q1 := hpt (m : Int) (by omega) (by omega)
      have q2 := hac _ q1.1 q1.2
      refine r_get_i (c := 12) 1 C dX1_actorsOfLoop_20 fl_X1_28 rfl rfl rfl rfl (by omega) ?_
      have b20 := hb 81 (m : Int) 1 (by omega) (by omega)
      refine r_iald (c := 1) (N := 6) C dX1_actorsOfLoop_23 rfl rfl (by decide) (by omega) ?_
      have b23 := hb 11 0 (σ 81 (m : Int) 1) (by omega) (by omega)
      refine r_istore C dX1_actorsOfLoop_24 rfl rfl (by decide) ?_
      refine r_aload_n C dX1_actorsOfLoop_26 rfl ?_
      refine r_get_r (c := 1) C dX1_actorsOfLoop_27 fl_X1_21 rfl rfl rfl (by decide) rfl ?_
      refine r_iload_n C dX1_actorsOfLoop_30 rfl ?_
      refine r_iald (c := 1) (N := 7) C dX1_actorsOfLoop_31 rfl rfl (by decide) (by omega) ?_
      have b31 := hb 14 0 x (by omega) (by omega)
      refine r_iload C dX1_actorsOfLoop_32 rfl ?_
      refine r_ishr _ C dX1_actorsOfLoop_34 (z_shr (by omega) (by omega)) ?_
      refine r_iconst C dX1_actorsOfLoop_35 ?_
      refine r_iand _ C dX1_actorsOfLoop_36 z_bit ?_
      refine r_iconst C dX1_actorsOfLoop_37 ?_
      refine r_ic_ne 53 C dX1_actorsOfLoop_38 (by decide) (by omega) (by omega) (fun h38 => ?_) (fun h38 => ?_)
      · simp only [Int.toNat_natCast] at h38
        refine r_iinc C dX1_actorsOfLoop_53 rfl rfl rfl (by decide) ?_
        refine r_goto 5 C dX1_actorsOfLoop_56 (by decide) ?_
        exact ih (m + 1) _ _ (by simp only [aol]; rw [← hf]; first | rw [if_pos (by omega)] | rw [if_neg (by omega)]) (by omega)
      · simp only [Int.toNat_natCast] at h38
        refine r_iload C dX1_actorsOfLoop_41 rfl ?_
        refine r_if_lt 53 C dX1_actorsOfLoop_43 (by decide) (by omega) (fun h43 => ?_) (fun h43 => ?_)
        · refine r_iinc C dX1_actorsOfLoop_53 rfl rfl rfl (by decide) ?_
          refine r_goto 5 C dX1_actorsOfLoop_56 (by decide) ?_
          exact ih (m + 1) _ _ (by simp only [aol]; rw [← hf]; first | rw [if_pos (by omega)] | rw [if_neg (by omega)]) (by omega)
        · have q3 := p2_r (b := σ 11 0 (σ 81 (m : Int) 1)) (by omega)
          refine r_iload_n C dX1_actorsOfLoop_46 rfl ?_
          refine r_iconst C dX1_actorsOfLoop_47 ?_
          refine r_iload C dX1_actorsOfLoop_48 rfl ?_
          refine r_ishl _ C dX1_actorsOfLoop_50 (z_shl1 (by omega)) ?_
          refine r_ior _ C dX1_actorsOfLoop_51 (bor_v har (by omega)) ?_
          refine r_istore_n C dX1_actorsOfLoop_52 rfl rfl (by decide) ?_
          refine r_iinc C dX1_actorsOfLoop_53 rfl rfl rfl (by decide) ?_
          refine r_goto 5 C dX1_actorsOfLoop_56 (by decide) ?_
          exact ih (m + 1) _ _ (by simp only [aol]; rw [← hf]; first | rw [if_pos (by omega)] | rw [if_neg (by omega)]) (by omega)
set_option maxRecDepth 20000 in
theorem c_X1_actorsOfLoop (e : qR) (l : Launch) (σ : qSt) (x : Int) (hb : Bd σ) (hx : 0 ≤ x ∧ x < 7) (hpt : ∀ l, 0 ≤ l → l < 12 → 0 ≤ σ 81 l 1 ∧ σ 81 l 1 < 6) (hac : ∀ l, 0 ≤ l → l < 6 → -1 ≤ σ 11 0 l ∧ σ 11 0 l < 8) : CM (ED e) l yX1_actorsOfLoop cX1_actorsOfLoop 6 (some .int) 2 [qr 10 0, qi x, qr 1 0] σ (Ri fun z σ' => z = aol (σ 14 0 x) (fun l => σ 11 0 (σ 81 l 1)) 12 ∧ σ = σ') := by
  refine CM.mk tD_ok (by decide +kernel) (Nat.le_of_ble_eq_true rfl) (fun G C => ?_)
  show G σ 0 [some (qr 10 0), some (qi x), some (qr 1 0), none, none, none] []
  refine r_iconst C dX1_actorsOfLoop_0 ?_
  refine r_istore_n C dX1_actorsOfLoop_1 rfl rfl (by decide) ?_
  refine r_iconst C dX1_actorsOfLoop_2 ?_
  refine r_istore C dX1_actorsOfLoop_3 rfl rfl (by decide) ?_
  exact lp_X1_actorsOfLoop e l σ x hb hx hpt hac C ⟨_, rfl, rfl, rfl⟩ 12 0 _ _ rfl (by omega)
set_option maxRecDepth 20000 in
theorem lp_X1_daysOfActors {G : qSt → Nat → List (Option qV) → List qV → Prop} {Ret : Option qV → qSt → Prop} (e : qR) (l : Launch) (σ : qSt) (x : Int) (hx : 0 ≤ x ∧ x < 256) (hfr : ∀ w, 0 ≤ w → w < 8 → 0 ≤ σ 12 0 w ∧ σ 12 0 w < 16) (C : Cx (ED e) l RX1 cX1_daysOfActors 4 (some .int) 2 Ret G) (hR : Ret (some (qi (doa x (σ 12 0) 8))) σ) : ∀ (k : Nat) (m : Nat) (a : Int), a = doa x (σ 12 0) m → m + k = 8 → G σ 5 [some (qr 10 0), some (qi x), some (qi a), some (qi (m : Int))] [] := by
  intro k
  induction k with
  | zero =>
    intro m a hf hm
    have har := doa_r (acts := x) (fr := σ 12 0) m (fun w q => hfr w (by omega) (by omega))
    rw [← hf] at har
    refine r_iload_n C dX1_daysOfActors_5 rfl ?_
    refine r_bipush C dX1_daysOfActors_6 ?_
    refine r_ic_ge 35 C dX1_daysOfActors_8 (by decide) (by omega) (by omega) (fun h8 => ?_) (fun h8 => ?_)
    · refine r_iload_n C dX1_daysOfActors_35 rfl ?_
      refine r_iret C dX1_daysOfActors_36 ?_
      rw [show m = 8 by omega] at hf
      rw [hf]
      exact hR
    · exfalso; omega
  | succ k ih =>
    intro m a hf hm
    have har := doa_r (acts := x) (fr := σ 12 0) m (fun w q => hfr w (by omega) (by omega))
    rw [← hf] at har
    refine r_iload_n C dX1_daysOfActors_5 rfl ?_
    refine r_bipush C dX1_daysOfActors_6 ?_
    refine r_ic_ge 35 C dX1_daysOfActors_8 (by decide) (by omega) (by omega) (fun h8 => ?_) (fun h8 => ?_)
    · exfalso; omega
    · refine r_iload_n C dX1_daysOfActors_11 rfl ?_
      refine r_iload_n C dX1_daysOfActors_12 rfl ?_
      refine r_ishr _ C dX1_daysOfActors_13 (z_shr (by omega) (by omega)) ?_
      refine r_iconst C dX1_daysOfActors_14 ?_
      refine r_iand _ C dX1_daysOfActors_15 z_bit ?_
      refine r_iconst C dX1_daysOfActors_16 ?_
      refine r_ic_ne 29 C dX1_daysOfActors_17 (by decide) (by omega) (by omega) (fun h17 => ?_) (fun h17 => ?_)
      · simp only [Int.toNat_natCast] at h17
        refine r_iinc C dX1_daysOfActors_29 rfl rfl rfl (by decide) ?_
        refine r_goto 5 C dX1_daysOfActors_32 (by decide) ?_
        exact ih (m + 1) _ (by simp only [doa]; rw [← hf]; first | rw [if_pos (by omega)] | rw [if_neg (by omega)]) (by omega)
      · simp only [Int.toNat_natCast] at h17
        refine r_iload_n C dX1_daysOfActors_20 rfl ?_
        refine r_aload_n C dX1_daysOfActors_21 rfl ?_
        refine r_get_r (c := 1) C dX1_daysOfActors_22 fl_X1_15 rfl rfl rfl (by decide) rfl ?_
        refine r_iload_n C dX1_daysOfActors_25 rfl ?_
        refine r_iald (c := 1) (N := 8) C dX1_daysOfActors_26 rfl rfl (by decide) (by omega) ?_
        refine r_iand _ C dX1_daysOfActors_27 (band_v har (hfr _ (by omega) (by omega))) ?_
        refine r_istore_n C dX1_daysOfActors_28 rfl rfl (by decide) ?_
        refine r_iinc C dX1_daysOfActors_29 rfl rfl rfl (by decide) ?_
        refine r_goto 5 C dX1_daysOfActors_32 (by decide) ?_
        exact ih (m + 1) _ (by simp only [doa]; rw [← hf]; first | rw [if_pos (by omega)] | rw [if_neg (by omega)]) (by omega)
set_option maxRecDepth 20000 in
theorem c_X1_daysOfActors (e : qR) (l : Launch) (σ : qSt) (x : Int) (hx : 0 ≤ x ∧ x < 256) (hfr : ∀ w, 0 ≤ w → w < 8 → 0 ≤ σ 12 0 w ∧ σ 12 0 w < 16) : CM (ED e) l yX1_daysOfActors cX1_daysOfActors 4 (some .int) 2 [qr 10 0, qi x] σ (Ri fun z σ' => z = doa x (σ 12 0) 8 ∧ σ = σ') := by
  refine CM.mk tD_ok (by decide +kernel) (Nat.le_of_ble_eq_true rfl) (fun G C => ?_)
  show G σ 0 [some (qr 10 0), some (qi x), none, none] []
  refine r_bipush C dX1_daysOfActors_0 ?_
  refine r_istore_n C dX1_daysOfActors_2 rfl rfl (by decide) ?_
  refine r_iconst C dX1_daysOfActors_3 ?_
  refine r_istore_n C dX1_daysOfActors_4 rfl rfl (by decide) ?_
  exact lp_X1_daysOfActors e l σ x hx hfr C ⟨_, rfl, rfl, rfl⟩ 8 0 _ rfl (by omega)
