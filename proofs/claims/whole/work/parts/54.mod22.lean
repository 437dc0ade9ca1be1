/-! the class's search and the reference's fold find the same plan -/
def pC (N O Mi dd : Int → Int) (m : Nat) : Nat → Int
  | 0 => 0
  | d + 1 => pC N O Mi dd m d + pop12 (clK N O Mi dd d m).2.1
theorem pop12_nn (z : Int) : 0 ≤ pop12 z ∧ pop12 z ≤ 12 := by unfold pop12; omega
theorem pC_r (N O Mi dd : Int → Int) (m : Nat) : ∀ k : Nat, 0 ≤ pC N O Mi dd m k ∧ pC N O Mi dd m k ≤ 12 * (k : Int)
  | 0 => by simp [pC]
  | k + 1 => by
    have := pC_r N O Mi dd m k
    have h := pop12_nn (clK N O Mi dd k m).2.1
    simp only [pC]
    push_cast
    omega
theorem clS_or {N O Mi R dd : Int → Int} {n : Nat} : ∀ k : Nat, clS N O Mi R dd n k = -1 ∨ clS N O Mi R dd n k = pC N O Mi dd n k
  | 0 => Or.inr rfl
  | k + 1 => by
    simp only [clS, pC]
    split
    · exact Or.inl rfl
    · next q =>
      split
      · rcases clS_or (N := N) (O := O) (Mi := Mi) (R := R) (dd := dd) (n := n) k with h | h
        · omega
        · exact Or.inr (by rw [h])
      · exact Or.inl rfl
theorem clS_all {N O Mi R dd : Int → Int} {n : Nat} : ∀ k : Nat, (∀ d : Nat, d < k → (clK N O Mi dd d n).1 = true ∧ (clK N O Mi dd d n).2.2 ≤ R d) → clS N O Mi R dd n k = pC N O Mi dd n k
  | 0, _ => rfl
  | k + 1, h => by
    have ih := clS_all k (fun d q => h d (by omega))
    have h0 := pC_r N O Mi dd n k
    simp only [clS, pC]
    rw [if_neg (by omega), if_pos (h k (by omega)), ih]
theorem clS_bad {N O Mi R dd : Int → Int} {n d : Nat} (hd : ¬ ((clK N O Mi dd d n).1 = true ∧ (clK N O Mi dd d n).2.2 ≤ R d)) (k : Nat) (hk : d < k) : clS N O Mi R dd n k < 0 := by
  refine clS_no (m := d + 1) ?_ k (by omega)
  simp only [clS]
  by_cases q : clS N O Mi R dd n d < 0
  · rw [if_pos q]; decide
  · rw [if_neg q, if_neg hd]; decide
theorem clK_cg {N O Mi dd dd' : Int → Int} {d : Int} : ∀ m : Nat, (∀ k : Nat, k < m → dd k = dd' k) → clK N O Mi dd d m = clK N O Mi dd' d m
  | 0, _ => rfl
  | m + 1, h => by
    simp only [clK]
    rw [clK_cg m (fun k q => h k (by omega)), h m (by omega)]
theorem pC_cg {N O Mi dd dd' : Int → Int} {m : Nat} (h : ∀ k : Nat, k < m → dd k = dd' k) : ∀ k : Nat, pC N O Mi dd m k = pC N O Mi dd' m k
  | 0 => rfl
  | k + 1 => by
    simp only [pC]
    rw [pC_cg h k, clK_cg m h]
theorem clS_cg {N O Mi R dd dd' : Int → Int} {n : Nat} (h : ∀ k : Nat, k < n → dd k = dd' k) : ∀ k : Nat, clS N O Mi R dd n k = clS N O Mi R dd' n k
  | 0 => rfl
  | k + 1 => by
    simp only [clS]
    rw [clS_cg h k, clK_cg n h]
theorem clK_nn {N O Mi dd : Int → Int} {d : Int} : ∀ m : Nat, 0 ≤ (clK N O Mi dd d m).2.1
  | 0 => by simp [clK]
  | m + 1 => by
    simp only [clK]
    split
    · show 0 ≤ bor _ _
      unfold bor
      omega
    · exact clK_nn m
theorem clK_mono {N O Mi dd : Int → Int} {d : Int} {n : Nat} (hN : ∀ j : Nat, j < n → 0 ≤ N j ∧ 0 ≤ Mi j) {m : Nat} : ∀ k : Nat, m + k ≤ n → (clK N O Mi dd d m).2.2 ≤ (clK N O Mi dd d (m + k)).2.2 ∧ pop12 (clK N O Mi dd d m).2.1 ≤ pop12 (clK N O Mi dd d (m + k)).2.1
  | 0, _ => ⟨Int.le_refl _, Int.le_refl _⟩
  | k + 1, h => by
    obtain ⟨i1, i2⟩ := clK_mono (m := m) (O := O) (dd := dd) (d := d) hN k (by omega)
    have q := hN (m + k) (by omega)
    rw [← Nat.add_assoc]
    simp only [clK]
    split
    · have e := bdf_p (a := N ((m + k : Nat) : Int)) (b := (clK N O Mi dd d (m + k)).2.1) q.1 (clK_nn _)
      have e2 := pop12_nn (bdf (N ((m + k : Nat) : Int)) (clK N O Mi dd d (m + k)).2.1)
      refine ⟨?_, ?_⟩
      · show _ ≤ (clK N O Mi dd d (m + k)).2.2 + Mi ((m + k : Nat) : Int)
        omega
      · show _ ≤ pop12 (bor (clK N O Mi dd d (m + k)).2.1 (N ((m + k : Nat) : Int)))
        omega
    · exact ⟨i1, i2⟩
theorem pC_mono {N O Mi dd : Int → Int} {n : Nat} (hN : ∀ j : Nat, j < n → 0 ≤ N j ∧ 0 ≤ Mi j) {m : Nat} (hm : m ≤ n) : ∀ k : Nat, pC N O Mi dd m k ≤ pC N O Mi dd n k
  | 0 => Int.le_refl _
  | k + 1 => by
    have ih := pC_mono (O := O) (dd := dd) hN hm k
    have h := (clK_mono (O := O) (dd := dd) (d := k) hN (m := m) (n - m) (by omega)).2
    rw [show m + (n - m) = n by omega] at h
    simp only [pC]
    omega
/-- the days ahead of the m-th loop are those of Q, all of them can be, c calls are theirs -/
def pfX (N O Mi R : Int → Int) (m : Nat) (Q : Int) (ca le : Int → Int) (c : Int) (dd : Int → Int) : Prop :=
  (∀ k : Nat, k < m → dd k = Q / 4 ^ (m - 1 - k) % 4) ∧ (∀ d : Nat, d < 4 → (clK N O Mi dd d m).1 = true ∧ (clK N O Mi dd d m).2.2 ≤ R d ∧ ca d = (clK N O Mi dd d m).2.1 ∧ le d = R d - (clK N O Mi dd d m).2.2) ∧ c = pC N O Mi dd m 4
theorem dPl_q {n r m : Nat} (h : m + r = n) {Q P : Int} (h1 : Q * 4 ^ r ≤ P) (h2 : P < (Q + 1) * 4 ^ r) {k : Nat} (hk : k < m) : dPl n P k = Q / 4 ^ (m - 1 - k) % 4 := by
  have h4 : (0 : Int) < 4 ^ r := Int.pow_pos (by decide)
  have e : P / 4 ^ r = Q := (Int.ediv_eq_iff_of_pos h4).mpr ⟨h1, by rw [Int.add_mul] at h2; omega⟩
  unfold dPl
  have e2 : (2 * ((n : Int) - 1 - (k : Int))).toNat = 2 * (r + (m - 1 - k)) := by omega
  rw [e2, ← p4, Int.pow_add, ← Int.ediv_ediv_of_nonneg (by omega), e]
theorem pfX_step {N O Mi R : Int → Int} {m Q : Nat} {ca le : Int → Int} {c : Int} {dd : Int → Int} (h : pfX N O Mi R m Q ca le c dd) (hN : 0 ≤ N m) (d : Nat) (hd : d < 4) (ho : ¬ (O m / 2 ^ d % 2 = 0 ∨ le d < Mi m)) : pfX N O Mi R (m + 1) ((4 * Q + d : Nat) : Int) (updF ca d (bor (ca d) (N m))) (updF le d (le d - Mi m)) (c + pop12 (bdf (N m) (ca d))) (updF dd m d) := by
  obtain ⟨h1, h2, h3⟩ := h
  have hc : ∀ d' : Nat, clK N O Mi (updF dd m d) d' m = clK N O Mi dd d' m := fun d' => clK_cg m (fun k q => by unfold updF; rw [if_neg (by omega)])
  have hK : ∀ d' : Nat, clK N O Mi (updF dd m d) d' (m + 1) = if (d : Int) = (d' : Int) then ((clK N O Mi dd d' m).1 && decide (O m / 2 ^ d' % 2 ≠ 0), bor (clK N O Mi dd d' m).2.1 (N m), (clK N O Mi dd d' m).2.2 + Mi m) else clK N O Mi dd d' m := by
    intro d'
    simp only [clK]
    rw [hc d', show updF dd m d (m : Int) = d by unfold updF; rw [if_pos rfl], Int.toNat_natCast]
  refine ⟨fun k q => ?_, fun d' q => ?_, ?_⟩
  · unfold updF
    by_cases e : k = m
    · subst e
      rw [if_pos rfl, show k + 1 - 1 - k = 0 by omega]
      simp only [Int.pow_zero, Int.ediv_one]
      omega
    · rw [if_neg (by omega), h1 k (by omega), show m + 1 - 1 - k = 1 + (m - 1 - k) by omega, Int.pow_add, ← Int.ediv_ediv_of_nonneg (by decide)]
      congr 2
      omega
  · obtain ⟨g1, g2, g3, g4⟩ := h2 d' q
    rw [hK d']
    unfold updF
    by_cases e : d = d'
    · subst e
      rw [if_pos rfl, if_pos rfl, if_pos rfl]
      refine ⟨?_, ?_, ?_, ?_⟩
      · show ((clK N O Mi dd d m).1 && decide (O m / 2 ^ d % 2 ≠ 0)) = true
        rw [g1, Bool.true_and]
        exact decide_eq_true (fun z => ho (Or.inl z))
      · show (clK N O Mi dd d m).2.2 + Mi m ≤ R d
        omega
      · show _ = bor (clK N O Mi dd d m).2.1 (N m)
        rw [g3]
      · show le d - Mi m = R d - ((clK N O Mi dd d m).2.2 + Mi m)
        omega
    · rw [if_neg (by omega), if_neg (by omega), if_neg (by omega)]
      exact ⟨g1, g2, g3, g4⟩
  · have g3 := (h2 d hd).2.2.1
    have e := bdf_p (a := N m) (b := ca d) hN (by rw [g3]; exact clK_nn _)
    rw [h3]
    have k0 := hK 0
    have k1 := hK 1
    have k2 := hK 2
    have k3 := hK 3
    simp only [pC]
    rw [k0, k1, k2, k3]
    rw [g3] at e ⊢
    rcases (by omega : d = 0 ∨ d = 1 ∨ d = 2 ∨ d = 3) with rfl | rfl | rfl | rfl
    all_goals (simp at e ⊢; omega)
/-- what the fold has found, beside what the class's search has -/
def fsR (n : Nat) (F : Int × Int × Int) (S : plS) : Prop := (F.1 = -1 ∧ S.1 = 1000000 ∧ F.2.1 = 0 ∧ S.2.1 = 0) ∨ (0 ≤ F.1 ∧ F.1 ≤ 48 ∧ S.1 = F.1 ∧ S.2.1 = F.2.1 ∧ 1 ≤ S.2.1 ∧ ∀ j : Nat, j < n → S.2.2 j = dPl n F.2.2 j)
theorem fpF_skip {cal : Int → Int} {f0 : Int} {a : Nat} : ∀ k : Nat, (∀ P : Nat, a ≤ P → P < a + k → cal P < 0 ∨ (0 ≤ (fpF cal f0 a).1 ∧ (fpF cal f0 a).1 < cal P)) → fpF cal f0 (a + k) = fpF cal f0 a
  | 0, _ => rfl
  | k + 1, h => by
    have ih := fpF_skip k (fun P p q => h P p (by omega))
    have q := h (a + k) (by omega) (by omega)
    rw [← Nat.add_assoc]
    simp only [fpF]
    rw [ih, if_pos q]
abbrev calP (N O Mi R : Int → Int) (n : Nat) : Int → Int := fun P => clS N O Mi R (dPl n P) n 4
theorem pf_cost {N O Mi R : Int → Int} {n m r : Nat} (hN : ∀ j : Nat, j < n → 0 ≤ N j ∧ 0 ≤ Mi j) (hm : m + r = n) {Q : Nat} {ca le : Int → Int} {c : Int} {dd : Int → Int} (h : pfX N O Mi R m Q ca le c dd) {P : Nat} (h1 : Q * 4 ^ r ≤ P) (h2 : P < Q * 4 ^ r + 4 ^ r) : calP N O Mi R n P = -1 ∨ c ≤ calP N O Mi R n P := by
  have q1 : (Q : Int) * 4 ^ r ≤ (P : Int) := by exact_mod_cast h1
  have q2 : (P : Int) < ((Q : Int) + 1) * 4 ^ r := by rw [Int.add_mul, Int.one_mul]; exact_mod_cast h2
  rcases clS_or (N := N) (O := O) (Mi := Mi) (R := R) (dd := dPl n P) (n := n) 4 with u | u
  · exact Or.inl u
  · right
    show c ≤ clS N O Mi R (dPl n P) n 4
    rw [u, h.2.2, pC_cg (dd := dd) (dd' := dPl n P) (fun k hk => by rw [h.1 k hk, dPl_q hm q1 q2 hk]) 4]
    exact pC_mono hN (by omega) 4
theorem pf_bad {N O Mi R : Int → Int} {n m r : Nat} (hN : ∀ j : Nat, j < n → 0 ≤ N j ∧ 0 ≤ Mi j) (hm : m + (r + 1) = n) {Q d : Nat} (hd : d < 4) {ca le : Int → Int} {c : Int} {dd : Int → Int} (h : pfX N O Mi R m Q ca le c dd) (ho : O m / 2 ^ d % 2 = 0 ∨ le d < Mi m) {P : Nat} (h1 : (4 * Q + d) * 4 ^ r ≤ P) (h2 : P < (4 * Q + d) * 4 ^ r + 4 ^ r) : calP N O Mi R n P < 0 := by
  have q1 : ((4 * Q + d : Nat) : Int) * 4 ^ r ≤ (P : Int) := by exact_mod_cast h1
  have q2 : (P : Int) < (((4 * Q + d : Nat) : Int) + 1) * 4 ^ r := by rw [Int.add_mul, Int.one_mul]; exact_mod_cast h2
  have dq : ∀ k : Nat, k < m + 1 → dPl n P k = updF dd m d k := by
    intro k hk
    rw [dPl_q (m := m + 1) (by omega) q1 q2 hk]
    unfold updF
    by_cases e : k = m
    · subst e
      rw [if_pos rfl, show k + 1 - 1 - k = 0 by omega]
      simp only [Int.pow_zero, Int.ediv_one]
      omega
    · rw [if_neg (by omega), h.1 k (by omega), show m + 1 - 1 - k = 1 + (m - 1 - k) by omega, Int.pow_add, ← Int.ediv_ediv_of_nonneg (by decide)]
      congr 2
      omega
  have hK : clK N O Mi (dPl n P) d (m + 1) = ((clK N O Mi dd d m).1 && decide (O m / 2 ^ d % 2 ≠ 0), bor (clK N O Mi dd d m).2.1 (N m), (clK N O Mi dd d m).2.2 + Mi m) := by
    rw [clK_cg (dd' := updF dd m d) (m + 1) dq]
    simp only [clK]
    rw [show updF dd m d (m : Int) = d by unfold updF; rw [if_pos rfl], if_pos rfl, Int.toNat_natCast, clK_cg (dd := updF dd m d) (dd' := dd) m (fun k q => by unfold updF; rw [if_neg (by omega)])]
  refine clS_bad (d := d) ?_ 4 hd
  rintro ⟨u1, u2⟩
  have mo := (clK_mono (N := N) (O := O) (Mi := Mi) (dd := dPl n P) (d := d) hN (m := m + 1) r (by omega)).1
  rw [show m + 1 + r = n by omega] at mo
  obtain ⟨g1, g2, g3, g4⟩ := h.2.1 d hd
  rcases ho with ho | ho
  · have : (clK N O Mi (dPl n P) d (m + 1)).1 = false := by
      rw [hK]
      show ((clK N O Mi dd d m).1 && decide (O m / 2 ^ d % 2 ≠ 0)) = false
      rw [decide_eq_false (fun z => z ho), Bool.and_false]
    have := clK_no this n (by omega)
    rw [u1] at this
    cases this
  · rw [hK] at mo
    have mo2 : (clK N O Mi dd d m).2.2 + Mi m ≤ (clK N O Mi (dPl n P) d n).2.2 := mo
    omega
theorem gd_fp {N O Mi R : Int → Int} {n : Nat} {f0 : Int} (hN : ∀ j : Nat, j < n → 0 ≤ N j ∧ 0 ≤ Mi j) : ∀ (r m Q : Nat) (ca le : Int → Int) (c : Int) (dd : Int → Int) (S : plS), m + r = n → pfX N O Mi R m Q ca le c dd → fsR n (fpF (calP N O Mi R n) f0 (Q * 4 ^ r)) S → fsR n (fpF (calP N O Mi R n) f0 (Q * 4 ^ r + 4 ^ r)) (gd N O Mi n r ca le c dd S) := by
  have skip : ∀ (r m Q : Nat) (ca le : Int → Int) (c : Int) (dd : Int → Int) (S : plS), m + r = n → pfX N O Mi R m Q ca le c dd → fsR n (fpF (calP N O Mi R n) f0 (Q * 4 ^ r)) S → S.1 < c → fpF (calP N O Mi R n) f0 (Q * 4 ^ r + 4 ^ r) = fpF (calP N O Mi R n) f0 (Q * 4 ^ r) := by
    intro r m Q ca le c dd S hm hp hF hS
    have hc := pC_r N O Mi dd m 4
    have hpc := hp.2.2
    refine fpF_skip _ (fun P p1 p2 => ?_)
    rcases pf_cost hN hm hp p1 p2 with u | u
    · left; omega
    · right
      rcases hF with ⟨a1, a2, a3, a4⟩ | ⟨a1, a2, a3, a4, a5, a6⟩
      · exfalso; omega
      · exact ⟨a1, by omega⟩
  intro r
  induction r with
  | zero =>
    intro m Q ca le c dd S hm hp hF
    simp only [gd]
    by_cases hS : S.1 < c
    · rw [if_pos hS, skip 0 m Q ca le c dd S hm hp hF hS]
      exact hF
    · rw [if_neg hS]
      have hmn : m = n := by omega
      subst hmn
      have hc := pC_r N O Mi dd m 4
      have hpc := hp.2.2
      have dq : ∀ k : Nat, k < m → dPl m Q k = dd k := fun k hk => by rw [hp.1 k hk, dPl_q (r := 0) (Q := (Q : Int)) (by omega) (by omega) (by omega) hk]
      have ecal : clS N O Mi R (dPl m Q) m 4 = c := by
        rw [clS_cg (dd' := dd) dq 4, clS_all 4 (fun d hd => ⟨(hp.2.1 d hd).1, (hp.2.1 d hd).2.1⟩), hpc]
      simp only [Nat.pow_zero, Nat.mul_one] at hF ⊢
      simp only [fpF]
      rw [show calP N O Mi R m (Q : Int) = c from ecal]
      unfold takeP
      rcases hF with ⟨a1, a2, a3, a4⟩ | ⟨a1, a2, a3, a4, a5, a6⟩
      · rw [if_neg (by omega), if_pos (by omega), if_pos (by omega)]
        refine Or.inr ⟨?_, ?_, rfl, rfl, Int.le_refl 1, fun j hj => ?_⟩
        · show 0 ≤ c; omega
        · show c ≤ 48; omega
        · show (if 0 ≤ (j : Int) ∧ (j : Int) < (m : Int) then dd j else S.2.2 j) = dPl m Q j
          rw [if_pos (by omega), dq j hj]
      · rw [if_neg (by omega)]
        by_cases hl : c < S.1
        · rw [if_pos (by omega), if_pos hl]
          refine Or.inr ⟨?_, ?_, rfl, rfl, Int.le_refl 1, fun j hj => ?_⟩
          · show 0 ≤ c; omega
          · show c ≤ 48; omega
          · show (if 0 ≤ (j : Int) ∧ (j : Int) < (m : Int) then dd j else S.2.2 j) = dPl m Q j
            rw [if_pos (by omega), dq j hj]
        · rw [if_neg (by omega), if_neg hl]
          refine Or.inr ⟨a1, a2, a3, ?_, ?_, a6⟩
          · show S.2.1 + 1 = _ + 1; omega
          · show 1 ≤ S.2.1 + 1; omega
  | succ r ih =>
    intro m Q ca le c dd S hm hp hF
    simp only [gd]
    by_cases hS : S.1 < c
    · rw [if_pos hS, skip (r + 1) m Q ca le c dd S hm hp hF hS]
      exact hF
    · rw [if_neg hS, show (n : Int) - ((r : Int) + 1) = (m : Int) by omega]
      have e4 : Q * 4 ^ (r + 1) = 4 * Q * 4 ^ r := by rw [Nat.pow_succ, Nat.mul_comm 4 Q, Nat.mul_assoc, Nat.mul_comm 4]
      have key : ∀ d : Nat, d ≤ 4 → fsR n (fpF (calP N O Mi R n) f0 ((4 * Q + d) * 4 ^ r)) (gdD (gd N O Mi n r) (N m) (O m) (Mi m) ca le c m dd S d) := by
        intro d
        induction d with
        | zero =>
          intro _
          rw [e4] at hF
          exact hF
        | succ d ihd =>
          intro hd
          have i0 := ihd (by omega)
          have e5 : (4 * Q + (d + 1)) * 4 ^ r = (4 * Q + d) * 4 ^ r + 4 ^ r := by rw [← Nat.add_assoc, Nat.add_mul (4 * Q + d), Nat.one_mul]
          rw [e5]
          simp only [gdD]
          split
          · next ho =>
            rw [fpF_skip _ (fun P p1 p2 => Or.inl (pf_bad hN hm (by omega) hp ho p1 p2))]
            exact i0
          · next ho => exact ih (m + 1) (4 * Q + d) _ _ _ _ _ (by omega) (pfX_step hp (hN m (by omega)).1 d (by omega) ho) i0
      have k4 := key 4 (by omega)
      rw [show Q * 4 ^ (r + 1) + 4 ^ (r + 1) = (4 * Q + 4) * 4 ^ r by rw [e4, Nat.pow_succ, Nat.add_mul, Nat.mul_comm (4 ^ r) 4]]
      exact k4
theorem gd_all {N O Mi R : Int → Int} {n : Nat} {f0 : Int} {dd : Int → Int} (hN : ∀ j : Nat, j < n → 0 ≤ N j ∧ 0 ≤ Mi j) (hR : ∀ d : Nat, d < 4 → 0 ≤ R d) : fsR n (fpF (calP N O Mi R n) f0 (4 ^ n)) (gd N O Mi n n (fun _ => 0) R 0 dd (1000000, 0, fun _ => 0)) := by
  have h := gd_fp (O := O) (R := R) (f0 := f0) hN n 0 0 (fun _ => 0) R 0 dd (1000000, 0, fun _ => 0) (by omega) ⟨fun k hk => by omega, fun d hd => ⟨rfl, hR d hd, rfl, by simp [clK]⟩, by simp [pC, clK, pop12]⟩ (by simp [fsR, fpF])
  simpa using h
