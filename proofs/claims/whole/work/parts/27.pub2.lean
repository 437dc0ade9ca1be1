/-! the class's calls: fits, texts, plans -/
theorem TrP.cg {sh sh' : Int → Int → Int} {n m t : Int} {b l : Int → Int} (ht : t ≤ m) (hsh : ∀ j f, 0 ≤ j → j < m → 0 ≤ f → f < n → sh j f = sh' j f) (h : TrP sh n b l t) : (∀ k : Nat, (k : Int) ≤ t → 0 ≤ stB b l k) ∧ TrP sh' n b l t := by
  have key : ∀ (k : Nat), (k : Int) ≤ t → 0 ≤ stB b l k := by
    intro k
    induction k with
    | zero => intro _; simp [stB]
    | succ k ih =>
      intro hk
      obtain ⟨a1, a2, a3, a4, a5⟩ := h k (by omega) (by omega)
      have := ih (by omega)
      unfold stB
      rw [if_neg (by omega), show ((k + 1 : Nat) : Int) - 1 = (k : Int) by omega]
      omega
  refine ⟨key, fun j q1 q2 => ?_⟩
  have k0 := key j.toNat (by omega)
  rw [show ((j.toNat : Nat) : Int) = j by omega] at k0
  obtain ⟨a1, a2, a3, a4, a5⟩ := h j q1 q2
  refine ⟨a1, a2, ?_, a4, fun f z1 z2 => ?_⟩
  · rw [← hsh j (b j) q1 (by omega) (by omega) a2]; exact a3
  · rw [← hsh j f q1 (by omega) (by omega) (by omega)]; exact a5 f z1 z2
def ftQ (A : aSt) (w z : Int) (σ1 : qSt) : Prop := RelD σ1 A ∧ σ1 23 0 3 = fitT A w 0 0 ∧ σ1 23 0 4 = mA A w ∧ DPA A w (fitT A w) ∧ ((z = 0 ∧ ¬ fitT A w 0 0 < 1000000) ∨ (z = 1 ∧ fitT A w 0 0 < 1000000 ∧ ∀ j, 0 ≤ j → j < mA A w → σ1 34 0 j = (fitBL A w).1 j ∧ σ1 35 0 j = (fitBL A w).2 j))
theorem fit_of {σ σ1 : qSt} {A : aSt} {w z : Int} (hR : RelD σ A) (hA : AOk A) (hw : 0 ≤ w ∧ w < nWd A) (h : skQ σ w (σ 105 w 4) z σ1) : ftQ A w z σ1 := by
  obtain ⟨w1, w2, w3, w4, w5, w6, w7, w8, w9, w10, w11, w12⟩ := wd_f hR hA hw
  have lf := ln_f hR hA (x := (wdAt A w).1) ⟨w6, w7⟩
  rw [w1] at h
  obtain ⟨a1, a2, a3, a4, a5, a6⟩ := h
  rw [lf.2.1, w4] at a5 a6
  have eo : ∀ s q, 0 ≤ s → s < mA A w → 0 ≤ q → q < nA A w → ocS σ w (wdAt A w).1 s q = ocA A w s q := fun s q s1 s2 q1 q2 => by
    unfold ocS ocA
    rw [(w12 s s1 s2).1, w2, (lf.2.2.2.2.2 q q1 q2).1]
  have el : ∀ s, 0 ≤ s → s < mA A w → loS σ w s = loA A w s ∧ hiS σ w s = hiA A w s := fun s s1 s2 => by
    unfold loS hiS loA hiA
    rw [(w12 s s1 s2).2.1, (w12 s s1 s2).2.2.1, w2]
    exact ⟨rfl, rfl⟩
  have d : DPA A w (σ1 25) := IsDP.cg eo (fun p p1 p2 => by unfold pfS pfA; rw [(lf.2.2.2.2.2 p p1 p2).1]) el a5
  have e0 := fitT_one d 0 0 (by omega) (Int.natCast_nonneg _) (by omega) (Int.natCast_nonneg _)
  refine ⟨rel_fit hR (fun a b c q1 q2 q3 => a1 a b c (by omega) (by omega) (by omega) (by omega)) a2, by rw [a4, e0], by rw [a3, w4], fitT_dp d, ?_⟩
  rcases a6 with ⟨z1, z2⟩ | ⟨z1, z2, t, t1, t2, t3, t4⟩
  · exact Or.inl ⟨z1, by omega⟩
  · refine Or.inr ⟨z1, by omega, ?_⟩
    have es : ∀ j f, 0 ≤ j → j < mA A w → 0 ≤ f → f < nA A w → shX (ocS σ w (wdAt A w).1) (loS σ w) (hiS σ w) (nA A w) (σ1 25) j f = shX (ocA A w) (loA A w) (hiA A w) (nA A w) (σ1 25) j f := fun j f j1 j2 f1 f2 => shX.cg ⟨j1, j2⟩ ⟨f1, f2⟩ eo el (fun _ _ _ _ _ _ => rfl)
    obtain ⟨k1, k2⟩ := TrP.cg (m := mA A w) t2 es t3
    have k3 := k1 t.toNat (by omega)
    rw [show ((t.toNat : Nat) : Int) = t by omega] at k3
    have ht : t = mA A w := by
      refine tr_done (ocA_rng A w) (pfA_rng A w) (Int.natCast_nonneg _) d z2 ⟨t1, t2⟩ k2 ?_
      rcases t4 with q | q
      · exact Or.inl q
      · rcases Int.lt_or_eq_of_le t2 with u | u
        · exact Or.inr (fun f f1 f2 => by rw [← es t f t1 u (by omega) f2]; exact q f f1 f2)
        · exact Or.inl u
    rw [ht] at k2
    exact fitBL_one d k2
theorem onF_cg {b l b' l' : Int → Int} {x : Int} : ∀ n : Nat, (∀ i : Nat, i < n → b i = b' i ∧ l i = l' i) → onF b l x n = onF b' l' x n
  | 0, _ => rfl
  | n + 1, h => by
    have e := h n (by omega)
    simp only [onF]
    rw [onF_cg n (fun i q => h i (by omega)), e.1, e.2]
theorem tx_f {σ : qSt} {A : aSt} (hR : RelD σ A) : ∀ i : Nat, i < (cT A.1).length → σ 6 0 i = ldA A i ∧ σ 7 0 i = soA A i ∧ σ 8 0 i = woA A i ∧ σ 9 0 i = dyA A i := fun i hi => hR.2.2.1.2.2.1.2 i _ (get_of_lt _ (0, 0, 0, 0) hi)
theorem tx_n {σ : qSt} {A : aSt} (hR : RelD σ A) : (σ 4 0 5).toNat = (cT A.1).length := by rw [hR.2.2.1.2.2.1.1]; simp
theorem nm_f {σ : qSt} {A : aSt} (hR : RelD σ A) {i : Int} (h : 0 ≤ i ∧ i < 32) : σ 5 0 i = cN A.1 i := hR.2.2.1.2.2.2.1 i h.1 h.2
theorem tx_g {σ : qSt} {A : aSt} (hR : RelD σ A) (hA : AOk A) : ∀ i : Nat, i < (cT A.1).length → σ 6 0 i = ldA A i ∧ σ 7 0 i = soA A i ∧ σ 8 0 i = woA A i ∧ σ 9 0 i = dyA A i ∧ σ 5 0 (σ 8 0 i) = cN A.1 (σ 8 0 i) := fun i hi => by
  have h := tx_f hR i hi
  have g := hA.1.2.2.1.2 i _ (get_of_lt _ (0, 0, 0, 0) hi)
  exact ⟨h.1, h.2.1, h.2.2.1, h.2.2.2, nm_f hR (by rw [h.2.2.1]; exact ⟨g.2.2.2.2.1, g.2.2.2.2.2.1⟩)⟩
theorem rel_bar {σ : qSt} {A : aSt} (hR : RelD σ A) (land word day : Int) : barB (σ 6 0) (σ 7 0) (σ 8 0) (σ 9 0) (σ 4 0 5).toNat land word day = barA A land word day := by
  rw [tx_n hR]
  exact barB_cg (tx_f hR)
theorem rel_cho {σ : qSt} {A : aSt} (hR : RelD σ A) (hA : AOk A) (land name day : Int) : choF (σ 6 0) (σ 7 0) (σ 8 0) (σ 9 0) (σ 5 0) (σ 4 0 5).toNat land name day = choA A land name day := by
  rw [tx_n hR]
  exact choF_cg (tx_g hR hA)
theorem rel_law {σ : qSt} {A : aSt} (hR : RelD σ A) (hA : AOk A) {w : Int} (hw : 0 ≤ w ∧ w < nWd A) (land day : Int) : allW (fun i => okW (σ 6 0) (σ 7 0) (σ 8 0) (σ 9 0) (σ 5 0) (σ 4 0 5).toNat land day (σ 109 w i)) (σ 105 w 7).toNat = lawA A w land day := by
  obtain ⟨w1, w2, w3, w4, w5, w6, w7, w8, w9, w10, w11, w12⟩ := wd_f hR hA hw
  rw [tx_n hR, w4]
  unfold lawA
  rw [Int.toNat_natCast]
  refine allW_cg _ (fun i hi => ?_)
  have h := w12 i (by omega) (by omega)
  have g := (hA.1.2.1.2 _ _ (wd_get hw)).2.2.2.2.2.2.2 i _ (get_of_lt _ (0, 0, 0, 0) hi)
  rw [okW_cg (tx_g hR hA) (nm_f hR (by rw [h.2.2.2.1]; exact ⟨g.2.2.2.2.2.2.1, g.2.2.2.2.2.2.2⟩)), h.2.2.2.1]
/-! plans -/
theorem gd_lt (A O M : Int → Int) (n : Int) : ∀ (r : Nat) (ca le : Int → Int) (c : Int) (dd : Int → Int) (S : plS), c + 12 * r ≤ 1000 → (S.2.1 ≠ 0 → S.1 < 1000000) → ((gd A O M n r ca le c dd S).2.1 ≠ 0 → (gd A O M n r ca le c dd S).1 < 1000000) := by
  intro r
  induction r with
  | zero =>
    intro ca le c dd S hc hS
    simp only [gd, takeP]
    split
    · exact hS
    · split
      · intro _; show c < 1000000; omega
      · intro _; show S.1 < 1000000; omega
  | succ r ih =>
    intro ca le c dd S hc hS
    simp only [gd]
    split
    · exact hS
    · have key : ∀ d : Nat, ((gdD (gd A O M n r) (A (n - (r + 1))) (O (n - (r + 1))) (M (n - (r + 1))) ca le c (n - (r + 1)) dd S d).2.1 ≠ 0 → (gdD (gd A O M n r) (A (n - (r + 1))) (O (n - (r + 1))) (M (n - (r + 1))) ca le c (n - (r + 1)) dd S d).1 < 1000000) := by
        intro d
        induction d with
        | zero => exact hS
        | succ d ihd =>
          simp only [gdD]
          split
          · exact ihd
          · exact ih _ _ _ _ _ (by have := pop12_r (z := bdf (A (n - (r + 1))) (ca d)) (by unfold bdf; omega); push_cast at hc; omega) ihd
      exact key 4
theorem plRA_lt {A : aSt} (hA : AOk A) (h : (plRA A).2.1 ≠ 0) : (plRA A).1 < 1000000 := by
  refine gd_lt _ _ _ _ _ _ _ _ _ _ ?_ (fun q => absurd rfl q) h
  have := hA.1.2.2.2.2.2.2.2.1
  omega
theorem pow_hi {x : Int} {n k : Nat} (hx : 0 ≤ x ∧ x < 2 ^ n) (hk : n ≤ k) : x / 2 ^ k = 0 := by
  have h1 : (2 : Int) ^ n ≤ 2 ^ k := by
    have := Nat.pow_le_pow_right (n := 2) (by decide) hk
    have e1 : ((2 ^ n : Nat) : Int) = (2 : Int) ^ n := by push_cast; rfl
    have e2 : ((2 ^ k : Nat) : Int) = (2 : Int) ^ k := by push_cast; rfl
    omega
  exact Int.ediv_eq_zero_of_lt hx.1 (by omega)
theorem aol_cut {set : Int} {who who' : Int → Int} {n : Nat} (hs : 0 ≤ set ∧ set < 2 ^ n) (hw : ∀ l : Nat, l < n → who l = who' l) : ∀ k : Nat, aol set who (n + k) = aol set who' n
  | 0 => by
    have : ∀ m : Nat, m ≤ n → aol set who m = aol set who' m := by
      intro m
      induction m with
      | zero => intro _; rfl
      | succ m ih => intro hm; simp only [aol]; rw [ih (by omega), hw m (by omega)]
    exact this n (by omega)
  | k + 1 => by
    have e : set / 2 ^ (n + k) = 0 := pow_hi hs (by omega)
    have : aol set who (n + (k + 1)) = aol set who (n + k) := by
      show aol set who (n + k + 1) = _
      simp only [aol]
      rw [e]
      simp
    rw [this]
    exact aol_cut hs hw k
theorem lp_f {σ : qSt} {A : aSt} (hR : RelD σ A) {k : Int} (h : 0 ≤ k ∧ k < nLp A) : σ 14 0 k = (cO A.1).getD k.toNat 0 := by
  have := hR.2.2.1.2.2.2.2.2.2.2.2 k.toNat _ (get_of_lt _ 0 (by have : k < ((cO A.1).length : Int) := h.2; omega))
  rwa [Int.toNat_of_nonneg h.1] at this
theorem rel_plA {σ : qSt} {A : aSt} (hR : RelD σ A) (hA : AOk A) {k : Int} (h : 0 ≤ k ∧ k < nLp A) : plA σ k = plAA A k := by
  have g := hA.1.2.2.2.2.2.2.2.2 k.toNat _ (get_of_lt _ 0 (by have : k < ((cO A.1).length : Int) := h.2; omega))
  have hl := hA.1.1.1
  unfold plA plAA
  rw [lp_f hR h]
  have := aol_cut (who := fun l => σ 11 0 (σ 81 l 1)) (who' := fun l => cA A.1 (lnAt A l).1) (n := (cL A.1).length) (set := (cO A.1).getD k.toNat 0) ⟨by omega, g.2⟩ (fun l q => by
    have lf := ln_f hR hA (x := l) ⟨by omega, by show (l : Int) < ((cL A.1).length : Int); omega⟩
    show σ 11 0 (σ 81 l 1) = _
    rw [lf.1]
    exact hR.2.2.1.2.2.2.2.1 _ lf.2.2.2.1 lf.2.2.2.2.1) (12 - (cL A.1).length)
  rw [show (cL A.1).length + (12 - (cL A.1).length) = 12 by omega] at this
  exact this
theorem doa_cg {a : Int} {f g : Int → Int} : ∀ n : Nat, (∀ i : Nat, i < n → f i = g i) → doa a f n = doa a g n
  | 0, _ => rfl
  | n + 1, h => by simp only [doa]; rw [doa_cg n (fun i q => h i (by omega)), h n (by omega)]
theorem rel_plRes {σ : qSt} {A : aSt} (hR : RelD σ A) (hA : AOk A) : plE (nLp A) (plRes σ) (plRA A) := by
  have h10 : σ 10 0 4 = nLp A := hR.2.2.1.2.2.2.2.2.2.2.1
  unfold plRes plRA
  rw [h10, show (nLp A).toNat = (cO A.1).length by show ((cO A.1).length : Int).toNat = _; simp]
  refine gd_cg (fun j q1 q2 => ⟨rel_plA hR hA ⟨q1, q2⟩, ?_, ?_⟩) _ _ _ _ _ _ _ _ _ _ (by show ((cO A.1).length : Int) ≤ ((cO A.1).length : Int); omega) (by omega) (fun d q1 q2 => ⟨rfl, hR.2.2.1.2.2.2.2.2.2.1 d q1 q2⟩) (fun _ _ _ => rfl) ⟨rfl, rfl, fun _ _ _ _ => rfl⟩
  · unfold plO plOA
    rw [rel_plA hR hA ⟨q1, q2⟩]
    exact doa_cg 8 (fun i hi => hR.2.2.1.2.2.2.2.2.1 i (by omega) (by omega))
  · unfold plM plMA
    rw [lp_f hR ⟨q1, q2⟩]
def pnQ (A : aSt) (σ1 : qSt) : Prop := RelD σ1 A ∧ σ1 15 0 7 = (plRA A).1 ∧ σ1 15 0 8 = (plRA A).2.1 ∧ ((plRA A).2.1 ≠ 0 → ∀ j, 0 ≤ j → j < nLp A → σ1 22 0 j = (plRA A).2.2 j)
theorem pln_of {σ σ1 : qSt} {A : aSt} (hR : RelD σ A) (hA : AOk A) (h : skp σ σ1) : pnQ A σ1 := by
  obtain ⟨a1, a2, a3, a4, a5⟩ := h
  have h10 : σ 10 0 4 = nLp A := hR.2.2.1.2.2.2.2.2.2.2.1
  rw [h10] at a5
  have b := rel_plRes hR hA
  have e1 : σ1 15 0 7 = (plRA A).1 := a5.1.trans b.1
  have e2 : σ1 15 0 8 = (plRA A).2.1 := a5.2.1.trans b.2.1
  refine ⟨rel_scr hR (fun a b c q1 q2 q3 => a1 a b c (by omega) (by omega) (by omega) (by omega) (by omega) (by omega) (by omega) (by omega)) a2 a3 (Or.inr ⟨a4, ?_⟩), e1, e2, fun q j q1 q2 => ?_⟩
  · rw [plRes_cg (fun a b c q => a1 a b c (by omega) (by omega) (by omega) (by omega) (by omega) (by omega) (by omega) (by omega)), a1 10 0 4 (by omega) (by omega) (by omega) (by omega) (by omega) (by omega) (by omega) (by omega), h10]
    exact a5
  · have hl := plRA_lt hA q
    have c1 := a5.2.2 (by show σ1 15 0 7 < 1000000; omega) j q1 q2
    have c2 := b.2.2 (by rw [b.1]; exact hl) j q1 q2
    exact c1.trans c2
theorem sk_hyp {σ : qSt} {A : aSt} (hR : RelD σ A) (hA : AOk A) : (∀ l, 0 ≤ l → l < 6 → -1 ≤ σ 11 0 l ∧ σ 11 0 l < 8) ∧ (∀ w, 0 ≤ w → w < 8 → 0 ≤ σ 12 0 w ∧ σ 12 0 w < 16) ∧ ∀ d, 0 ≤ d → d < 4 → 0 ≤ σ 13 0 d ∧ σ 13 0 d ≤ 100 := by
  refine ⟨fun x h1 h2 => ?_, fun x h1 h2 => ?_, fun x h1 h2 => ?_⟩
  · rw [hR.2.2.1.2.2.2.2.1 x h1 h2]; have := hA.1.2.2.2.2.1 x h1 h2; omega
  · rw [hR.2.2.1.2.2.2.2.2.1 x h1 h2]; have := hA.1.2.2.2.2.2.1 x h1 h2; omega
  · rw [hR.2.2.1.2.2.2.2.2.2.1 x h1 h2]; have := hA.1.2.2.2.2.2.2.1 x h1 h2; omega
set_option maxRecDepth 20000 in
theorem c_X10_findFit (e : qR) (l : Launch) (σ : qSt) (w : Int) (A : aSt) (hR : RelD σ A) (hA : AOk A) (hw : 0 ≤ w ∧ w < nWd A) : CM (ED e) l yX10_findFit cX10_findFit 3 (some .boolean) 6 [qr 0 0, qi w] σ (Ri fun z σ' => ftQ A w z σ') := by
  refine CM.mk tD_ok (by decide +kernel) (Nat.le_of_ble_eq_true rfl) (fun G C => ?_)
  show G σ 0 [some (qr 0 0), some (qi w), none] []
  obtain ⟨hb, e10, n10, m10, e11, n11, m11, e5, n5, m5, e4, n4, m4, h381, h382, h383, h384⟩ := dF hR hA
  have wf := wd_f hR hA hw
  have lf := ln_f hR hA (x := (wdAt A w).1) ⟨wf.2.2.2.2.2.1, wf.2.2.2.2.2.2.1⟩
  rw [← wf.1] at lf
  refine r_aload_n C dX10_findFit_0 rfl ?_
  refine r_get_r (c := 1) C dX10_findFit_1 fl_X10_17 rfl rfl rfl (by decide) rfl ?_
  refine r_iload_n C dX10_findFit_4 rfl ?_
  refine r_aald (c := 1) (N := 20) C dX10_findFit_5 rfl (by decide) rfl (by decide) (by omega) rfl ?_
  refine r_astore_n C dX10_findFit_6 rfl rfl (by decide) ?_
  refine r_aload_n C dX10_findFit_7 rfl ?_
  refine r_get_r (c := 1) C dX10_findFit_8 fl_X10_51 rfl rfl rfl (by decide) rfl ?_
  refine r_aload_n C dX10_findFit_11 rfl ?_
  refine r_aload_n C dX10_findFit_12 rfl ?_
  refine r_get_r (c := 1) C dX10_findFit_13 fl_X10_11 rfl rfl rfl (by decide) rfl ?_
  refine r_aload_n C dX10_findFit_16 rfl ?_
  refine r_get_i (c := 20) 4 C dX10_findFit_17 fl_X10_142 rfl rfl rfl rfl (by omega) ?_
  have b17 := hb 105 w 4 (by omega) (by omega)
  refine r_aald (c := 1) (N := 12) C dX10_findFit_20 rfl (by decide) rfl (by decide) (by omega) rfl ?_
  refine r_cvi (c := 1) C dX10_findFit_21 mv_X10_295 (c_X2_seek e l _ _ _ hb (by omega) (by omega) (by omega) (by omega) (fun s a b => by have := hR.1.2.2.2.2.1 w s (by omega) (by omega) a b; omega) (fun s a b => by have := hR.1.2.2.2.2.1 w s (by omega) (by omega) a b; omega)) (by decide) rfl rfl rfl rfl (by decide) rfl rfl (Nat.le_of_ble_eq_true rfl) (fun z21 σ21 h21 => ?_)
  refine r_zret C dX10_findFit_24 (by have := h21.2.2.2.2.2; omega) ?_
  exact ⟨_, rfl, fit_of hR hA hw h21⟩
set_option maxRecDepth 20000 in
theorem o_cost (e : qR) (l : Launch) (σ : qSt) (w : Int) (A : aSt) (hR : RelD σ A) (hA : AOk A) (h_w : InI w)  : CM (ED e) l yX10_cost cX10_cost 2 (some .int) 20 [qr 0 0, qi w] σ (Ri fun z σ' => z = (oCost w A).1 ∧ RelD σ' (oCost w A).2) := by
  refine CM.mk tD_ok (by decide +kernel) (Nat.le_of_ble_eq_true rfl) (fun G C => ?_)
  show G σ 0 [some (qr 0 0), some (qi w)] []
  obtain ⟨hb, e10, n10, m10, e11, n11, m11, e5, n5, m5, e4, n4, m4, h381, h382, h383, h384⟩ := dF hR hA
  refine r_aload_n C dX10_cost_0 rfl ?_
  refine r_iload_n C dX10_cost_1 rfl ?_
  refine r_cvi (c := 1) C dX10_cost_2 mv_X10_117 (c_X10_isWording e l _ _ hb (by omega)) (by decide) rfl rfl rfl rfl (by decide) rfl rfl (Nat.le_of_ble_eq_true rfl) (fun z2 σ2 h2 => ?_)
  obtain ⟨rfl, rfl⟩ := h2
  refine r_ifb_ne 15 C dX10_cost_5 (by decide) (fun h5 => ?_) (fun h5 => ?_)
  · refine r_aload_n C dX10_cost_15 rfl ?_
    refine r_iload_n C dX10_cost_16 rfl ?_
    refine r_cvi (c := 1) C dX10_cost_17 mv_X10_157 (c_X10_findFit e l _ _ A hR hA (by omega)) (by decide) rfl rfl rfl rfl (by decide) rfl rfl (Nat.le_of_ble_eq_true rfl) (fun z17 σ17 h17 => ?_)
    obtain ⟨hR17, f1, f2, f3, f4⟩ := h17
    refine r_if_ne 30 C dX10_cost_20 (by decide) (by omega) (fun h20 => ?_) (fun h20 => ?_)
    · refine r_aload_n C dX10_cost_30 rfl ?_
      refine r_get_r (c := 1) C dX10_cost_31 fl_X10_51 rfl rfl rfl (by decide) rfl ?_
      refine r_get_i (c := 1) 3 C dX10_cost_34 fl_X10_160 rfl rfl rfl rfl (by decide) ?_
      have b34 := hR17.1.1 23 0 3 (by omega) (by omega)
      refine r_iret C dX10_cost_37 ?_
      have e1 : oCost w A = (fitT A w 0 0, A) := by unfold oCost; repeat (first | rw [if_pos (by omega)] | rw [if_neg (by omega)])
      exact ⟨_, rfl, by rw [e1]; exact f1, by rw [e1]; exact hR17⟩
    · refine r_aload_n C dX10_cost_23 rfl ?_
      refine r_ldc C dX10_cost_24 kc_X10_135 ?_
      refine r_cvi (c := 1) C dX10_cost_26 mv_X10_91 (c_X10_finding e l _ _) (by decide) rfl rfl rfl rfl (by decide) rfl rfl (Nat.le_of_ble_eq_true rfl) (fun z26 σ26 h26 => ?_)
      obtain ⟨rfl, rfl⟩ := h26
      refine r_iret C dX10_cost_29 ?_
      have e1 : oCost w A = fnd A (-100006) := by unfold oCost; repeat (first | rw [if_pos (by omega)] | rw [if_neg (by omega)])
      exact ⟨_, rfl, by rw [e1]; rfl, by rw [e1]; exact rel_fnd hR17 _⟩
  · refine r_aload_n C dX10_cost_8 rfl ?_
    refine r_ldc C dX10_cost_9 kc_X10_90 ?_
    refine r_cvi (c := 1) C dX10_cost_11 mv_X10_91 (c_X10_finding e l _ _) (by decide) rfl rfl rfl rfl (by decide) rfl rfl (Nat.le_of_ble_eq_true rfl) (fun z11 σ11 h11 => ?_)
    obtain ⟨rfl, rfl⟩ := h11
    refine r_iret C dX10_cost_14 ?_
    have e1 : oCost w A = fnd A (-100001) := by unfold oCost; repeat (first | rw [if_pos (by omega)] | rw [if_neg (by omega)])
    exact ⟨_, rfl, by rw [e1]; rfl, by rw [e1]; exact rel_fnd hR _⟩
set_option maxRecDepth 20000 in
theorem o_place (e : qR) (l : Launch) (σ : qSt) (w i k : Int) (A : aSt) (hR : RelD σ A) (hA : AOk A) (h_w : InI w) (h_i : InI i) (h_k : InI k)  : CM (ED e) l yX10_place cX10_place 4 (some .int) 20 [qr 0 0, qi w, qi i, qi k] σ (Ri fun z σ' => z = (oPlace w i k A).1 ∧ RelD σ' (oPlace w i k A).2) := by
  refine CM.mk tD_ok (by decide +kernel) (Nat.le_of_ble_eq_true rfl) (fun G C => ?_)
  show G σ 0 [some (qr 0 0), some (qi w), some (qi i), some (qi k)] []
  obtain ⟨hb, e10, n10, m10, e11, n11, m11, e5, n5, m5, e4, n4, m4, h381, h382, h383, h384⟩ := dF hR hA
  refine r_aload_n C dX10_place_0 rfl ?_
  refine r_iload_n C dX10_place_1 rfl ?_
  refine r_cvi (c := 1) C dX10_place_2 mv_X10_117 (c_X10_isWording e l _ _ hb (by omega)) (by decide) rfl rfl rfl rfl (by decide) rfl rfl (Nat.le_of_ble_eq_true rfl) (fun z2 σ2 h2 => ?_)
  obtain ⟨rfl, rfl⟩ := h2
  refine r_ifb_eq 24 C dX10_place_5 (by decide) (fun h5 => ?_) (fun h5 => ?_)
  · refine r_aload_n C dX10_place_24 rfl ?_
    refine r_ldc C dX10_place_25 kc_X10_90 ?_
    refine r_cvi (c := 1) C dX10_place_27 mv_X10_91 (c_X10_finding e l _ _) (by decide) rfl rfl rfl rfl (by decide) rfl rfl (Nat.le_of_ble_eq_true rfl) (fun z27 σ27 h27 => ?_)
    obtain ⟨rfl, rfl⟩ := h27
    refine r_iret C dX10_place_30 ?_
    have e1 : oPlace w i k A = fnd A (-100001) := by unfold oPlace; repeat (first | rw [if_pos (by omega)] | rw [if_neg (by omega)])
    exact ⟨_, rfl, by rw [e1]; rfl, by rw [e1]; exact rel_fnd hR _⟩
  · have wf := wd_f hR hA (x := w) (by omega)
    have hmA : mA A w = ((wdAt A w).2.2.2.length : Int) := rfl
    have hnA : nA A w = ((lnAt A (wdAt A w).1).2.length : Int) := rfl
    refine r_iload_n C dX10_place_8 rfl ?_
    refine r_aload_n C dX10_place_9 rfl ?_
    refine r_get_r (c := 1) C dX10_place_10 fl_X10_17 rfl rfl rfl (by decide) rfl ?_
    refine r_iload_n C dX10_place_13 rfl ?_
    refine r_aald (c := 1) (N := 20) C dX10_place_14 rfl (by decide) rfl (by decide) (by omega) rfl ?_
    refine r_get_i (c := 20) 7 C dX10_place_15 fl_X10_128 rfl rfl rfl rfl (by omega) ?_
    have b15 := hb 105 w 7 (by omega) (by omega)
    refine r_csi C dX10_place_18 ms_X10_86 (c_X10_within e l _ _ _ (by omega) (by omega)) (by decide) rfl rfl (Nat.le_of_ble_eq_true rfl) (fun z18 σ18 h18 => ?_)
    obtain ⟨rfl, rfl⟩ := h18
    refine r_ifb_ne 31 C dX10_place_21 (by decide) (fun h21 => ?_) (fun h21 => ?_)
    · refine r_aload_n C dX10_place_31 rfl ?_
      refine r_iload_n C dX10_place_32 rfl ?_
      refine r_cvi (c := 1) C dX10_place_33 mv_X10_157 (c_X10_findFit e l _ _ A hR hA (by omega)) (by decide) rfl rfl rfl rfl (by decide) rfl rfl (Nat.le_of_ble_eq_true rfl) (fun z33 σ33 h33 => ?_)
      obtain ⟨hR33, f1, f2, f3, f4⟩ := h33
      refine r_if_ne 46 C dX10_place_36 (by decide) (by omega) (fun h36 => ?_) (fun h36 => ?_)
      · refine r_iload_n C dX10_place_46 rfl ?_
        refine r_if_eq 62 C dX10_place_47 (by decide) (by omega) (fun h47 => ?_) (fun h47 => ?_)
        · refine r_aload_n C dX10_place_62 rfl ?_
          refine r_get_r (c := 1) C dX10_place_63 fl_X10_51 rfl rfl rfl (by decide) rfl ?_
          refine r_get_r (c := 1) C dX10_place_66 fl_X10_166 rfl rfl rfl (by decide) rfl ?_
          refine r_iload_n C dX10_place_69 rfl ?_
          refine r_iald (c := 1) (N := 8) C dX10_place_70 rfl rfl (by decide) (by omega) ?_
          have b70 := hR33.1.1 34 0 i (by omega) (by omega)
          refine r_iret C dX10_place_71 ?_
          have e1 : oPlace w i k A = (if k = 0 then (fitBL A w).1 i else (fitBL A w).2 i, A) := by unfold oPlace; repeat (first | rw [if_pos (by omega)] | rw [if_neg (by omega)])
          have f5 : ∀ j, 0 ≤ j → j < mA A w → σ33 34 0 j = (fitBL A w).1 j ∧ σ33 35 0 j = (fitBL A w).2 j := by rcases f4 with q | q; exact absurd q.1 (by omega); exact q.2.2
          have f6 := f5 i (by omega) (by omega)
          exact ⟨_, rfl, by rw [e1]; first | (rw [if_pos h47]; exact f6.1) | (rw [if_neg h47]; exact f6.2), by rw [e1]; exact hR33⟩
        · refine r_aload_n C dX10_place_50 rfl ?_
          refine r_get_r (c := 1) C dX10_place_51 fl_X10_51 rfl rfl rfl (by decide) rfl ?_
          refine r_get_r (c := 1) C dX10_place_54 fl_X10_163 rfl rfl rfl (by decide) rfl ?_
          refine r_iload_n C dX10_place_57 rfl ?_
          refine r_iald (c := 1) (N := 8) C dX10_place_58 rfl rfl (by decide) (by omega) ?_
          have b58 := hR33.1.1 35 0 i (by omega) (by omega)
          refine r_goto 71 C dX10_place_59 (by decide) ?_
          refine r_iret C dX10_place_71 ?_
          have e1 : oPlace w i k A = (if k = 0 then (fitBL A w).1 i else (fitBL A w).2 i, A) := by unfold oPlace; repeat (first | rw [if_pos (by omega)] | rw [if_neg (by omega)])
          have f5 : ∀ j, 0 ≤ j → j < mA A w → σ33 34 0 j = (fitBL A w).1 j ∧ σ33 35 0 j = (fitBL A w).2 j := by rcases f4 with q | q; exact absurd q.1 (by omega); exact q.2.2
          have f6 := f5 i (by omega) (by omega)
          exact ⟨_, rfl, by rw [e1]; first | (rw [if_pos h47]; exact f6.1) | (rw [if_neg h47]; exact f6.2), by rw [e1]; exact hR33⟩
      · refine r_aload_n C dX10_place_39 rfl ?_
        refine r_ldc C dX10_place_40 kc_X10_135 ?_
        refine r_cvi (c := 1) C dX10_place_42 mv_X10_91 (c_X10_finding e l _ _) (by decide) rfl rfl rfl rfl (by decide) rfl rfl (Nat.le_of_ble_eq_true rfl) (fun z42 σ42 h42 => ?_)
        obtain ⟨rfl, rfl⟩ := h42
        refine r_iret C dX10_place_45 ?_
        have e1 : oPlace w i k A = fnd A (-100006) := by unfold oPlace; repeat (first | rw [if_pos (by omega)] | rw [if_neg (by omega)])
        exact ⟨_, rfl, by rw [e1]; rfl, by rw [e1]; exact rel_fnd hR33 _⟩
    · refine r_aload_n C dX10_place_24 rfl ?_
      refine r_ldc C dX10_place_25 kc_X10_90 ?_
      refine r_cvi (c := 1) C dX10_place_27 mv_X10_91 (c_X10_finding e l _ _) (by decide) rfl rfl rfl rfl (by decide) rfl rfl (Nat.le_of_ble_eq_true rfl) (fun z27 σ27 h27 => ?_)
      obtain ⟨rfl, rfl⟩ := h27
      refine r_iret C dX10_place_30 ?_
      have e1 : oPlace w i k A = fnd A (-100001) := by unfold oPlace; repeat (first | rw [if_pos (by omega)] | rw [if_neg (by omega)])
      exact ⟨_, rfl, by rw [e1]; rfl, by rw [e1]; exact rel_fnd hR _⟩
set_option maxRecDepth 20000 in
theorem o_on (e : qR) (l : Launch) (σ : qSt) (w i : Int) (A : aSt) (hR : RelD σ A) (hA : AOk A) (h_w : InI w) (h_i : InI i)  : CM (ED e) l yX10_on cX10_on 3 (some .int) 20 [qr 0 0, qi w, qi i] σ (Ri fun z σ' => z = (oOn w i A).1 ∧ RelD σ' (oOn w i A).2) := by
  refine CM.mk tD_ok (by decide +kernel) (Nat.le_of_ble_eq_true rfl) (fun G C => ?_)
  show G σ 0 [some (qr 0 0), some (qi w), some (qi i)] []
  obtain ⟨hb, e10, n10, m10, e11, n11, m11, e5, n5, m5, e4, n4, m4, h381, h382, h383, h384⟩ := dF hR hA
  refine r_aload_n C dX10_on_0 rfl ?_
  refine r_iload_n C dX10_on_1 rfl ?_
  refine r_cvi (c := 1) C dX10_on_2 mv_X10_117 (c_X10_isWording e l _ _ hb (by omega)) (by decide) rfl rfl rfl rfl (by decide) rfl rfl (Nat.le_of_ble_eq_true rfl) (fun z2 σ2 h2 => ?_)
  obtain ⟨rfl, rfl⟩ := h2
  refine r_ifb_eq 32 C dX10_on_5 (by decide) (fun h5 => ?_) (fun h5 => ?_)
  · refine r_aload_n C dX10_on_32 rfl ?_
    refine r_ldc C dX10_on_33 kc_X10_90 ?_
    refine r_cvi (c := 1) C dX10_on_35 mv_X10_91 (c_X10_finding e l _ _) (by decide) rfl rfl rfl rfl (by decide) rfl rfl (Nat.le_of_ble_eq_true rfl) (fun z35 σ35 h35 => ?_)
    obtain ⟨rfl, rfl⟩ := h35
    refine r_iret C dX10_on_38 ?_
    have e1 : oOn w i A = fnd A (-100001) := by unfold oOn; repeat (first | rw [if_pos (by omega)] | rw [if_neg (by omega)])
    exact ⟨_, rfl, by rw [e1]; rfl, by rw [e1]; exact rel_fnd hR _⟩
  · have wf := wd_f hR hA (x := w) (by omega)
    have hmA : mA A w = ((wdAt A w).2.2.2.length : Int) := rfl
    have hnA : nA A w = ((lnAt A (wdAt A w).1).2.length : Int) := rfl
    have lf := ln_f hR hA (x := (wdAt A w).1) ⟨wf.2.2.2.2.2.1, wf.2.2.2.2.2.2.1⟩
    rw [← wf.1] at lf hnA
    refine r_iload_n C dX10_on_8 rfl ?_
    refine r_aload_n C dX10_on_9 rfl ?_
    refine r_get_r (c := 1) C dX10_on_10 fl_X10_11 rfl rfl rfl (by decide) rfl ?_
    refine r_aload_n C dX10_on_13 rfl ?_
    refine r_get_r (c := 1) C dX10_on_14 fl_X10_17 rfl rfl rfl (by decide) rfl ?_
    refine r_iload_n C dX10_on_17 rfl ?_
    refine r_aald (c := 1) (N := 20) C dX10_on_18 rfl (by decide) rfl (by decide) (by omega) rfl ?_
    refine r_get_i (c := 20) 4 C dX10_on_19 fl_X10_142 rfl rfl rfl rfl (by omega) ?_
    have b19 := hb 105 w 4 (by omega) (by omega)
    refine r_aald (c := 1) (N := 12) C dX10_on_22 rfl (by decide) rfl (by decide) (by omega) rfl ?_
    refine r_get_i (c := 12) 2 C dX10_on_23 fl_X10_108 rfl rfl rfl rfl (by omega) ?_
    have b23 := hb 81 (σ 105 w 4) 2 (by omega) (by omega)
    refine r_csi C dX10_on_26 ms_X10_86 (c_X10_within e l _ _ _ (by omega) (by omega)) (by decide) rfl rfl (Nat.le_of_ble_eq_true rfl) (fun z26 σ26 h26 => ?_)
    obtain ⟨rfl, rfl⟩ := h26
    refine r_ifb_ne 39 C dX10_on_29 (by decide) (fun h29 => ?_) (fun h29 => ?_)
    · refine r_aload_n C dX10_on_39 rfl ?_
      refine r_iload_n C dX10_on_40 rfl ?_
      refine r_cvi (c := 1) C dX10_on_41 mv_X10_157 (c_X10_findFit e l _ _ A hR hA (by omega)) (by decide) rfl rfl rfl rfl (by decide) rfl rfl (Nat.le_of_ble_eq_true rfl) (fun z41 σ41 h41 => ?_)
      obtain ⟨hR41, f1, f2, f3, f4⟩ := h41
      refine r_if_ne 54 C dX10_on_44 (by decide) (by omega) (fun h44 => ?_) (fun h44 => ?_)
      · refine r_aload_n C dX10_on_54 rfl ?_
        refine r_get_r (c := 1) C dX10_on_55 fl_X10_51 rfl rfl rfl (by decide) rfl ?_
        refine r_iload_n C dX10_on_58 rfl ?_
        refine r_cvi (c := 1) C dX10_on_59 mv_X10_169 (c_X2_syllableOn e l _ _ hR41.1.1 (by rw [f2]; have : mA A w = ((wdAt A w).2.2.2.length : Int) := rfl; omega) (by omega)) (by decide) rfl rfl rfl rfl (by decide) rfl rfl (Nat.le_of_ble_eq_true rfl) (fun z59 σ59 h59 => ?_)
        obtain ⟨rfl, rfl⟩ := h59
        refine r_iret C dX10_on_62 ?_
        have e1 : oOn w i A = (onF (fitBL A w).1 (fitBL A w).2 i (wdAt A w).2.2.2.length, A) := by unfold oOn; repeat (first | rw [if_pos (by omega)] | rw [if_neg (by omega)])
        have f5 : ∀ j, 0 ≤ j → j < mA A w → σ41 34 0 j = (fitBL A w).1 j ∧ σ41 35 0 j = (fitBL A w).2 j := by rcases f4 with q | q; exact absurd q.1 (by omega); exact q.2.2
        exact ⟨_, rfl, by rw [e1, f2, show (mA A w).toNat = (wdAt A w).2.2.2.length by show ((wdAt A w).2.2.2.length : Int).toNat = _; simp]; exact onF_cg _ (fun j q => f5 j (by omega) (by show (j : Int) < ((wdAt A w).2.2.2.length : Int); omega)), by rw [e1]; exact hR41⟩
      · refine r_aload_n C dX10_on_47 rfl ?_
        refine r_ldc C dX10_on_48 kc_X10_135 ?_
        refine r_cvi (c := 1) C dX10_on_50 mv_X10_91 (c_X10_finding e l _ _) (by decide) rfl rfl rfl rfl (by decide) rfl rfl (Nat.le_of_ble_eq_true rfl) (fun z50 σ50 h50 => ?_)
        obtain ⟨rfl, rfl⟩ := h50
        refine r_iret C dX10_on_53 ?_
        have e1 : oOn w i A = fnd A (-100006) := by unfold oOn; repeat (first | rw [if_pos (by omega)] | rw [if_neg (by omega)])
        exact ⟨_, rfl, by rw [e1]; rfl, by rw [e1]; exact rel_fnd hR41 _⟩
    · refine r_aload_n C dX10_on_32 rfl ?_
      refine r_ldc C dX10_on_33 kc_X10_90 ?_
      refine r_cvi (c := 1) C dX10_on_35 mv_X10_91 (c_X10_finding e l _ _) (by decide) rfl rfl rfl rfl (by decide) rfl rfl (Nat.le_of_ble_eq_true rfl) (fun z35 σ35 h35 => ?_)
      obtain ⟨rfl, rfl⟩ := h35
      refine r_iret C dX10_on_38 ?_
      have e1 : oOn w i A = fnd A (-100001) := by unfold oOn; repeat (first | rw [if_pos (by omega)] | rw [if_neg (by omega)])
      exact ⟨_, rfl, by rw [e1]; rfl, by rw [e1]; exact rel_fnd hR _⟩
set_option maxRecDepth 20000 in
theorem o_barred (e : qR) (l : Launch) (σ : qSt) (a x d : Int) (A : aSt) (hR : RelD σ A) (hA : AOk A) (h_a : InI a) (h_x : InI x) (h_d : InI d)  : CM (ED e) l yX10_barred cX10_barred 4 (some .int) 20 [qr 0 0, qi a, qi x, qi d] σ (Ri fun z σ' => z = (oBarred a x d A).1 ∧ RelD σ' (oBarred a x d A).2) := by
  refine CM.mk tD_ok (by decide +kernel) (Nat.le_of_ble_eq_true rfl) (fun G C => ?_)
  show G σ 0 [some (qr 0 0), some (qi a), some (qi x), some (qi d)] []
  obtain ⟨hb, e10, n10, m10, e11, n11, m11, e5, n5, m5, e4, n4, m4, h381, h382, h383, h384⟩ := dF hR hA
  refine r_iload_n C dX10_barred_0 rfl ?_
  refine r_iconst C dX10_barred_1 ?_
  refine r_csi C dX10_barred_2 ms_X10_86 (c_X10_within e l _ _ _ (by omega) (by omega)) (by decide) rfl rfl (Nat.le_of_ble_eq_true rfl) (fun z2 σ2 h2 => ?_)
  obtain ⟨rfl, rfl⟩ := h2
  refine r_ifb_eq 27 C dX10_barred_5 (by decide) (fun h5 => ?_) (fun h5 => ?_)
  · refine r_aload_n C dX10_barred_27 rfl ?_
    refine r_ldc C dX10_barred_28 kc_X10_90 ?_
    refine r_cvi (c := 1) C dX10_barred_30 mv_X10_91 (c_X10_finding e l _ _) (by decide) rfl rfl rfl rfl (by decide) rfl rfl (Nat.le_of_ble_eq_true rfl) (fun z30 σ30 h30 => ?_)
    obtain ⟨rfl, rfl⟩ := h30
    refine r_iret C dX10_barred_33 ?_
    have e1 : oBarred a x d A = fnd A (-100001) := by unfold oBarred; repeat (first | rw [if_pos (by omega)] | rw [if_neg (by omega)])
    exact ⟨_, rfl, by rw [e1]; rfl, by rw [e1]; exact rel_fnd hR _⟩
  · refine r_iload_n C dX10_barred_8 rfl ?_
    refine r_bipush C dX10_barred_9 ?_
    refine r_csi C dX10_barred_11 ms_X10_86 (c_X10_within e l _ _ _ (by omega) (by omega)) (by decide) rfl rfl (Nat.le_of_ble_eq_true rfl) (fun z11 σ11 h11 => ?_)
    obtain ⟨rfl, rfl⟩ := h11
    refine r_ifb_eq 27 C dX10_barred_14 (by decide) (fun h14 => ?_) (fun h14 => ?_)
    · refine r_aload_n C dX10_barred_27 rfl ?_
      refine r_ldc C dX10_barred_28 kc_X10_90 ?_
      refine r_cvi (c := 1) C dX10_barred_30 mv_X10_91 (c_X10_finding e l _ _) (by decide) rfl rfl rfl rfl (by decide) rfl rfl (Nat.le_of_ble_eq_true rfl) (fun z30 σ30 h30 => ?_)
      obtain ⟨rfl, rfl⟩ := h30
      refine r_iret C dX10_barred_33 ?_
      have e1 : oBarred a x d A = fnd A (-100001) := by unfold oBarred; repeat (first | rw [if_pos (by omega)] | rw [if_neg (by omega)])
      exact ⟨_, rfl, by rw [e1]; rfl, by rw [e1]; exact rel_fnd hR _⟩
    · refine r_iload_n C dX10_barred_17 rfl ?_
      refine r_sipush C dX10_barred_18 ?_
      refine r_csi C dX10_barred_21 ms_X10_86 (c_X10_within e l _ _ _ (by omega) (by omega)) (by decide) rfl rfl (Nat.le_of_ble_eq_true rfl) (fun z21 σ21 h21 => ?_)
      obtain ⟨rfl, rfl⟩ := h21
      refine r_ifb_ne 34 C dX10_barred_24 (by decide) (fun h24 => ?_) (fun h24 => ?_)
      · refine r_aload_n C dX10_barred_34 rfl ?_
        refine r_get_r (c := 1) C dX10_barred_35 fl_X10_30 rfl rfl rfl (by decide) rfl ?_
        refine r_iload_n C dX10_barred_38 rfl ?_
        refine r_iload_n C dX10_barred_39 rfl ?_
        refine r_iload_n C dX10_barred_40 rfl ?_
        refine r_cvi (c := 1) C dX10_barred_41 mv_X10_182 (c_isBarred e l _ _ _ _ hb (by omega) (by omega) (by omega) (by omega)) (by decide) rfl rfl rfl rfl (by decide) rfl rfl (Nat.le_of_ble_eq_true rfl) (fun z41 σ41 h41 => ?_)
        obtain ⟨rfl, rfl⟩ := h41
        refine r_ifb_eq 51 C dX10_barred_44 (by decide) (fun h44 => ?_) (fun h44 => ?_)
        · refine r_iconst C dX10_barred_51 ?_
          refine r_iret C dX10_barred_52 ?_
          have e1 : oBarred a x d A = (if barA A a x d = true then 1 else 0, A) := by unfold oBarred; repeat (first | rw [if_pos (by omega)] | rw [if_neg (by omega)])
          rw [← rel_bar hR] at e1
          exact ⟨_, rfl, by rw [e1]; first | (rw [if_pos h44]) | (rw [if_neg h44]), by rw [e1]; exact hR⟩
        · refine r_iconst C dX10_barred_47 ?_
          refine r_goto 52 C dX10_barred_48 (by decide) ?_
          refine r_iret C dX10_barred_52 ?_
          have e1 : oBarred a x d A = (if barA A a x d = true then 1 else 0, A) := by unfold oBarred; repeat (first | rw [if_pos (by omega)] | rw [if_neg (by omega)])
          rw [← rel_bar hR] at e1
          exact ⟨_, rfl, by rw [e1]; first | (rw [if_pos h44]) | (rw [if_neg h44]), by rw [e1]; exact hR⟩
      · refine r_aload_n C dX10_barred_27 rfl ?_
        refine r_ldc C dX10_barred_28 kc_X10_90 ?_
        refine r_cvi (c := 1) C dX10_barred_30 mv_X10_91 (c_X10_finding e l _ _) (by decide) rfl rfl rfl rfl (by decide) rfl rfl (Nat.le_of_ble_eq_true rfl) (fun z30 σ30 h30 => ?_)
        obtain ⟨rfl, rfl⟩ := h30
        refine r_iret C dX10_barred_33 ?_
        have e1 : oBarred a x d A = fnd A (-100001) := by unfold oBarred; repeat (first | rw [if_pos (by omega)] | rw [if_neg (by omega)])
        exact ⟨_, rfl, by rw [e1]; rfl, by rw [e1]; exact rel_fnd hR _⟩
set_option maxRecDepth 20000 in
theorem o_chosen (e : qR) (l : Launch) (σ : qSt) (a x d : Int) (A : aSt) (hR : RelD σ A) (hA : AOk A) (h_a : InI a) (h_x : InI x) (h_d : InI d)  : CM (ED e) l yX10_chosen cX10_chosen 5 (some .int) 20 [qr 0 0, qi a, qi x, qi d] σ (Ri fun z σ' => z = (oChosen a x d A).1 ∧ RelD σ' (oChosen a x d A).2) := by
  refine CM.mk tD_ok (by decide +kernel) (Nat.le_of_ble_eq_true rfl) (fun G C => ?_)
  show G σ 0 [some (qr 0 0), some (qi a), some (qi x), some (qi d), none] []
  obtain ⟨hb, e10, n10, m10, e11, n11, m11, e5, n5, m5, e4, n4, m4, h381, h382, h383, h384⟩ := dF hR hA
  refine r_iload_n C dX10_chosen_0 rfl ?_
  refine r_iconst C dX10_chosen_1 ?_
  refine r_csi C dX10_chosen_2 ms_X10_86 (c_X10_within e l _ _ _ (by omega) (by omega)) (by decide) rfl rfl (Nat.le_of_ble_eq_true rfl) (fun z2 σ2 h2 => ?_)
  obtain ⟨rfl, rfl⟩ := h2
  refine r_ifb_eq 27 C dX10_chosen_5 (by decide) (fun h5 => ?_) (fun h5 => ?_)
  · refine r_aload_n C dX10_chosen_27 rfl ?_
    refine r_ldc C dX10_chosen_28 kc_X10_90 ?_
    refine r_cvi (c := 1) C dX10_chosen_30 mv_X10_91 (c_X10_finding e l _ _) (by decide) rfl rfl rfl rfl (by decide) rfl rfl (Nat.le_of_ble_eq_true rfl) (fun z30 σ30 h30 => ?_)
    obtain ⟨rfl, rfl⟩ := h30
    refine r_iret C dX10_chosen_33 ?_
    have e1 : oChosen a x d A = fnd A (-100001) := by unfold oChosen; repeat (first | rw [if_pos (by omega)] | rw [if_neg (by omega)])
    exact ⟨_, rfl, by rw [e1]; rfl, by rw [e1]; exact rel_fnd hR _⟩
  · refine r_iload_n C dX10_chosen_8 rfl ?_
    refine r_bipush C dX10_chosen_9 ?_
    refine r_csi C dX10_chosen_11 ms_X10_86 (c_X10_within e l _ _ _ (by omega) (by omega)) (by decide) rfl rfl (Nat.le_of_ble_eq_true rfl) (fun z11 σ11 h11 => ?_)
    obtain ⟨rfl, rfl⟩ := h11
    refine r_ifb_eq 27 C dX10_chosen_14 (by decide) (fun h14 => ?_) (fun h14 => ?_)
    · refine r_aload_n C dX10_chosen_27 rfl ?_
      refine r_ldc C dX10_chosen_28 kc_X10_90 ?_
      refine r_cvi (c := 1) C dX10_chosen_30 mv_X10_91 (c_X10_finding e l _ _) (by decide) rfl rfl rfl rfl (by decide) rfl rfl (Nat.le_of_ble_eq_true rfl) (fun z30 σ30 h30 => ?_)
      obtain ⟨rfl, rfl⟩ := h30
      refine r_iret C dX10_chosen_33 ?_
      have e1 : oChosen a x d A = fnd A (-100001) := by unfold oChosen; repeat (first | rw [if_pos (by omega)] | rw [if_neg (by omega)])
      exact ⟨_, rfl, by rw [e1]; rfl, by rw [e1]; exact rel_fnd hR _⟩
    · refine r_iload_n C dX10_chosen_17 rfl ?_
      refine r_sipush C dX10_chosen_18 ?_
      refine r_csi C dX10_chosen_21 ms_X10_86 (c_X10_within e l _ _ _ (by omega) (by omega)) (by decide) rfl rfl (Nat.le_of_ble_eq_true rfl) (fun z21 σ21 h21 => ?_)
      obtain ⟨rfl, rfl⟩ := h21
      refine r_ifb_ne 34 C dX10_chosen_24 (by decide) (fun h24 => ?_) (fun h24 => ?_)
      · refine r_aload_n C dX10_chosen_34 rfl ?_
        refine r_get_r (c := 1) C dX10_chosen_35 fl_X10_30 rfl rfl rfl (by decide) rfl ?_
        refine r_iload_n C dX10_chosen_38 rfl ?_
        refine r_iload_n C dX10_chosen_39 rfl ?_
        refine r_iload_n C dX10_chosen_40 rfl ?_
        refine r_cvi (c := 1) C dX10_chosen_41 mv_X10_186 (c_X4_choiceFor e l _ _ _ _ hb (by omega) hR.1.2.2.2.2.2 (by omega) (by omega) (by omega)) (by decide) rfl rfl rfl rfl (by decide) rfl rfl (Nat.le_of_ble_eq_true rfl) (fun z41 σ41 h41 => ?_)
        obtain ⟨hz1, rfl⟩ := h41
        have hzr : InI z41 := by
          rw [hz1]
          unfold choF
          split
          · omega
          · have := hb 8 0 (inF (σ 6 0) (σ 9 0) (qCho (σ 7 0) (σ 8 0) (σ 5 0) x) a d (σ 4 0 5).toNat) (by omega) (by omega); omega
        rw [rel_cho hR hA] at hz1
        refine r_istore C dX10_chosen_44 rfl rfl (by decide) ?_
        refine r_iload C dX10_chosen_46 rfl ?_
        refine r_if_ge 60 C dX10_chosen_48 (by decide) (by omega) (fun h48 => ?_) (fun h48 => ?_)
        · refine r_iload C dX10_chosen_60 rfl ?_
          refine r_iret C dX10_chosen_62 ?_
          first
          | (have e1 : oChosen a x d A = fnd A (-100006) := by unfold oChosen; repeat (first | rw [if_pos (by omega)] | rw [if_neg (by omega)])
             exact ⟨_, rfl, by rw [e1]; rfl, by rw [e1]; exact rel_fnd hR _⟩)
          | (have e1 : oChosen a x d A = (choA A a x d, A) := by unfold oChosen; repeat (first | rw [if_pos (by omega)] | rw [if_neg (by omega)])
             exact ⟨_, rfl, by rw [e1]; exact hz1, by rw [e1]; exact hR⟩)
        · refine r_aload_n C dX10_chosen_51 rfl ?_
          refine r_ldc C dX10_chosen_52 kc_X10_135 ?_
          refine r_cvi (c := 1) C dX10_chosen_54 mv_X10_91 (c_X10_finding e l _ _) (by decide) rfl rfl rfl rfl (by decide) rfl rfl (Nat.le_of_ble_eq_true rfl) (fun z54 σ54 h54 => ?_)
          obtain ⟨rfl, rfl⟩ := h54
          refine r_goto 62 C dX10_chosen_57 (by decide) ?_
          refine r_iret C dX10_chosen_62 ?_
          first
          | (have e1 : oChosen a x d A = fnd A (-100006) := by unfold oChosen; repeat (first | rw [if_pos (by omega)] | rw [if_neg (by omega)])
             exact ⟨_, rfl, by rw [e1]; rfl, by rw [e1]; exact rel_fnd hR _⟩)
          | (have e1 : oChosen a x d A = (choA A a x d, A) := by unfold oChosen; repeat (first | rw [if_pos (by omega)] | rw [if_neg (by omega)])
             exact ⟨_, rfl, by rw [e1]; exact hz1, by rw [e1]; exact hR⟩)
      · refine r_aload_n C dX10_chosen_27 rfl ?_
        refine r_ldc C dX10_chosen_28 kc_X10_90 ?_
        refine r_cvi (c := 1) C dX10_chosen_30 mv_X10_91 (c_X10_finding e l _ _) (by decide) rfl rfl rfl rfl (by decide) rfl rfl (Nat.le_of_ble_eq_true rfl) (fun z30 σ30 h30 => ?_)
        obtain ⟨rfl, rfl⟩ := h30
        refine r_iret C dX10_chosen_33 ?_
        have e1 : oChosen a x d A = fnd A (-100001) := by unfold oChosen; repeat (first | rw [if_pos (by omega)] | rw [if_neg (by omega)])
        exact ⟨_, rfl, by rw [e1]; rfl, by rw [e1]; exact rel_fnd hR _⟩
set_option maxRecDepth 20000 in
theorem o_lawful (e : qR) (l : Launch) (σ : qSt) (w a d : Int) (A : aSt) (hR : RelD σ A) (hA : AOk A) (h_w : InI w) (h_a : InI a) (h_d : InI d)  : CM (ED e) l yX10_lawful cX10_lawful 4 (some .int) 20 [qr 0 0, qi w, qi a, qi d] σ (Ri fun z σ' => z = (oLawful w a d A).1 ∧ RelD σ' (oLawful w a d A).2) := by
  refine CM.mk tD_ok (by decide +kernel) (Nat.le_of_ble_eq_true rfl) (fun G C => ?_)
  show G σ 0 [some (qr 0 0), some (qi w), some (qi a), some (qi d)] []
  obtain ⟨hb, e10, n10, m10, e11, n11, m11, e5, n5, m5, e4, n4, m4, h381, h382, h383, h384⟩ := dF hR hA
  refine r_aload_n C dX10_lawful_0 rfl ?_
  refine r_iload_n C dX10_lawful_1 rfl ?_
  refine r_cvi (c := 1) C dX10_lawful_2 mv_X10_117 (c_X10_isWording e l _ _ hb (by omega)) (by decide) rfl rfl rfl rfl (by decide) rfl rfl (Nat.le_of_ble_eq_true rfl) (fun z2 σ2 h2 => ?_)
  obtain ⟨rfl, rfl⟩ := h2
  refine r_ifb_eq 26 C dX10_lawful_5 (by decide) (fun h5 => ?_) (fun h5 => ?_)
  · refine r_aload_n C dX10_lawful_26 rfl ?_
    refine r_ldc C dX10_lawful_27 kc_X10_90 ?_
    refine r_cvi (c := 1) C dX10_lawful_29 mv_X10_91 (c_X10_finding e l _ _) (by decide) rfl rfl rfl rfl (by decide) rfl rfl (Nat.le_of_ble_eq_true rfl) (fun z29 σ29 h29 => ?_)
    obtain ⟨rfl, rfl⟩ := h29
    refine r_iret C dX10_lawful_32 ?_
    have e1 : oLawful w a d A = fnd A (-100001) := by unfold oLawful; repeat (first | rw [if_pos (by omega)] | rw [if_neg (by omega)])
    exact ⟨_, rfl, by rw [e1]; rfl, by rw [e1]; exact rel_fnd hR _⟩
  · refine r_iload_n C dX10_lawful_8 rfl ?_
    refine r_iconst C dX10_lawful_9 ?_
    refine r_csi C dX10_lawful_10 ms_X10_86 (c_X10_within e l _ _ _ (by omega) (by omega)) (by decide) rfl rfl (Nat.le_of_ble_eq_true rfl) (fun z10 σ10 h10 => ?_)
    obtain ⟨rfl, rfl⟩ := h10
    refine r_ifb_eq 26 C dX10_lawful_13 (by decide) (fun h13 => ?_) (fun h13 => ?_)
    · refine r_aload_n C dX10_lawful_26 rfl ?_
      refine r_ldc C dX10_lawful_27 kc_X10_90 ?_
      refine r_cvi (c := 1) C dX10_lawful_29 mv_X10_91 (c_X10_finding e l _ _) (by decide) rfl rfl rfl rfl (by decide) rfl rfl (Nat.le_of_ble_eq_true rfl) (fun z29 σ29 h29 => ?_)
      obtain ⟨rfl, rfl⟩ := h29
      refine r_iret C dX10_lawful_32 ?_
      have e1 : oLawful w a d A = fnd A (-100001) := by unfold oLawful; repeat (first | rw [if_pos (by omega)] | rw [if_neg (by omega)])
      exact ⟨_, rfl, by rw [e1]; rfl, by rw [e1]; exact rel_fnd hR _⟩
    · refine r_iload_n C dX10_lawful_16 rfl ?_
      refine r_sipush C dX10_lawful_17 ?_
      refine r_csi C dX10_lawful_20 ms_X10_86 (c_X10_within e l _ _ _ (by omega) (by omega)) (by decide) rfl rfl (Nat.le_of_ble_eq_true rfl) (fun z20 σ20 h20 => ?_)
      obtain ⟨rfl, rfl⟩ := h20
      refine r_ifb_ne 33 C dX10_lawful_23 (by decide) (fun h23 => ?_) (fun h23 => ?_)
      · have wf := wd_f hR hA (x := w) (by omega)
        refine r_aload_n C dX10_lawful_33 rfl ?_
        refine r_get_r (c := 1) C dX10_lawful_34 fl_X10_30 rfl rfl rfl (by decide) rfl ?_
        refine r_aload_n C dX10_lawful_37 rfl ?_
        refine r_get_r (c := 1) C dX10_lawful_38 fl_X10_17 rfl rfl rfl (by decide) rfl ?_
        refine r_iload_n C dX10_lawful_41 rfl ?_
        refine r_aald (c := 1) (N := 20) C dX10_lawful_42 rfl (by decide) rfl (by decide) (by omega) rfl ?_
        refine r_iload_n C dX10_lawful_43 rfl ?_
        refine r_iload_n C dX10_lawful_44 rfl ?_
        refine r_cvi (c := 1) C dX10_lawful_45 mv_X10_190 (c_X4_allows e l _ _ _ _ hb (by omega) hR.1.2.2.2.2.2 (by omega) (by omega) (by omega) (by omega) (fun t q1 q2 => by have := hR.1.2.2.2.2.1 w t (by omega) (by omega) q1 q2; omega)) (by decide) rfl rfl rfl rfl (by decide) rfl rfl (Nat.le_of_ble_eq_true rfl) (fun z45 σ45 h45 => ?_)
        obtain ⟨rfl, rfl⟩ := h45
        refine r_ifb_eq 55 C dX10_lawful_48 (by decide) (fun h48 => ?_) (fun h48 => ?_)
        · refine r_iconst C dX10_lawful_55 ?_
          refine r_iret C dX10_lawful_56 ?_
          have e1 : oLawful w a d A = (if lawA A w a d = true then 1 else 0, A) := by unfold oLawful; repeat (first | rw [if_pos (by omega)] | rw [if_neg (by omega)])
          rw [← rel_law hR hA (w := w) (by omega)] at e1
          exact ⟨_, rfl, by rw [e1]; first | (rw [if_pos h48]) | (rw [if_neg h48]), by rw [e1]; exact hR⟩
        · refine r_iconst C dX10_lawful_51 ?_
          refine r_goto 56 C dX10_lawful_52 (by decide) ?_
          refine r_iret C dX10_lawful_56 ?_
          have e1 : oLawful w a d A = (if lawA A w a d = true then 1 else 0, A) := by unfold oLawful; repeat (first | rw [if_pos (by omega)] | rw [if_neg (by omega)])
          rw [← rel_law hR hA (w := w) (by omega)] at e1
          exact ⟨_, rfl, by rw [e1]; first | (rw [if_pos h48]) | (rw [if_neg h48]), by rw [e1]; exact hR⟩
      · refine r_aload_n C dX10_lawful_26 rfl ?_
        refine r_ldc C dX10_lawful_27 kc_X10_90 ?_
        refine r_cvi (c := 1) C dX10_lawful_29 mv_X10_91 (c_X10_finding e l _ _) (by decide) rfl rfl rfl rfl (by decide) rfl rfl (Nat.le_of_ble_eq_true rfl) (fun z29 σ29 h29 => ?_)
        obtain ⟨rfl, rfl⟩ := h29
        refine r_iret C dX10_lawful_32 ?_
        have e1 : oLawful w a d A = fnd A (-100001) := by unfold oLawful; repeat (first | rw [if_pos (by omega)] | rw [if_neg (by omega)])
        exact ⟨_, rfl, by rw [e1]; rfl, by rw [e1]; exact rel_fnd hR _⟩
set_option maxRecDepth 20000 in
theorem o_plan (e : qR) (l : Launch) (σ : qSt) (A : aSt) (hR : RelD σ A) (hA : AOk A)   : CM (ED e) l yX10_plan cX10_plan 1 (some .int) 20 [qr 0 0] σ (Ri fun z σ' => z = (oPlan A).1 ∧ RelD σ' (oPlan A).2) := by
  refine CM.mk tD_ok (by decide +kernel) (Nat.le_of_ble_eq_true rfl) (fun G C => ?_)
  show G σ 0 [some (qr 0 0)] []
  obtain ⟨hb, e10, n10, m10, e11, n11, m11, e5, n5, m5, e4, n4, m4, h381, h382, h383, h384⟩ := dF hR hA
  refine r_aload_n C dX10_plan_0 rfl ?_
  refine r_get_r (c := 1) C dX10_plan_1 fl_X10_44 rfl rfl rfl (by decide) rfl ?_
  refine r_aload_n C dX10_plan_4 rfl ?_
  refine r_get_r (c := 1) C dX10_plan_5 fl_X10_37 rfl rfl rfl (by decide) rfl ?_
  refine r_aload_n C dX10_plan_8 rfl ?_
  refine r_get_r (c := 1) C dX10_plan_9 fl_X10_11 rfl rfl rfl (by decide) rfl ?_
  refine r_cvv (c := 1) C dX10_plan_12 mv_X10_218 (c_X7_seekPlans e l _ hb hR.1.2.1 (by omega) hR.1.2.2.1 (sk_hyp hR hA).1 (sk_hyp hR hA).2.1 hR.1.2.2.2.1 (sk_hyp hR hA).2.2 hR.2.1) (by decide) rfl rfl rfl rfl (by decide) rfl rfl (Nat.le_of_ble_eq_true rfl) (fun σ12 h12 => ?_)
  obtain ⟨hR12, f1, f2, f3⟩ := pln_of hR hA h12
  refine r_aload_n C dX10_plan_15 rfl ?_
  refine r_get_r (c := 1) C dX10_plan_16 fl_X10_44 rfl rfl rfl (by decide) rfl ?_
  refine r_get_i (c := 1) 8 C dX10_plan_19 fl_X10_222 rfl rfl rfl rfl (by decide) ?_
  have b19 := hR12.1.1 15 0 8 (by omega) (by omega)
  refine r_if_ne 34 C dX10_plan_22 (by decide) (by omega) (fun h22 => ?_) (fun h22 => ?_)
  · refine r_aload_n C dX10_plan_34 rfl ?_
    refine r_get_r (c := 1) C dX10_plan_35 fl_X10_44 rfl rfl rfl (by decide) rfl ?_
    refine r_get_i (c := 1) 7 C dX10_plan_38 fl_X10_225 rfl rfl rfl rfl (by decide) ?_
    have b38 := hR12.1.1 15 0 7 (by omega) (by omega)
    refine r_iret C dX10_plan_41 ?_
    first
    | (have e1 : oPlan A = fnd A (-100006) := by unfold oPlan; repeat (first | rw [if_pos (by omega)] | rw [if_neg (by omega)])
       exact ⟨_, rfl, by rw [e1]; rfl, by rw [e1]; exact rel_fnd hR12 _⟩)
    | (have e1 : oPlan A = ((plRA A).1, A) := by unfold oPlan; repeat (first | rw [if_pos (by omega)] | rw [if_neg (by omega)])
       exact ⟨_, rfl, by rw [e1]; exact f1, by rw [e1]; exact hR12⟩)
  · refine r_aload_n C dX10_plan_25 rfl ?_
    refine r_ldc C dX10_plan_26 kc_X10_135 ?_
    refine r_cvi (c := 1) C dX10_plan_28 mv_X10_91 (c_X10_finding e l _ _) (by decide) rfl rfl rfl rfl (by decide) rfl rfl (Nat.le_of_ble_eq_true rfl) (fun z28 σ28 h28 => ?_)
    obtain ⟨rfl, rfl⟩ := h28
    refine r_goto 41 C dX10_plan_31 (by decide) ?_
    refine r_iret C dX10_plan_41 ?_
    first
    | (have e1 : oPlan A = fnd A (-100006) := by unfold oPlan; repeat (first | rw [if_pos (by omega)] | rw [if_neg (by omega)])
       exact ⟨_, rfl, by rw [e1]; rfl, by rw [e1]; exact rel_fnd hR12 _⟩)
    | (have e1 : oPlan A = ((plRA A).1, A) := by unfold oPlan; repeat (first | rw [if_pos (by omega)] | rw [if_neg (by omega)])
       exact ⟨_, rfl, by rw [e1]; exact f1, by rw [e1]; exact hR12⟩)
set_option maxRecDepth 20000 in
theorem o_planned (e : qR) (l : Launch) (σ : qSt) (k : Int) (A : aSt) (hR : RelD σ A) (hA : AOk A) (h_k : InI k)  : CM (ED e) l yX10_planned cX10_planned 2 (some .int) 20 [qr 0 0, qi k] σ (Ri fun z σ' => z = (oPlanned k A).1 ∧ RelD σ' (oPlanned k A).2) := by
  refine CM.mk tD_ok (by decide +kernel) (Nat.le_of_ble_eq_true rfl) (fun G C => ?_)
  show G σ 0 [some (qr 0 0), some (qi k)] []
  obtain ⟨hb, e10, n10, m10, e11, n11, m11, e5, n5, m5, e4, n4, m4, h381, h382, h383, h384⟩ := dF hR hA
  refine r_iload_n C dX10_planned_0 rfl ?_
  refine r_aload_n C dX10_planned_1 rfl ?_
  refine r_get_r (c := 1) C dX10_planned_2 fl_X10_37 rfl rfl rfl (by decide) rfl ?_
  refine r_get_i (c := 1) 4 C dX10_planned_5 fl_X10_209 rfl rfl rfl rfl (by decide) ?_
  have b5 := hb 10 0 4 (by omega) (by omega)
  refine r_csi C dX10_planned_8 ms_X10_86 (c_X10_within e l _ _ _ (by omega) (by omega)) (by decide) rfl rfl (Nat.le_of_ble_eq_true rfl) (fun z8 σ8 h8 => ?_)
  obtain ⟨rfl, rfl⟩ := h8
  refine r_ifb_ne 21 C dX10_planned_11 (by decide) (fun h11 => ?_) (fun h11 => ?_)
  · refine r_aload_n C dX10_planned_21 rfl ?_
    refine r_get_r (c := 1) C dX10_planned_22 fl_X10_44 rfl rfl rfl (by decide) rfl ?_
    refine r_aload_n C dX10_planned_25 rfl ?_
    refine r_get_r (c := 1) C dX10_planned_26 fl_X10_37 rfl rfl rfl (by decide) rfl ?_
    refine r_aload_n C dX10_planned_29 rfl ?_
    refine r_get_r (c := 1) C dX10_planned_30 fl_X10_11 rfl rfl rfl (by decide) rfl ?_
    refine r_cvv (c := 1) C dX10_planned_33 mv_X10_218 (c_X7_seekPlans e l _ hb hR.1.2.1 (by omega) hR.1.2.2.1 (sk_hyp hR hA).1 (sk_hyp hR hA).2.1 hR.1.2.2.2.1 (sk_hyp hR hA).2.2 hR.2.1) (by decide) rfl rfl rfl rfl (by decide) rfl rfl (Nat.le_of_ble_eq_true rfl) (fun σ33 h33 => ?_)
    obtain ⟨hR33, f1, f2, f3⟩ := pln_of hR hA h33
    refine r_aload_n C dX10_planned_36 rfl ?_
    refine r_get_r (c := 1) C dX10_planned_37 fl_X10_44 rfl rfl rfl (by decide) rfl ?_
    refine r_get_i (c := 1) 8 C dX10_planned_40 fl_X10_222 rfl rfl rfl rfl (by decide) ?_
    have b40 := hR33.1.1 15 0 8 (by omega) (by omega)
    refine r_if_ne 55 C dX10_planned_43 (by decide) (by omega) (fun h43 => ?_) (fun h43 => ?_)
    · refine r_aload_n C dX10_planned_55 rfl ?_
      refine r_get_r (c := 1) C dX10_planned_56 fl_X10_44 rfl rfl rfl (by decide) rfl ?_
      refine r_get_r (c := 1) C dX10_planned_59 fl_X10_228 rfl rfl rfl (by decide) rfl ?_
      refine r_iload_n C dX10_planned_62 rfl ?_
      refine r_iald (c := 1) (N := 7) C dX10_planned_63 rfl rfl (by decide) (by omega) ?_
      have b63 := hR33.1.1 22 0 k (by omega) (by omega)
      refine r_iret C dX10_planned_64 ?_
      first
      | (have e1 : oPlanned k A = fnd A (-100006) := by unfold oPlanned; repeat (first | rw [if_pos (by omega)] | rw [if_neg (by omega)])
         exact ⟨_, rfl, by rw [e1]; rfl, by rw [e1]; exact rel_fnd hR33 _⟩)
      | (have e1 : oPlanned k A = ((plRA A).2.2 k, A) := by unfold oPlanned; repeat (first | rw [if_pos (by omega)] | rw [if_neg (by omega)])
         exact ⟨_, rfl, by rw [e1]; exact (f3 (by omega) k (by omega) (by omega)), by rw [e1]; exact hR33⟩)
    · refine r_aload_n C dX10_planned_46 rfl ?_
      refine r_ldc C dX10_planned_47 kc_X10_135 ?_
      refine r_cvi (c := 1) C dX10_planned_49 mv_X10_91 (c_X10_finding e l _ _) (by decide) rfl rfl rfl rfl (by decide) rfl rfl (Nat.le_of_ble_eq_true rfl) (fun z49 σ49 h49 => ?_)
      obtain ⟨rfl, rfl⟩ := h49
      refine r_goto 64 C dX10_planned_52 (by decide) ?_
      refine r_iret C dX10_planned_64 ?_
      first
      | (have e1 : oPlanned k A = fnd A (-100006) := by unfold oPlanned; repeat (first | rw [if_pos (by omega)] | rw [if_neg (by omega)])
         exact ⟨_, rfl, by rw [e1]; rfl, by rw [e1]; exact rel_fnd hR33 _⟩)
      | (have e1 : oPlanned k A = ((plRA A).2.2 k, A) := by unfold oPlanned; repeat (first | rw [if_pos (by omega)] | rw [if_neg (by omega)])
         exact ⟨_, rfl, by rw [e1]; exact (f3 (by omega) k (by omega) (by omega)), by rw [e1]; exact hR33⟩)
  · refine r_aload_n C dX10_planned_14 rfl ?_
    refine r_ldc C dX10_planned_15 kc_X10_90 ?_
    refine r_cvi (c := 1) C dX10_planned_17 mv_X10_91 (c_X10_finding e l _ _) (by decide) rfl rfl rfl rfl (by decide) rfl rfl (Nat.le_of_ble_eq_true rfl) (fun z17 σ17 h17 => ?_)
    obtain ⟨rfl, rfl⟩ := h17
    refine r_iret C dX10_planned_20 ?_
    have e1 : oPlanned k A = fnd A (-100001) := by unfold oPlanned; repeat (first | rw [if_pos (by omega)] | rw [if_neg (by omega)])
    exact ⟨_, rfl, by rw [e1]; rfl, by rw [e1]; exact rel_fnd hR _⟩
set_option maxRecDepth 20000 in
theorem o_plans (e : qR) (l : Launch) (σ : qSt) (A : aSt) (hR : RelD σ A) (hA : AOk A)   : CM (ED e) l yX10_plans cX10_plans 1 (some .int) 20 [qr 0 0] σ (Ri fun z σ' => z = (oPlans A).1 ∧ RelD σ' (oPlans A).2) := by
  refine CM.mk tD_ok (by decide +kernel) (Nat.le_of_ble_eq_true rfl) (fun G C => ?_)
  show G σ 0 [some (qr 0 0)] []
  obtain ⟨hb, e10, n10, m10, e11, n11, m11, e5, n5, m5, e4, n4, m4, h381, h382, h383, h384⟩ := dF hR hA
  refine r_aload_n C dX10_plans_0 rfl ?_
  refine r_get_r (c := 1) C dX10_plans_1 fl_X10_44 rfl rfl rfl (by decide) rfl ?_
  refine r_aload_n C dX10_plans_4 rfl ?_
  refine r_get_r (c := 1) C dX10_plans_5 fl_X10_37 rfl rfl rfl (by decide) rfl ?_
  refine r_aload_n C dX10_plans_8 rfl ?_
  refine r_get_r (c := 1) C dX10_plans_9 fl_X10_11 rfl rfl rfl (by decide) rfl ?_
  refine r_cvv (c := 1) C dX10_plans_12 mv_X10_218 (c_X7_seekPlans e l _ hb hR.1.2.1 (by omega) hR.1.2.2.1 (sk_hyp hR hA).1 (sk_hyp hR hA).2.1 hR.1.2.2.2.1 (sk_hyp hR hA).2.2 hR.2.1) (by decide) rfl rfl rfl rfl (by decide) rfl rfl (Nat.le_of_ble_eq_true rfl) (fun σ12 h12 => ?_)
  obtain ⟨hR12, f1, f2, f3⟩ := pln_of hR hA h12
  refine r_aload_n C dX10_plans_15 rfl ?_
  refine r_get_r (c := 1) C dX10_plans_16 fl_X10_44 rfl rfl rfl (by decide) rfl ?_
  refine r_get_i (c := 1) 8 C dX10_plans_19 fl_X10_222 rfl rfl rfl rfl (by decide) ?_
  have b19 := hR12.1.1 15 0 8 (by omega) (by omega)
  refine r_iret C dX10_plans_22 ?_
  exact ⟨_, rfl, f2, hR12⟩
set_option maxRecDepth 20000 in
theorem o_kept (e : qR) (l : Launch) (σ : qSt) (x y : Int) (A : aSt) (hR : RelD σ A) (hA : AOk A) (h_x : InI x) (h_y : InI y)  : CM (ED e) l yX10_kept cX10_kept 5 (some .int) 20 [qr 0 0, qi x, qi y] σ (Ri fun z σ' => z = (oKept x y A).1 ∧ RelD σ' (oKept x y A).2) := by
  refine CM.mk tD_ok (by decide +kernel) (Nat.le_of_ble_eq_true rfl) (fun G C => ?_)
  show G σ 0 [some (qr 0 0), some (qi x), some (qi y), none, none] []
  obtain ⟨hb, e10, n10, m10, e11, n11, m11, e5, n5, m5, e4, n4, m4, h381, h382, h383, h384⟩ := dF hR hA
  refine r_aload_n C dX10_kept_0 rfl ?_
  refine r_iload_n C dX10_kept_1 rfl ?_
  refine r_cvi (c := 1) C dX10_kept_2 mv_X10_104 (c_X10_isLine e l _ _ hb (by omega)) (by decide) rfl rfl rfl rfl (by decide) rfl rfl (Nat.le_of_ble_eq_true rfl) (fun z2 σ2 h2 => ?_)
  obtain ⟨rfl, rfl⟩ := h2
  refine r_ifb_eq 16 C dX10_kept_5 (by decide) (fun h5 => ?_) (fun h5 => ?_)
  · refine r_aload_n C dX10_kept_16 rfl ?_
    refine r_ldc C dX10_kept_17 kc_X10_90 ?_
    refine r_cvi (c := 1) C dX10_kept_19 mv_X10_91 (c_X10_finding e l _ _) (by decide) rfl rfl rfl rfl (by decide) rfl rfl (Nat.le_of_ble_eq_true rfl) (fun z19 σ19 h19 => ?_)
    obtain ⟨rfl, rfl⟩ := h19
    refine r_iret C dX10_kept_22 ?_
    have e1 : oKept x y A = fnd A (-100001) := by unfold oKept; repeat (first | rw [if_pos (by omega)] | rw [if_neg (by omega)])
    exact ⟨_, rfl, by rw [e1]; rfl, by rw [e1]; exact rel_fnd hR _⟩
  · refine r_aload_n C dX10_kept_8 rfl ?_
    refine r_iload_n C dX10_kept_9 rfl ?_
    refine r_cvi (c := 1) C dX10_kept_10 mv_X10_104 (c_X10_isLine e l _ _ hb (by omega)) (by decide) rfl rfl rfl rfl (by decide) rfl rfl (Nat.le_of_ble_eq_true rfl) (fun z10 σ10 h10 => ?_)
    obtain ⟨rfl, rfl⟩ := h10
    refine r_ifb_ne 23 C dX10_kept_13 (by decide) (fun h13 => ?_) (fun h13 => ?_)
    · have lf := ln_f hR hA (x := x) (by omega)
      have lg := ln_f hR hA (x := y) (by omega)
      refine r_aload_n C dX10_kept_23 rfl ?_
      refine r_get_r (c := 1) C dX10_kept_24 fl_X10_11 rfl rfl rfl (by decide) rfl ?_
      refine r_iload_n C dX10_kept_27 rfl ?_
      refine r_aald (c := 1) (N := 12) C dX10_kept_28 rfl (by decide) rfl (by decide) (by omega) rfl ?_
      refine r_astore_n C dX10_kept_29 rfl rfl (by decide) ?_
      refine r_aload_n C dX10_kept_30 rfl ?_
      refine r_get_r (c := 1) C dX10_kept_31 fl_X10_11 rfl rfl rfl (by decide) rfl ?_
      refine r_iload_n C dX10_kept_34 rfl ?_
      refine r_aald (c := 1) (N := 12) C dX10_kept_35 rfl (by decide) rfl (by decide) (by omega) rfl ?_
      refine r_astore C dX10_kept_36 rfl rfl (by decide) ?_
      refine r_aload_n C dX10_kept_38 rfl ?_
      refine r_get_r (c := 1) C dX10_kept_39 fl_X10_58 rfl rfl rfl (by decide) rfl ?_
      refine r_aload_n C dX10_kept_42 rfl ?_
      refine r_get_r (c := 12) C dX10_kept_43 fl_X10_111 rfl rfl rfl (by omega) rfl ?_
      refine r_aload_n C dX10_kept_46 rfl ?_
      refine r_get_i (c := 12) 2 C dX10_kept_47 fl_X10_108 rfl rfl rfl rfl (by omega) ?_
      have b47 := hb 81 x 2 (by omega) (by omega)
      refine r_aload C dX10_kept_50 rfl ?_
      refine r_get_r (c := 12) C dX10_kept_52 fl_X10_111 rfl rfl rfl (by omega) rfl ?_
      refine r_aload C dX10_kept_55 rfl ?_
      refine r_get_i (c := 12) 2 C dX10_kept_57 fl_X10_108 rfl rfl rfl rfl (by omega) ?_
      have b57 := hb 81 y 2 (by omega) (by omega)
      refine r_cvi (c := 1) C dX10_kept_60 mv_X10_242 (c_X6_countKept_l e l _ _ _ _ _ hb (by omega) (by omega) (by omega) (by omega)) (by decide) rfl rfl rfl rfl (by decide) rfl rfl (Nat.le_of_ble_eq_true rfl) (fun z60 σ60 h60 => ?_)
      obtain ⟨hz, ha, hb2⟩ := h60
      refine r_iret C dX10_kept_63 ?_
      have e1 : oKept x y A = (lcs (frAt (lnAt A x)) (frAt (lnAt A y)) (lnAt A x).2.length (lnAt A y).2.length, A) := by unfold oKept; repeat (first | rw [if_pos (by omega)] | rw [if_neg (by omega)])
      exact ⟨_, rfl, by rw [e1, hz, lf.2.1, lg.2.1, Int.toNat_natCast, Int.toNat_natCast]; exact lcs_cg (n := (lnAt A x).2.length) (m := (lnAt A y).2.length) (fun i q => (lf.2.2.2.2.2 i (by omega) (by omega)).1) (fun i q => (lg.2.2.2.2.2 i (by omega) (by omega)).1) _ _ _ (Nat.le_refl _) (Nat.le_refl _) (Nat.le_refl _), by rw [e1]; exact rel_fit hR (fun a b c q1 q2 q3 => ha a b c (by omega)) hb2⟩
    · refine r_aload_n C dX10_kept_16 rfl ?_
      refine r_ldc C dX10_kept_17 kc_X10_90 ?_
      refine r_cvi (c := 1) C dX10_kept_19 mv_X10_91 (c_X10_finding e l _ _) (by decide) rfl rfl rfl rfl (by decide) rfl rfl (Nat.le_of_ble_eq_true rfl) (fun z19 σ19 h19 => ?_)
      obtain ⟨rfl, rfl⟩ := h19
      refine r_iret C dX10_kept_22 ?_
      have e1 : oKept x y A = fnd A (-100001) := by unfold oKept; repeat (first | rw [if_pos (by omega)] | rw [if_neg (by omega)])
      exact ⟨_, rfl, by rw [e1]; rfl, by rw [e1]; exact rel_fnd hR _⟩
