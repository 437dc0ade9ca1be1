/-! the reference's plan: findLoops -/
def whA (A : aSt) : Int → Int := fun l => cA A.1 (lnAt A l).1
def flI (σ : qSt) (A : aSt) (q : Int) (σ1 : qSt) : Prop := (∀ (a : Nat) (b c : Int), ¬ (11 ≤ a ∧ a ≤ 13) → σ1 a b c = σ a b c) ∧ Bm σ1 ∧ ∀ j, 0 ≤ j → j < q → σ1 11 0 j = plAA A j ∧ σ1 12 0 j = plOA A j ∧ σ1 13 0 j = plMA A j
def flL (σ : qSt) (A : aSt) (q : Int) (m : Nat) (σ1 : qSt) : Prop := flI σ A q σ1 ∧ σ1 13 0 q = plMA A q ∧ σ1 11 0 q = aol ((cO A.1).getD q.toNat 0) (whA A) m ∧ σ1 12 0 q = doa (aol ((cO A.1).getD q.toNat 0) (whA A) m) (cF A.1) 8
theorem lp_m {σ : qSt} {A : aSt} (hR : RelM σ A) (hA : AOk A) {q : Int} (h : 0 ≤ q ∧ q < nLp A) : σ 1 0 (358 + q) = (cO A.1).getD q.toNat 0 ∧ 0 < (cO A.1).getD q.toNat 0 ∧ (cO A.1).getD q.toNat 0 < 4096 := by
  have hg := get_of_lt (cO A.1) 0 (i := q.toNat) (by have : q < ((cO A.1).length : Int) := h.2; omega)
  have a := hR.2.2.1.2.2.2.2.2.2.2.2 _ _ hg
  have b := hA.1.2.2.2.2.2.2.2.2 _ _ hg
  have hpw : ∀ n : Nat, n ≤ 12 → (2 : Int) ^ n ≤ 4096 := by decide
  have hp2 := hpw _ hA.1.1.1
  rw [Int.toNat_of_nonneg h.1] at a
  exact ⟨a, b.1, by omega⟩
theorem wh_m {σ : qSt} {A : aSt} (hR : RelM σ A) (hA : AOk A) {l : Int} (h : 0 ≤ l ∧ l < nLn A) : σ 1 0 (340 + (lnAt A l).1) = whA A l ∧ -1 ≤ whA A l ∧ whA A l < 8 := by
  have lm := ln_m hR hA h
  have a := hR.2.2.1.2.2.2.2.1 (lnAt A l).1 lm.2.2.2.1 lm.2.2.2.2.1
  have b := hA.1.2.2.2.2.1 (lnAt A l).1 lm.2.2.2.1 lm.2.2.2.2.1
  exact ⟨a, b.1, by show cA A.1 (lnAt A l).1 < 8; omega⟩
theorem fl_keep {σ σ1 : qSt} {A : aSt} {q : Int} {m : Nat} (h : flL σ A q m σ1) (e : aol ((cO A.1).getD q.toNat 0) (whA A) (m + 1) = aol ((cO A.1).getD q.toNat 0) (whA A) m) : flL σ A q (m + 1) σ1 := by
  obtain ⟨a, b, c, d⟩ := h
  exact ⟨a, b, by rw [e]; exact c, by rw [e]; exact d⟩
theorem fl_set {σ σ1 : qSt} {A : aSt} {q w : Int} {m : Nat} (hq : 0 ≤ q) (h : flL σ A q m σ1) (hw : 0 ≤ w ∧ w < 8) (ew : w = whA A m) (hA8 : 0 ≤ aol ((cO A.1).getD q.toNat 0) (whA A) m) (e : aol ((cO A.1).getD q.toNat 0) (whA A) (m + 1) = bor (aol ((cO A.1).getD q.toNat 0) (whA A) m) (2 ^ w.toNat)) (hb : bor (σ1 11 0 q) (2 ^ w.toNat) < 256) (hf : 0 ≤ band (σ1 12 0 q) (cF A.1 w) ∧ band (σ1 12 0 q) (cF A.1 w) < 16) : flL σ A q (m + 1) (qUp (qUp σ1 11 0 q (bor (σ1 11 0 q) (2 ^ w.toNat))) 12 0 q (band (σ1 12 0 q) (cF A.1 w))) := by
  obtain ⟨⟨a1, a2, a3⟩, b, c, d⟩ := h
  have hb0 : 0 ≤ bor (σ1 11 0 q) (2 ^ w.toNat) := by unfold bor; omega
  refine ⟨⟨fun x y z u => by rw [qUp_ne (by omega), qUp_ne (by omega)]; exact a1 x y z u, (a2.up (by omega)).up (by omega), fun j j1 j2 => ?_⟩, ?_, ?_, ?_⟩
  · rw [qUp_ne (by omega), qUp_ne (by omega), qUp_ne (by omega), qUp_ne (by omega), qUp_ne (by omega), qUp_ne (by omega)]
    exact a3 j j1 j2
  · rw [qUp_ne (by omega), qUp_ne (by omega)]; exact b
  · rw [qUp_ne (by omega), qUp_eq, e, c]
  · rw [qUp_eq, e, doa_bor hA8 hw.1 8, if_pos (by omega), d]
theorem fl_end {σ σ1 : qSt} {A : aSt} {q : Int} (hq : 0 ≤ q) (h : flL σ A q (cL A.1).length σ1) : flI σ A (q + 1) σ1 := by
  obtain ⟨⟨a1, a2, a3⟩, b, c, d⟩ := h
  refine ⟨a1, a2, fun j j1 j2 => ?_⟩
  by_cases e : j = q
  · rw [e]; exact ⟨c, d, b⟩
  · exact a3 j j1 (by omega)
