/-! the class's acts and the mathematical state -/
theorem getD_some {α : Type} {l : List α} {i : Nat} {x d : α} (h : l[i]? = some x) : l.getD i d = x := by simp [List.getD, h]
theorem get_of_lt {α : Type} (l : List α) (d : α) {i : Nat} (h : i < l.length) : l[i]? = some (l.getD i d) := by simp [List.getD, h]
theorem dF {σ : qSt} {A : aSt} (hR : RelD σ A) (hA : AOk A) : Bd σ ∧ σ 0 0 10 = nLn A ∧ 0 ≤ nLn A ∧ nLn A ≤ 12 ∧ σ 0 0 11 = nWd A ∧ 0 ≤ nWd A ∧ nWd A ≤ 20 ∧ σ 4 0 5 = nTx A ∧ 0 ≤ nTx A ∧ nTx A ≤ 40 ∧ σ 10 0 4 = nLp A ∧ 0 ≤ nLp A ∧ nLp A ≤ 7 ∧ 0 ≤ σ 38 0 1 ∧ σ 38 0 1 < 20 ∧ 0 ≤ σ 38 0 2 ∧ σ 38 0 2 ≤ 20 := by
  obtain ⟨⟨hb, -⟩, -, ⟨hL, hW, hT, -, -, -, -, hO⟩, ⟨h1, h2, h3, h4, -⟩, -⟩ := hR
  obtain ⟨⟨gL, gW, gT, -, -, -, -, gO⟩, -⟩ := hA
  have a1 := gL.1
  have a2 := gW.1
  have a3 := gT.1
  have a4 := gO.1
  refine ⟨hb, hL.1, Int.natCast_nonneg _, ?_, hW.1, Int.natCast_nonneg _, ?_, hT.1, Int.natCast_nonneg _, ?_, hO.1, Int.natCast_nonneg _, ?_, h1, h2, by omega, by omega⟩
  · show ((cL A.1).length : Int) ≤ 12; omega
  · show ((cW A.1).length : Int) ≤ 20; omega
  · show ((cT A.1).length : Int) ≤ 40; omega
  · show ((cO A.1).length : Int) ≤ 7; omega
theorem ln_get {A : aSt} {x : Int} (hx : 0 ≤ x ∧ x < nLn A) : (cL A.1)[x.toNat]? = some (lnAt A x) := get_of_lt _ _ (by have : x < ((cL A.1).length : Int) := hx.2; omega)
theorem wd_get {A : aSt} {x : Int} (hx : 0 ≤ x ∧ x < nWd A) : (cW A.1)[x.toNat]? = some (wdAt A x) := get_of_lt _ _ (by have : x < ((cW A.1).length : Int) := hx.2; omega)
theorem tx_get {A : aSt} {x : Int} (hx : 0 ≤ x ∧ x < nTx A) : (cT A.1)[x.toNat]? = some (txAt A x) := get_of_lt _ _ (by have : x < ((cT A.1).length : Int) := hx.2; omega)
theorem ln_f {σ : qSt} {A : aSt} (hR : RelD σ A) (hA : AOk A) {x : Int} (hx : 0 ≤ x ∧ x < nLn A) : σ 81 x 1 = (lnAt A x).1 ∧ σ 81 x 2 = ((lnAt A x).2.length : Int) ∧ ((lnAt A x).2.length : Int) ≤ 24 ∧ 0 ≤ (lnAt A x).1 ∧ (lnAt A x).1 < 6 ∧ ∀ q, 0 ≤ q → q < ((lnAt A x).2.length : Int) → σ 82 x q = frAt (lnAt A x) q ∧ 0 ≤ σ 82 x q ∧ σ 82 x q < 4 := by
  have hg := ln_get hx
  obtain ⟨r1, r2, r3⟩ := hR.2.2.1.1.2 _ _ hg
  obtain ⟨g1, g2, g3, g4⟩ := hA.1.1.2 _ _ hg
  rw [Int.toNat_of_nonneg hx.1] at r1 r2 r3
  refine ⟨r1, r2, by omega, g1, g2, fun q q1 q2 => ?_⟩
  have hq : (lnAt A x).2[q.toNat]? = some (frAt (lnAt A x) q) := get_of_lt _ _ (by omega)
  have a := r3 _ _ hq
  have b := g4 _ _ hq
  rw [Int.toNat_of_nonneg q1] at a
  rw [a]
  exact ⟨rfl, b⟩
theorem wd_f {σ : qSt} {A : aSt} (hR : RelD σ A) (hA : AOk A) {x : Int} (hx : 0 ≤ x ∧ x < nWd A) : σ 105 x 4 = (wdAt A x).1 ∧ σ 105 x 5 = (wdAt A x).2.1 ∧ σ 105 x 6 = (wdAt A x).2.2.1 ∧ σ 105 x 7 = ((wdAt A x).2.2.2.length : Int) ∧ ((wdAt A x).2.2.2.length : Int) ≤ 8 ∧ 0 ≤ (wdAt A x).1 ∧ (wdAt A x).1 < nLn A ∧ 0 ≤ (wdAt A x).2.1 ∧ (wdAt A x).2.1 < 4 ∧ 0 ≤ (wdAt A x).2.2.1 ∧ (wdAt A x).2.2.1 ≤ 100 ∧ ∀ s, 0 ≤ s → s < ((wdAt A x).2.2.2.length : Int) → σ 106 x s = (syAt (wdAt A x) s).1 ∧ σ 107 x s = (syAt (wdAt A x) s).2.1 ∧ σ 108 x s = (syAt (wdAt A x) s).2.2.1 ∧ σ 109 x s = (syAt (wdAt A x) s).2.2.2 ∧ 1 ≤ σ 107 x s ∧ σ 107 x s ≤ σ 108 x s ∧ σ 108 x s ≤ 6 := by
  have hg := wd_get hx
  obtain ⟨r1, r2, r3, r4, r5⟩ := hR.2.2.1.2.1.2 _ _ hg
  obtain ⟨g1, g2, g3, g4, g5, g6, g7, g8⟩ := hA.1.2.1.2 _ _ hg
  rw [Int.toNat_of_nonneg hx.1] at r1 r2 r3 r4 r5
  refine ⟨r1, r2, r3, r4, by omega, g1, g2, g3, g4, g5, g6, fun s s1 s2 => ?_⟩
  have hq : (wdAt A x).2.2.2[s.toNat]? = some (syAt (wdAt A x) s) := get_of_lt _ _ (by omega)
  have a := r5 _ _ hq
  have b := g8 _ _ hq
  rw [Int.toNat_of_nonneg s1] at a
  exact ⟨a.1, a.2.1, a.2.2.1, a.2.2.2, by omega, by omega, by omega⟩
/-- a finding -/
theorem rel_fnd {σ : qSt} {A : aSt} (hR : RelD σ A) (z : Int) : RelD (qUp σ 0 0 12 (σ 0 0 12 + 1)) (fnd A z).2 := by
  obtain ⟨⟨hb, h1, h2, h3, h4, h5⟩, hk, ⟨hL, hW, hT, hN, hA', hF, hRm, hO⟩, hH, hS, hf⟩ := hR
  have e : ∀ (a : Nat) (b c : Int), ¬ (a = 0 ∧ c = 12) → qUp σ 0 0 12 (σ 0 0 12 + 1) a b c = σ a b c := fun a b c q => qUp_ne (by omega)
  refine ⟨⟨fun a b c q1 q2 => by rw [e a b c q2]; exact hb a b c q1 q2, fun j a b => by rw [e 16 _ _ (by omega), e 17 _ _ (by omega), e 18 _ _ (by omega)]; exact h1 j a b, fun l a b => by rw [e 81 _ _ (by omega)]; exact h2 l a b, fun k a b => by rw [e 14 _ _ (by omega)]; exact h3 k a b, fun w s a b c d => by rw [e 107 _ _ (by omega), e 108 _ _ (by omega), e 109 _ _ (by omega)]; exact h4 w s a b c d, fun t a b => by rw [e 8 _ _ (by omega)]; exact h5 t a b⟩, ?_, ⟨hL.cg (e _ _ _ (by omega)) (fun b c => e _ _ _ (by omega)) (fun b c => e _ _ _ (by omega)), hW.cg (e _ _ _ (by omega)) (fun a b c q1 q2 => e _ _ _ (by omega)), hT.cg (e _ _ _ (by omega)) (fun a c q1 q2 => e _ _ _ (by omega)), hN.cg (fun c => e _ _ _ (by omega)), hA'.cg (fun c => e _ _ _ (by omega)), hF.cg (fun c => e _ _ _ (by omega)), hRm.cg (fun c => e _ _ _ (by omega)), hO.cg (e _ _ _ (by omega)) (fun c => e _ _ _ (by omega))⟩, hH.cg (fun c => e _ _ _ (by omega)) (fun b c => e _ _ _ (by omega)) (fun b c => e _ _ _ (by omega)), hS.cg (fun b c => e _ _ _ (by omega)) (fun b c => e _ _ _ (by omega)), ?_⟩
  · have p1 : pS (qUp σ 0 0 12 (σ 0 0 12 + 1)) = pS σ := by
      unfold pS
      refine Prod.ext (e 15 0 7 (by omega)) (Prod.ext (e 15 0 8 (by omega)) ?_)
      funext j
      exact e 22 0 j (by omega)
    have p2 : plRes (qUp σ 0 0 12 (σ 0 0 12 + 1)) = plRes σ := by
      have q1 : (qUp σ 0 0 12 (σ 0 0 12 + 1)) 12 0 = σ 12 0 := by funext j; exact e _ _ _ (by omega)
      have q2 : (qUp σ 0 0 12 (σ 0 0 12 + 1)) 13 0 = σ 13 0 := by funext j; exact e _ _ _ (by omega)
      have q3 : plA (qUp σ 0 0 12 (σ 0 0 12 + 1)) = plA σ := by
        funext k
        unfold plA
        simp only [fun b c => e 14 b c (by omega), fun b c => e 11 b c (by omega), fun b c => e 81 b c (by omega)]
      have q4 : plO (qUp σ 0 0 12 (σ 0 0 12 + 1)) = plO σ := by funext k; unfold plO; rw [q1, q3]
      have q5 : plM (qUp σ 0 0 12 (σ 0 0 12 + 1)) = plM σ := by funext k; unfold plM; rw [e _ _ _ (by omega)]
      unfold plRes
      rw [q2, q3, q4, q5, e _ _ _ (by omega)]
    unfold plKn at hk ⊢
    rw [p1, p2, e _ _ _ (by omega), e _ _ _ (by omega)]
    exact hk
  · show qUp σ 0 0 12 (σ 0 0 12 + 1) 0 0 12 = A.2.2.1 + 1
    rw [qUp_eq, hf]
/-- work of the class's own: rows of the fit, of the match, new shapes, the planner's -/
theorem rel_scr {σ τ : qSt} {A : aSt} (hR : RelD σ A) (h : ∀ (a : Nat) (b c : Int), ¬ (15 ≤ a ∧ a ≤ 25) → ¬ (34 ≤ a ∧ a ≤ 37) → a ≠ 80 → τ a b c = σ a b c) (hb : Bd τ) (hp : PlR τ) (hk : plKn τ τ) : RelD τ A := by
  obtain ⟨⟨-, -, h2, h3, h4, h5⟩, -, ⟨hL, hW, hT, hN, hA', hF, hRm, hO⟩, hH, hS, hf⟩ := hR
  refine ⟨⟨hb, hp, fun l a b => by rw [h 81 _ _ (by omega) (by omega) (by omega)]; exact h2 l a b, fun k a b => by rw [h 14 _ _ (by omega) (by omega) (by omega)]; exact h3 k a b, fun w s a b c d => by rw [h 107 _ _ (by omega) (by omega) (by omega), h 108 _ _ (by omega) (by omega) (by omega), h 109 _ _ (by omega) (by omega) (by omega)]; exact h4 w s a b c d, fun t a b => by rw [h 8 _ _ (by omega) (by omega) (by omega)]; exact h5 t a b⟩, hk, ⟨hL.cg (h _ _ _ (by omega) (by omega) (by omega)) (fun b c => h _ _ _ (by omega) (by omega) (by omega)) (fun b c => h _ _ _ (by omega) (by omega) (by omega)), hW.cg (h _ _ _ (by omega) (by omega) (by omega)) (fun a b c q1 q2 => h _ _ _ (by omega) (by omega) (by omega)), hT.cg (h _ _ _ (by omega) (by omega) (by omega)) (fun a c q1 q2 => h _ _ _ (by omega) (by omega) (by omega)), hN.cg (fun c => h _ _ _ (by omega) (by omega) (by omega)), hA'.cg (fun c => h _ _ _ (by omega) (by omega) (by omega)), hF.cg (fun c => h _ _ _ (by omega) (by omega) (by omega)), hRm.cg (fun c => h _ _ _ (by omega) (by omega) (by omega)), hO.cg (h _ _ _ (by omega) (by omega) (by omega)) (fun c => h _ _ _ (by omega) (by omega) (by omega))⟩, hH.cg (fun c => h _ _ _ (by omega) (by omega) (by omega)) (fun b c => h _ _ _ (by omega) (by omega) (by omega)) (fun b c => h _ _ _ (by omega) (by omega) (by omega)), hS.cg (fun b c => h _ _ _ (by omega) (by omega) (by omega)) (fun b c => h _ _ _ (by omega) (by omega) (by omega)), by rw [h _ _ _ (by omega) (by omega) (by omega)]; exact hf⟩
theorem plRes_cg {σ τ : qSt} (h : ∀ (a : Nat) (b c : Int), (10 ≤ a ∧ a ≤ 14) ∨ a = 81 → τ a b c = σ a b c) : plRes τ = plRes σ := by
  have q1 : τ 12 0 = σ 12 0 := by funext j; exact h _ _ _ (by omega)
  have q2 : τ 13 0 = σ 13 0 := by funext j; exact h _ _ _ (by omega)
  have q3 : plA τ = plA σ := by
    funext k
    unfold plA
    simp only [fun b c => h 14 b c (by omega), fun b c => h 11 b c (by omega), fun b c => h 81 b c (by omega)]
  have q4 : plO τ = plO σ := by funext k; unfold plO; rw [q1, q3]
  have q5 : plM τ = plM σ := by funext k; unfold plM; rw [h _ _ _ (by omega)]
  unfold plRes
  rw [q2, q3, q4, q5, h _ _ _ (by omega)]
/-- rows of the fit and of the match alone -/
theorem rel_fit {σ τ : qSt} {A : aSt} (hR : RelD σ A) (h : ∀ (a : Nat) (b c : Int), ¬ (23 ≤ a ∧ a ≤ 25) → ¬ (34 ≤ a ∧ a ≤ 37) → a ≠ 80 → τ a b c = σ a b c) (hb : Bd τ) : RelD τ A := by
  refine rel_scr hR (fun a b c q1 q2 q3 => h a b c (by omega) q2 q3) hb (fun j a b => by rw [h 16 _ _ (by omega) (by omega) (by omega), h 17 _ _ (by omega) (by omega) (by omega), h 18 _ _ (by omega) (by omega) (by omega)]; exact hR.1.2.1 j a b) ?_
  have hk := hR.2.1
  have p1 : pS τ = pS σ := by
    unfold pS
    refine Prod.ext (h _ _ _ (by omega) (by omega) (by omega)) (Prod.ext (h _ _ _ (by omega) (by omega) (by omega)) ?_)
    funext j
    exact h _ _ _ (by omega) (by omega) (by omega)
  unfold plKn at hk ⊢
  rw [p1, plRes_cg (fun a b c q => h a b c (by omega) (by omega) (by omega)), h _ _ _ (by omega) (by omega) (by omega), h _ _ _ (by omega) (by omega) (by omega)]
  exact hk
/-! an act that can be undone -/
theorem pRem_o {ρ : qSt} {d wh wa : Int} {a : Nat} {b c : Int} (h : a ≠ 38) (h1 : a ≠ 40) (h2 : ¬ (a = 15 ∧ c = 9)) : pRem ρ d wh wa a b c = ρ a b c := by
  unfold pRem pApp
  rw [qUp_ne (by omega), qUp_ne (by omega), qUp_ne (by omega), qUp_ne (by omega), qUp_ne (by omega), qUp_ne (by omega)]
theorem pRem_n (ρ : qSt) (d wh wa : Int) : pRem ρ d wh wa 38 0 1 = (if ρ 38 0 1 + 1 < 20 then ρ 38 0 1 + 1 else 0) ∧ pRem ρ d wh wa 38 0 2 = min (ρ 38 0 2 + 1) 20 ∧ pRem ρ d wh wa 15 0 9 = 0 ∧ pRem ρ d wh wa 40 (ρ 38 0 1) 2 = d ∧ pRem ρ d wh wa 40 (ρ 38 0 1) 3 = wh ∧ pRem ρ d wh wa 40 (ρ 38 0 1) 4 = wa ∧ ∀ p c, p ≠ ρ 38 0 1 → pRem ρ d wh wa 40 p c = ρ 40 p c := by
  unfold pRem pApp
  refine ⟨by simp [qUp], by simp [qUp], by simp [qUp], by simp [qUp], by simp [qUp], by simp [qUp], fun p c h => by simp [qUp, h]⟩
theorem pRem_b {ρ : qSt} {d wh wa : Int} (hb : Bd ρ) (hn : 0 ≤ ρ 38 0 1 ∧ ρ 38 0 1 < 20) (hc : 0 ≤ ρ 38 0 2 ∧ ρ 38 0 2 ≤ 20) (h1 : -2000000 ≤ d ∧ d ≤ 2000000) (h2 : -2000000 ≤ wh ∧ wh ≤ 2000000) (h3 : -2000000 ≤ wa ∧ wa ≤ 2000000) : Bd (pRem ρ d wh wa) := by
  unfold pRem pApp
  have e1 : qUp ρ 15 0 9 0 38 0 1 = ρ 38 0 1 := qUp_ne (by omega)
  have e2 : qUp ρ 15 0 9 0 38 0 2 = ρ 38 0 2 := qUp_ne (by omega)
  rw [e1, e2]
  refine (((((hb.up (by omega)).up h1).up h2).up h3).up ?_).up (by omega)
  split <;> omega
/-- what an act leaves alone: history, sheets, findings, the planner's rows -/
def Kep (σ ρ : qSt) : Prop := ∀ (a : Nat) (b c : Int), (16 ≤ a ∧ a ≤ 18) ∨ a = 38 ∨ a = 40 ∨ a = 41 ∨ a = 205 ∨ a = 206 ∨ (a = 0 ∧ c = 12) → ρ a b c = σ a b c
def Iv1 (σ : qSt) : Prop := Bd σ ∧ (∀ l, 0 ≤ l → l < 12 → 0 ≤ σ 81 l 1 ∧ σ 81 l 1 < 6) ∧ (∀ k, 0 ≤ k → k < 7 → 0 ≤ σ 14 0 k ∧ σ 14 0 k < 4096) ∧ (∀ w s, 0 ≤ w → w < 20 → 0 ≤ s → s < 8 → 0 ≤ σ 107 w s ∧ σ 107 w s ≤ 6 ∧ 0 ≤ σ 108 w s ∧ σ 108 w s ≤ 6 ∧ 0 ≤ σ 109 w s ∧ σ 109 w s < 32) ∧ ∀ t, 0 ≤ t → t < 40 → 0 ≤ σ 8 0 t ∧ σ 8 0 t < 32
theorem RCur.cg {σ τ : qSt} {c : aCur} (h : ∀ (a : Nat) (b x : Int), ¬ (15 ≤ a ∧ a ≤ 41) → a ≠ 80 → a < 205 → ¬ (a = 0 ∧ x = 12) → τ a b x = σ a b x) (hR : RCur σ c) : RCur τ c := by
  obtain ⟨hL, hW, hT, hN, hA', hF, hRm, hO⟩ := hR
  exact ⟨hL.cg (h _ _ _ (by omega) (by omega) (by omega) (by omega)) (fun b c => h _ _ _ (by omega) (by omega) (by omega) (by omega)) (fun b c => h _ _ _ (by omega) (by omega) (by omega) (by omega)), hW.cg (h _ _ _ (by omega) (by omega) (by omega) (by omega)) (fun a b c q1 q2 => h _ _ _ (by omega) (by omega) (by omega) (by omega)), hT.cg (h _ _ _ (by omega) (by omega) (by omega) (by omega)) (fun a c q1 q2 => h _ _ _ (by omega) (by omega) (by omega) (by omega)), hN.cg (fun c => h _ _ _ (by omega) (by omega) (by omega) (by omega)), hA'.cg (fun c => h _ _ _ (by omega) (by omega) (by omega) (by omega)), hF.cg (fun c => h _ _ _ (by omega) (by omega) (by omega) (by omega)), hRm.cg (fun c => h _ _ _ (by omega) (by omega) (by omega) (by omega)), hO.cg (h _ _ _ (by omega) (by omega) (by omega) (by omega)) (fun c => h _ _ _ (by omega) (by omega) (by omega) (by omega))⟩
theorem rel_rem {σ ρ : qSt} {A : aSt} {c : aCur} {d wh wa : Int} (hR : RelD σ A) (hk : Kep σ ρ) (hI : Iv1 ρ) (hC : RCur ρ c) (hd : 0 ≤ d ∧ d ≤ 12 ∧ d ≠ 12 ∧ d ≠ 4) (h2 : -2000000 ≤ wh ∧ wh ≤ 2000000) (h3 : -2000000 ≤ wa ∧ wa ≤ 2000000) : RelD (pRem ρ d wh wa) (psh A (d, wh, wa, []) c) := by
  obtain ⟨⟨-, hp, -⟩, -, -, hH, hS, hf⟩ := hR
  obtain ⟨b1, b2, b3, b4, b5⟩ := hI
  obtain ⟨n1, n2, n3, n4, n5, n6, n7⟩ := pRem_n ρ d wh wa
  have k1 : ρ 38 0 1 = σ 38 0 1 := hk _ _ _ (by omega)
  have k2 : ρ 38 0 2 = σ 38 0 2 := hk _ _ _ (by omega)
  obtain ⟨q1, q2, q3, q4, q5⟩ := id hH
  refine ⟨⟨pRem_b b1 (by omega) (by omega) (by omega) h2 h3, fun j a b => ?_, fun l a b => by rw [pRem_o (by omega) (by omega) (by omega)]; exact b2 l a b, fun k a b => by rw [pRem_o (by omega) (by omega) (by omega)]; exact b3 k a b, fun w s x1 x2 x3 x4 => by rw [pRem_o (by omega) (by omega) (by omega), pRem_o (by omega) (by omega) (by omega), pRem_o (by omega) (by omega) (by omega)]; exact b4 w s x1 x2 x3 x4, fun t a b => by rw [pRem_o (by omega) (by omega) (by omega)]; exact b5 t a b⟩, Or.inl n3, hC.cg (fun a b x z1 z2 z3 z4 => pRem_o (by omega) (by omega) (by omega)), ?_, hS.cg (fun b c => by rw [pRem_o (by omega) (by omega) (by omega)]; exact hk _ _ _ (by omega)) (fun b c => by rw [pRem_o (by omega) (by omega) (by omega)]; exact hk _ _ _ (by omega)), ?_⟩
  · rw [pRem_o (by omega) (by omega) (by omega), pRem_o (by omega) (by omega) (by omega), pRem_o (by omega) (by omega) (by omega), hk 16 _ _ (by omega), hk 17 _ _ (by omega), hk 18 _ _ (by omega)]
    exact hp j a b
  · refine hH.push (by rw [n1, k1]) (by rw [n2, k2]) ?_ (fun p hp => ⟨fun x => ?_, fun x => ?_⟩)
    · rw [← k1]
      exact ⟨n4, n5, n6, fun z => absurd z hd.2.2.1, fun z => by rcases z with z | z; exact absurd z hd.2.2.1; exact absurd z hd.2.2.2⟩
    · rw [n7 p x (by rw [k1]; exact hp)]; exact hk _ _ _ (by omega)
    · rw [pRem_o (by omega) (by omega) (by omega)]; exact hk _ _ _ (by omega)
  · show pRem ρ d wh wa 0 0 12 = A.2.2.1
    rw [pRem_o (by omega) (by omega) (by omega), hk _ _ _ (by omega), hf]
theorem Iv0.one {σ : qSt} (h : Iv0 σ) : Iv1 σ := ⟨h.1, h.2.2⟩
theorem Iv1.up {σ : qSt} (h : Iv1 σ) {k : Nat} {i j z : Int} (hz : -2000000 ≤ z ∧ z ≤ 2000000) (h1 : k = 81 ∧ j = 1 → 0 ≤ z ∧ z < 6) (h2 : k = 14 → 0 ≤ z ∧ z < 4096) (h3 : k = 107 ∨ k = 108 → 0 ≤ z ∧ z ≤ 6) (h4 : k = 109 ∨ k = 8 → 0 ≤ z ∧ z < 32) : Iv1 (qUp σ k i j z) := by
  obtain ⟨b1, b2, b3, b4, b5⟩ := h
  refine ⟨b1.up hz, fun l a b => ?_, fun q a b => ?_, fun w s x1 x2 x3 x4 => ?_, fun t a b => ?_⟩
  · by_cases e : 81 = k ∧ l = i ∧ (1 : Int) = j
    · have := h1 (by omega)
      obtain ⟨rfl, rfl, rfl⟩ := e
      rw [qUp_eq]; exact this
    · rw [qUp_ne e]; exact b2 l a b
  · by_cases e : 14 = k ∧ (0 : Int) = i ∧ q = j
    · have := h2 (by omega)
      obtain ⟨rfl, rfl, rfl⟩ := e
      rw [qUp_eq]; exact this
    · rw [qUp_ne e]; exact b3 q a b
  · have c4 := b4 w s x1 x2 x3 x4
    have v : ∀ a : Nat, qUp σ k i j z a w s = z ∧ a = k ∨ qUp σ k i j z a w s = σ a w s := fun a => by
      by_cases e : a = k ∧ w = i ∧ s = j
      · obtain ⟨rfl, rfl, rfl⟩ := e
        exact Or.inl ⟨qUp_eq _ _ _ _ _, rfl⟩
      · exact Or.inr (qUp_ne e)
    refine ⟨?_, ?_, ?_, ?_, ?_, ?_⟩
    · rcases v 107 with ⟨e, q⟩ | e <;> rw [e]; exact (h3 (by omega)).1; exact c4.1
    · rcases v 107 with ⟨e, q⟩ | e <;> rw [e]; exact (h3 (by omega)).2; exact c4.2.1
    · rcases v 108 with ⟨e, q⟩ | e <;> rw [e]; exact (h3 (by omega)).1; exact c4.2.2.1
    · rcases v 108 with ⟨e, q⟩ | e <;> rw [e]; exact (h3 (by omega)).2; exact c4.2.2.2.1
    · rcases v 109 with ⟨e, q⟩ | e <;> rw [e]; exact (h4 (by omega)).1; exact c4.2.2.2.2.1
    · rcases v 109 with ⟨e, q⟩ | e <;> rw [e]; exact (h4 (by omega)).2; exact c4.2.2.2.2.2
  · by_cases e : 8 = k ∧ (0 : Int) = i ∧ t = j
    · have := h4 (by omega)
      obtain ⟨rfl, rfl, rfl⟩ := e
      rw [qUp_eq]; exact this
    · rw [qUp_ne e]; exact b5 t a b
/-! the present behind each act -/
theorem cur_line {σ ρ : qSt} {c : aCur} {p n : Int} (h : RCur σ c) (hn : n = σ 0 0 10) (hρ : ρ = qUp (qUp (qUp σ 81 n 1 p) 81 n 2 0) 0 0 10 (n + 1)) : RCur ρ (sL c (cL c ++ [(p, [])])) := by
  obtain ⟨hL, hW, hT, hN, hA', hF, hRm, hO⟩ := h
  subst hρ
  refine ⟨⟨?_, fun i x hx => ?_⟩, hW.cg (by simp [qUp]) (fun a b c q1 q2 => by rw [qUp_ne (by omega), qUp_ne (by omega), qUp_ne (by omega)]), hT.cg (by simp [qUp]) (fun a c q1 q2 => by rw [qUp_ne (by omega), qUp_ne (by omega), qUp_ne (by omega)]), hN.cg (fun c => by simp [qUp]), hA'.cg (fun c => by simp [qUp]), hF.cg (fun c => by simp [qUp]), hRm.cg (fun c => by simp [qUp]), hO.cg (by simp [qUp]) (fun c => by simp [qUp])⟩
  · show _ = ((cL c ++ [(p, [])]).length : Int)
    rw [qUp_eq, hn, hL.1, List.length_append]; simp
  · have hl := hL.1
    have hx : (cL c ++ [(p, [])])[i]? = some _ := hx
    by_cases e : i < (cL c).length
    · rw [List.getElem?_append_left e] at hx
      obtain ⟨r1, r2, r3⟩ := hL.2 i x hx
      have e1 : ¬ (i : Int) = n := by omega
      simp only [qUp, e1]
      simp
      exact ⟨r1, r2, r3⟩
    · have hi : i = (cL c).length := by
        have := (List.getElem?_eq_some_iff.mp hx).1
        simp at this
        omega
      subst hi
      simp at hx
      subst hx
      have e1 : ((cL c).length : Int) = n := by omega
      simp [qUp, e1]
theorem cur_frame {σ ρ : qSt} {c : aCur} {x s : Int} {y : aLn} (h : RCur σ c) (hx : 0 ≤ x) (hy : (cL c)[x.toNat]? = some y) (hρ : ρ = qUp (qUp σ 82 x (σ 81 x 2) s) 81 x 2 (σ 81 x 2 + 1)) : RCur ρ (sL c (mdf (fun y => (y.1, y.2 ++ [s])) (cL c) x.toNat)) := by
  obtain ⟨hL, hW, hT, hN, hA', hF, hRm, hO⟩ := h
  obtain ⟨y1, y2, y3⟩ := hL.2 _ _ hy
  rw [Int.toNat_of_nonneg hx] at y1 y2 y3
  subst hρ
  refine ⟨⟨?_, fun i z hz => ?_⟩, hW.cg (by simp [qUp]) (fun a b c q1 q2 => by rw [qUp_ne (by omega), qUp_ne (by omega)]), hT.cg (by simp [qUp]) (fun a c q1 q2 => by rw [qUp_ne (by omega), qUp_ne (by omega)]), hN.cg (fun c => by simp [qUp]), hA'.cg (fun c => by simp [qUp]), hF.cg (fun c => by simp [qUp]), hRm.cg (fun c => by simp [qUp]), hO.cg (by simp [qUp]) (fun c => by simp [qUp])⟩
  · show _ = ((mdf (fun y => (y.1, y.2 ++ [s])) (cL c) x.toNat).length : Int)
    rw [mdf_len, ← hL.1]
    simp [qUp]
  · have hz : (mdf (fun y => (y.1, y.2 ++ [s])) (cL c) x.toNat)[i]? = some z := hz
    rw [mdf_get] at hz
    by_cases e : i = x.toNat
    · subst e
      rw [if_pos rfl, hy] at hz
      simp at hz
      subst hz
      rw [Int.toNat_of_nonneg hx]
      refine ⟨by simp [qUp]; exact y1, by simp [qUp]; omega, fun j t ht => ?_⟩
      by_cases e2 : j < y.2.length
      · rw [List.getElem?_append_left e2] at ht
        have := y3 j t ht
        have e3 : ¬ (j : Int) = σ 81 x 2 := by omega
        simp [qUp, e3]
        exact this
      · have hj : j = y.2.length := by
          have := (List.getElem?_eq_some_iff.mp ht).1
          simp at this
          omega
        subst hj
        simp at ht
        simp [qUp, y2, ht]
    · rw [if_neg e] at hz
      obtain ⟨r1, r2, r3⟩ := hL.2 i z hz
      have e1 : ¬ (i : Int) = x := by omega
      simp only [qUp, e1]
      simp
      exact ⟨r1, r2, r3⟩
theorem cur_wording {σ ρ : qSt} {c : aCur} {x k s n : Int} (h : RCur σ c) (hn : n = σ 0 0 11) (hρ : ρ = qUp (qUp (qUp (qUp (qUp σ 105 n 4 x) 105 n 5 k) 105 n 6 s) 105 n 7 0) 0 0 11 (n + 1)) : RCur ρ (sW c (cW c ++ [(x, k, s, [])])) := by
  obtain ⟨hL, hW, hT, hN, hA', hF, hRm, hO⟩ := h
  subst hρ
  refine ⟨hL.cg (by simp [qUp]) (fun b c => by simp [qUp]) (fun b c => by simp [qUp]), ⟨?_, fun i y hy => ?_⟩, hT.cg (by simp [qUp]) (fun a c q1 q2 => by rw [qUp_ne (by omega), qUp_ne (by omega), qUp_ne (by omega), qUp_ne (by omega), qUp_ne (by omega)]), hN.cg (fun c => by simp [qUp]), hA'.cg (fun c => by simp [qUp]), hF.cg (fun c => by simp [qUp]), hRm.cg (fun c => by simp [qUp]), hO.cg (by simp [qUp]) (fun c => by simp [qUp])⟩
  · show _ = ((cW c ++ [(x, k, s, [])]).length : Int)
    rw [qUp_eq, hn, hW.1, List.length_append]; simp
  · have hl := hW.1
    have hy : (cW c ++ [(x, k, s, [])])[i]? = some _ := hy
    by_cases e : i < (cW c).length
    · rw [List.getElem?_append_left e] at hy
      obtain ⟨r1, r2, r3, r4, r5⟩ := hW.2 i y hy
      have eo : ∀ (a : Nat) (z : Int), a ≠ 0 → (qUp (qUp (qUp (qUp (qUp σ 105 n 4 x) 105 n 5 k) 105 n 6 s) 105 n 7 0) 0 0 11 (n + 1)) a i z = σ a i z := fun a z q => by rw [qUp_ne (by omega), qUp_ne (by omega), qUp_ne (by omega), qUp_ne (by omega), qUp_ne (by omega)]
      exact ⟨by rw [eo _ _ (by decide)]; exact r1, by rw [eo _ _ (by decide)]; exact r2, by rw [eo _ _ (by decide)]; exact r3, by rw [eo _ _ (by decide)]; exact r4, fun j s hs => by rw [eo _ _ (by decide), eo _ _ (by decide), eo _ _ (by decide), eo _ _ (by decide)]; exact r5 j s hs⟩
    · have hi : i = (cW c).length := by
        have := (List.getElem?_eq_some_iff.mp hy).1
        simp at this
        omega
      subst hi
      simp at hy
      subst hy
      have e1 : ((cW c).length : Int) = n := by omega
      simp [qUp, e1]
theorem cur_syl {σ ρ : qSt} {c : aCur} {w s0 s1 s2 s3 : Int} {y : aWd} (h : RCur σ c) (hx : 0 ≤ w) (hy : (cW c)[w.toNat]? = some y) (hρ : ρ = qUp (qUp (qUp (qUp (qUp σ 106 w (σ 105 w 7) s0) 107 w (σ 105 w 7) s1) 108 w (σ 105 w 7) s2) 109 w (σ 105 w 7) s3) 105 w 7 (σ 105 w 7 + 1)) : RCur ρ (sW c (mdf (fun y => (y.1, y.2.1, y.2.2.1, y.2.2.2 ++ [(s0, s1, s2, s3)])) (cW c) w.toNat)) := by
  obtain ⟨hL, hW, hT, hN, hA', hF, hRm, hO⟩ := h
  obtain ⟨y1, y2, y3, y4, y5⟩ := hW.2 _ _ hy
  rw [Int.toNat_of_nonneg hx] at y1 y2 y3 y4 y5
  subst hρ
  refine ⟨hL.cg (by simp [qUp]) (fun b c => by simp [qUp]) (fun b c => by simp [qUp]), ⟨?_, fun i z hz => ?_⟩, hT.cg (by simp [qUp]) (fun a c q1 q2 => by rw [qUp_ne (by omega), qUp_ne (by omega), qUp_ne (by omega), qUp_ne (by omega), qUp_ne (by omega)]), hN.cg (fun c => by simp [qUp]), hA'.cg (fun c => by simp [qUp]), hF.cg (fun c => by simp [qUp]), hRm.cg (fun c => by simp [qUp]), hO.cg (by simp [qUp]) (fun c => by simp [qUp])⟩
  · show _ = ((mdf (fun y => (y.1, y.2.1, y.2.2.1, y.2.2.2 ++ [(s0, s1, s2, s3)])) (cW c) w.toNat).length : Int)
    rw [mdf_len, ← hW.1]
    simp [qUp]
  · have hz : (mdf (fun y => (y.1, y.2.1, y.2.2.1, y.2.2.2 ++ [(s0, s1, s2, s3)])) (cW c) w.toNat)[i]? = some z := hz
    rw [mdf_get] at hz
    by_cases e : i = w.toNat
    · subst e
      rw [if_pos rfl, hy] at hz
      simp at hz
      subst hz
      rw [Int.toNat_of_nonneg hx]
      refine ⟨by simp [qUp]; exact y1, by simp [qUp]; exact y2, by simp [qUp]; exact y3, by simp [qUp]; omega, fun j t ht => ?_⟩
      by_cases e2 : j < y.2.2.2.length
      · rw [List.getElem?_append_left e2] at ht
        have := y5 j t ht
        have e3 : ¬ (j : Int) = σ 105 w 7 := by omega
        simp [qUp, e3]
        exact this
      · have hj : j = y.2.2.2.length := by
          have := (List.getElem?_eq_some_iff.mp ht).1
          simp at this
          omega
        subst hj
        simp at ht
        simp [qUp, y4, ← ht]
    · rw [if_neg e] at hz
      obtain ⟨r1, r2, r3, r4, r5⟩ := hW.2 i z hz
      have eo : ∀ (a : Nat) (z : Int), (qUp (qUp (qUp (qUp (qUp σ 106 w (σ 105 w 7) s0) 107 w (σ 105 w 7) s1) 108 w (σ 105 w 7) s2) 109 w (σ 105 w 7) s3) 105 w 7 (σ 105 w 7 + 1)) a i z = σ a i z := fun a z => by rw [qUp_ne (by omega), qUp_ne (by omega), qUp_ne (by omega), qUp_ne (by omega), qUp_ne (by omega)]
      exact ⟨by rw [eo]; exact r1, by rw [eo]; exact r2, by rw [eo]; exact r3, by rw [eo]; exact r4, fun j s hs => by rw [eo, eo, eo, eo]; exact r5 j s hs⟩
theorem cur_cut {σ ρ : qSt} {c : aCur} {w : Int} {y : aWd} (h : RCur σ c) (hx : 0 ≤ w) (hy : (cW c)[w.toNat]? = some y) (hl : 0 < y.2.2.2.length) (hρ : ρ = qUp σ 105 w 7 (σ 105 w 7 - 1)) : RCur ρ (sW c (mdf (fun y => (y.1, y.2.1, y.2.2.1, y.2.2.2.dropLast)) (cW c) w.toNat)) := by
  obtain ⟨hL, hW, hT, hN, hA', hF, hRm, hO⟩ := h
  obtain ⟨y1, y2, y3, y4, y5⟩ := hW.2 _ _ hy
  rw [Int.toNat_of_nonneg hx] at y1 y2 y3 y4 y5
  subst hρ
  refine ⟨hL.cg (by simp [qUp]) (fun b c => by simp [qUp]) (fun b c => by simp [qUp]), ⟨?_, fun i z hz => ?_⟩, hT.cg (by simp [qUp]) (fun a c q1 q2 => by rw [qUp_ne (by omega)]), hN.cg (fun c => by simp [qUp]), hA'.cg (fun c => by simp [qUp]), hF.cg (fun c => by simp [qUp]), hRm.cg (fun c => by simp [qUp]), hO.cg (by simp [qUp]) (fun c => by simp [qUp])⟩
  · show _ = ((mdf (fun y => (y.1, y.2.1, y.2.2.1, y.2.2.2.dropLast)) (cW c) w.toNat).length : Int)
    rw [mdf_len, ← hW.1]
    simp [qUp]
  · have hz : (mdf (fun y => (y.1, y.2.1, y.2.2.1, y.2.2.2.dropLast)) (cW c) w.toNat)[i]? = some z := hz
    rw [mdf_get] at hz
    by_cases e : i = w.toNat
    · subst e
      rw [if_pos rfl, hy] at hz
      simp at hz
      subst hz
      rw [Int.toNat_of_nonneg hx]
      refine ⟨by simp [qUp]; exact y1, by simp [qUp]; exact y2, by simp [qUp]; exact y3, by simp [qUp]; omega, fun j t ht => ?_⟩
      have hj : j < y.2.2.2.length - 1 := by
        have := (List.getElem?_eq_some_iff.mp ht).1
        simp at this
        omega
      rw [List.getElem?_dropLast, if_pos hj] at ht
      have := y5 j t ht
      simp [qUp]
      exact this
    · rw [if_neg e] at hz
      obtain ⟨r1, r2, r3, r4, r5⟩ := hW.2 i z hz
      have eo : ∀ (a : Nat) (z : Int), (qUp σ 105 w 7 (σ 105 w 7 - 1)) a i z = σ a i z := fun a z => by rw [qUp_ne (by omega)]
      exact ⟨by rw [eo]; exact r1, by rw [eo]; exact r2, by rw [eo]; exact r3, by rw [eo]; exact r4, fun j s hs => by rw [eo, eo, eo, eo]; exact r5 j s hs⟩
theorem RF.up {k : Nat} {N : Int} {σ : qSt} {f : Int → Int} {x v : Int} (h : RF k N σ f) : RF k N (qUp σ k 0 x v) (updF f x v) := fun i a b => by
  unfold updF
  by_cases e : i = x
  · subst e
    simp [qUp]
  · simp [qUp, e]
    exact h i a b
theorem cur_name {σ : qSt} {c : aCur} {x v : Int} (h : RCur σ c) : RCur (qUp σ 5 0 x v) (sN c (updF (cN c) x v)) := by
  obtain ⟨hL, hW, hT, hN, hA', hF, hRm, hO⟩ := h
  exact ⟨hL.cg (by simp [qUp]) (fun b c => by simp [qUp]) (fun b c => by simp [qUp]), hW.cg (by simp [qUp]) (fun a b c q1 q2 => by rw [qUp_ne (by omega)]), hT.cg (by simp [qUp]) (fun a c q1 q2 => by rw [qUp_ne (by omega)]), hN.up, hA'.cg (fun c => by simp [qUp]), hF.cg (fun c => by simp [qUp]), hRm.cg (fun c => by simp [qUp]), hO.cg (by simp [qUp]) (fun c => by simp [qUp])⟩
theorem cur_actor {σ : qSt} {c : aCur} {x v : Int} (h : RCur σ c) : RCur (qUp σ 11 0 x v) (sA c (updF (cA c) x v)) := by
  obtain ⟨hL, hW, hT, hN, hA', hF, hRm, hO⟩ := h
  exact ⟨hL.cg (by simp [qUp]) (fun b c => by simp [qUp]) (fun b c => by simp [qUp]), hW.cg (by simp [qUp]) (fun a b c q1 q2 => by rw [qUp_ne (by omega)]), hT.cg (by simp [qUp]) (fun a c q1 q2 => by rw [qUp_ne (by omega)]), hN.cg (fun c => by simp [qUp]), hA'.up, hF.cg (fun c => by simp [qUp]), hRm.cg (fun c => by simp [qUp]), hO.cg (by simp [qUp]) (fun c => by simp [qUp])⟩
theorem cur_free {σ : qSt} {c : aCur} {x v : Int} (h : RCur σ c) : RCur (qUp σ 12 0 x v) (sF c (updF (cF c) x v)) := by
  obtain ⟨hL, hW, hT, hN, hA', hF, hRm, hO⟩ := h
  exact ⟨hL.cg (by simp [qUp]) (fun b c => by simp [qUp]) (fun b c => by simp [qUp]), hW.cg (by simp [qUp]) (fun a b c q1 q2 => by rw [qUp_ne (by omega)]), hT.cg (by simp [qUp]) (fun a c q1 q2 => by rw [qUp_ne (by omega)]), hN.cg (fun c => by simp [qUp]), hA'.cg (fun c => by simp [qUp]), hF.up, hRm.cg (fun c => by simp [qUp]), hO.cg (by simp [qUp]) (fun c => by simp [qUp])⟩
theorem cur_room {σ : qSt} {c : aCur} {x v : Int} (h : RCur σ c) : RCur (qUp σ 13 0 x v) (sR c (updF (cR c) x v)) := by
  obtain ⟨hL, hW, hT, hN, hA', hF, hRm, hO⟩ := h
  exact ⟨hL.cg (by simp [qUp]) (fun b c => by simp [qUp]) (fun b c => by simp [qUp]), hW.cg (by simp [qUp]) (fun a b c q1 q2 => by rw [qUp_ne (by omega)]), hT.cg (by simp [qUp]) (fun a c q1 q2 => by rw [qUp_ne (by omega)]), hN.cg (fun c => by simp [qUp]), hA'.cg (fun c => by simp [qUp]), hF.cg (fun c => by simp [qUp]), hRm.up, hO.cg (by simp [qUp]) (fun c => by simp [qUp])⟩
theorem cur_text {σ ρ : qSt} {c : aCur} {a b x d n : Int} (h : RCur σ c) (hn : n = σ 4 0 5) (hρ : ρ = qUp (qUp (qUp (qUp (qUp σ 6 0 n a) 7 0 n b) 8 0 n x) 9 0 n d) 4 0 5 (n + 1)) : RCur ρ (sT c (cT c ++ [(a, b, x, d)])) := by
  obtain ⟨hL, hW, hT, hN, hA', hF, hRm, hO⟩ := h
  subst hρ
  refine ⟨hL.cg (by simp [qUp]) (fun b c => by simp [qUp]) (fun b c => by simp [qUp]), hW.cg (by simp [qUp]) (fun a b c q1 q2 => by rw [qUp_ne (by omega), qUp_ne (by omega), qUp_ne (by omega), qUp_ne (by omega), qUp_ne (by omega)]), ⟨?_, fun i y hy => ?_⟩, hN.cg (fun c => by simp [qUp]), hA'.cg (fun c => by simp [qUp]), hF.cg (fun c => by simp [qUp]), hRm.cg (fun c => by simp [qUp]), hO.cg (by simp [qUp]) (fun c => by simp [qUp])⟩
  · show _ = ((cT c ++ [(a, b, x, d)]).length : Int)
    rw [qUp_eq, hn, hT.1, List.length_append]; simp
  · have hl := hT.1
    have hy : (cT c ++ [(a, b, x, d)])[i]? = some _ := hy
    by_cases e : i < (cT c).length
    · rw [List.getElem?_append_left e] at hy
      have r := hT.2 i y hy
      have e1 : ¬ (i : Int) = n := by omega
      simp only [qUp, e1]
      simp
      exact r
    · have hi : i = (cT c).length := by
        have := (List.getElem?_eq_some_iff.mp hy).1
        simp at this
        omega
      subst hi
      simp at hy
      subst hy
      have e1 : ((cT c).length : Int) = n := by omega
      simp [qUp, e1]
theorem cur_loop {σ ρ : qSt} {c : aCur} {x n : Int} (h : RCur σ c) (hn : n = σ 10 0 4) (hρ : ρ = qUp (qUp σ 14 0 n x) 10 0 4 (n + 1)) : RCur ρ (sO c (cO c ++ [x])) := by
  obtain ⟨hL, hW, hT, hN, hA', hF, hRm, hO⟩ := h
  subst hρ
  refine ⟨hL.cg (by simp [qUp]) (fun b c => by simp [qUp]) (fun b c => by simp [qUp]), hW.cg (by simp [qUp]) (fun a b c q1 q2 => by rw [qUp_ne (by omega), qUp_ne (by omega)]), hT.cg (by simp [qUp]) (fun a c q1 q2 => by rw [qUp_ne (by omega), qUp_ne (by omega)]), hN.cg (fun c => by simp [qUp]), hA'.cg (fun c => by simp [qUp]), hF.cg (fun c => by simp [qUp]), hRm.cg (fun c => by simp [qUp]), ⟨?_, fun i y hy => ?_⟩⟩
  · show _ = ((cO c ++ [x]).length : Int)
    rw [qUp_eq, hn, hO.1, List.length_append]; simp
  · have hl := hO.1
    have hy : (cO c ++ [x])[i]? = some _ := hy
    by_cases e : i < (cO c).length
    · rw [List.getElem?_append_left e] at hy
      have r := hO.2 i y hy
      have e1 : ¬ (i : Int) = n := by omega
      simp only [qUp, e1]
      simp
      exact r
    · have hi : i = (cO c).length := by
        have := (List.getElem?_eq_some_iff.mp hy).1
        simp at this
        omega
      subst hi
      simp at hy
      subst hy
      have e1 : ((cO c).length : Int) = n := by omega
      simp [qUp, e1]
theorem cur_unloop {σ : qSt} {c : aCur} (h : RCur σ c) (hl : 0 < (cO c).length) : RCur (qUp σ 10 0 4 (σ 10 0 4 - 1)) (sO c (cO c).dropLast) := by
  obtain ⟨hL, hW, hT, hN, hA', hF, hRm, hO⟩ := h
  refine ⟨hL.cg (by simp [qUp]) (fun b c => by simp [qUp]) (fun b c => by simp [qUp]), hW.cg (by simp [qUp]) (fun a b c q1 q2 => by rw [qUp_ne (by omega)]), hT.cg (by simp [qUp]) (fun a c q1 q2 => by rw [qUp_ne (by omega)]), hN.cg (fun c => by simp [qUp]), hA'.cg (fun c => by simp [qUp]), hF.cg (fun c => by simp [qUp]), hRm.cg (fun c => by simp [qUp]), ⟨?_, fun i y hy => ?_⟩⟩
  · show _ = ((cO c).dropLast.length : Int)
    rw [qUp_eq, hO.1, List.length_dropLast]; omega
  · have hy : (cO c).dropLast[i]? = some y := hy
    have hj : i < (cO c).length - 1 := by
      have := (List.getElem?_eq_some_iff.mp hy).1
      simp at this
      omega
    rw [List.getElem?_dropLast, if_pos hj] at hy
    have := hO.2 i y hy
    simp [qUp]
    exact this
