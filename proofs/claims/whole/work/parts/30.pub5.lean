/-! the class's calls: undo -/
theorem cur_unline {σ : qSt} {c : aCur} (h : RCur σ c) (hl : 0 < (cL c).length) : RCur (qUp σ 0 0 10 (σ 0 0 10 - 1)) (sL c (cL c).dropLast) := by
  obtain ⟨hL, hW, hT, hN, hA', hF, hRm, hO⟩ := h
  refine ⟨⟨?_, fun i y hy => ?_⟩, hW.cg (by simp [qUp]) (fun a b c q1 q2 => by rw [qUp_ne (by omega)]), hT.cg (by simp [qUp]) (fun a c q1 q2 => by rw [qUp_ne (by omega)]), hN.cg (fun c => by simp [qUp]), hA'.cg (fun c => by simp [qUp]), hF.cg (fun c => by simp [qUp]), hRm.cg (fun c => by simp [qUp]), hO.cg (by simp [qUp]) (fun c => by simp [qUp])⟩
  · show _ = ((cL c).dropLast.length : Int)
    rw [qUp_eq, hL.1, List.length_dropLast]; omega
  · have hy : (cL c).dropLast[i]? = some y := hy
    have hj : i < (cL c).length - 1 := by
      have := (List.getElem?_eq_some_iff.mp hy).1
      simp at this
      omega
    rw [List.getElem?_dropLast, if_pos hj] at hy
    have := hL.2 i y hy
    simp [qUp]
    exact this
theorem cur_unwording {σ : qSt} {c : aCur} (h : RCur σ c) (hl : 0 < (cW c).length) : RCur (qUp σ 0 0 11 (σ 0 0 11 - 1)) (sW c (cW c).dropLast) := by
  obtain ⟨hL, hW, hT, hN, hA', hF, hRm, hO⟩ := h
  refine ⟨hL.cg (by simp [qUp]) (fun b c => by simp [qUp]) (fun b c => by simp [qUp]), ⟨?_, fun i y hy => ?_⟩, hT.cg (by simp [qUp]) (fun a c q1 q2 => by rw [qUp_ne (by omega)]), hN.cg (fun c => by simp [qUp]), hA'.cg (fun c => by simp [qUp]), hF.cg (fun c => by simp [qUp]), hRm.cg (fun c => by simp [qUp]), hO.cg (by simp [qUp]) (fun c => by simp [qUp])⟩
  · show _ = ((cW c).dropLast.length : Int)
    rw [qUp_eq, hW.1, List.length_dropLast]; omega
  · have hy : (cW c).dropLast[i]? = some y := hy
    have hj : i < (cW c).length - 1 := by
      have := (List.getElem?_eq_some_iff.mp hy).1
      simp at this
      omega
    rw [List.getElem?_dropLast, if_pos hj] at hy
    have eo : ∀ (a : Nat) (b z : Int), a ≠ 0 → qUp σ 0 0 11 (σ 0 0 11 - 1) a b z = σ a b z := fun a b z q => qUp_ne (by omega)
    obtain ⟨r1, r2, r3, r4, r5⟩ := hW.2 i y hy
    exact ⟨by rw [eo _ _ _ (by decide)]; exact r1, by rw [eo _ _ _ (by decide)]; exact r2, by rw [eo _ _ _ (by decide)]; exact r3, by rw [eo _ _ _ (by decide)]; exact r4, fun j s hs => by rw [eo _ _ _ (by decide), eo _ _ _ (by decide), eo _ _ _ (by decide), eo _ _ _ (by decide)]; exact r5 j s hs⟩
theorem cur_untext {σ : qSt} {c : aCur} (h : RCur σ c) (hl : 0 < (cT c).length) : RCur (qUp σ 4 0 5 (σ 4 0 5 - 1)) (sT c (cT c).dropLast) := by
  obtain ⟨hL, hW, hT, hN, hA', hF, hRm, hO⟩ := h
  refine ⟨hL.cg (by simp [qUp]) (fun b c => by simp [qUp]) (fun b c => by simp [qUp]), hW.cg (by simp [qUp]) (fun a b c q1 q2 => by rw [qUp_ne (by omega)]), ⟨?_, fun i y hy => ?_⟩, hN.cg (fun c => by simp [qUp]), hA'.cg (fun c => by simp [qUp]), hF.cg (fun c => by simp [qUp]), hRm.cg (fun c => by simp [qUp]), hO.cg (by simp [qUp]) (fun c => by simp [qUp])⟩
  · show _ = ((cT c).dropLast.length : Int)
    rw [qUp_eq, hT.1, List.length_dropLast]; omega
  · have hy : (cT c).dropLast[i]? = some y := hy
    have hj : i < (cT c).length - 1 := by
      have := (List.getElem?_eq_some_iff.mp hy).1
      simp at this
      omega
    rw [List.getElem?_dropLast, if_pos hj] at hy
    have := hT.2 i y hy
    simp [qUp]
    exact this
theorem cur_unframe {σ : qSt} {c : aCur} {x : Int} {y : aLn} (h : RCur σ c) (hx : 0 ≤ x) (hy : (cL c)[x.toNat]? = some y) (hl : 0 < y.2.length) : RCur (qUp σ 81 x 2 (σ 81 x 2 - 1)) (sL c (mdf (fun y => (y.1, y.2.dropLast)) (cL c) x.toNat)) := by
  obtain ⟨hL, hW, hT, hN, hA', hF, hRm, hO⟩ := h
  obtain ⟨y1, y2, y3⟩ := hL.2 _ _ hy
  rw [Int.toNat_of_nonneg hx] at y1 y2 y3
  refine ⟨⟨?_, fun i z hz => ?_⟩, hW.cg (by simp [qUp]) (fun a b c q1 q2 => by rw [qUp_ne (by omega)]), hT.cg (by simp [qUp]) (fun a c q1 q2 => by rw [qUp_ne (by omega)]), hN.cg (fun c => by simp [qUp]), hA'.cg (fun c => by simp [qUp]), hF.cg (fun c => by simp [qUp]), hRm.cg (fun c => by simp [qUp]), hO.cg (by simp [qUp]) (fun c => by simp [qUp])⟩
  · show _ = ((mdf (fun y => (y.1, y.2.dropLast)) (cL c) x.toNat).length : Int)
    rw [mdf_len, ← hL.1]
    simp [qUp]
  · have hz : (mdf (fun y => (y.1, y.2.dropLast)) (cL c) x.toNat)[i]? = some z := hz
    rw [mdf_get] at hz
    by_cases e : i = x.toNat
    · subst e
      rw [if_pos rfl, hy] at hz
      simp at hz
      subst hz
      rw [Int.toNat_of_nonneg hx]
      refine ⟨by simp [qUp]; exact y1, by simp [qUp]; omega, fun j t ht => ?_⟩
      have hj : j < y.2.length - 1 := by
        have := (List.getElem?_eq_some_iff.mp ht).1
        simp at this
        omega
      rw [List.getElem?_dropLast, if_pos hj] at ht
      have := y3 j t ht
      simp [qUp]
      exact this
    · rw [if_neg e] at hz
      obtain ⟨r1, r2, r3⟩ := hL.2 i z hz
      have e1 : ¬ (i : Int) = x := by omega
      simp only [qUp, e1]
      simp
      exact ⟨r1, r2, r3⟩
def Kp2 (σ τ : qSt) : Prop := ∀ (a : Nat) (b c : Int), (15 ≤ a ∧ a ≤ 41) ∨ a = 205 ∨ a = 206 ∨ (a = 0 ∧ c = 12) → τ a b c = σ a b c
def tbQ (σ : qSt) (c : aCur) (a : aAct) (τ : qSt) : Prop := Iv1 τ ∧ RCur τ (undoA a c) ∧ Kp2 σ τ
def tbH (σ : qSt) (c : aCur) (a : aAct) (p : Int) : Prop := Iv1 σ ∧ RCur σ c ∧ Good c ∧ Good (undoA a c) ∧ ActOk a c ∧ RAct σ p a ∧ 0 ≤ p ∧ p < 20
theorem lt_of_get {α : Type} {l : List α} {i : Nat} {x : α} (h : l[i]? = some x) : i < l.length := (List.getElem?_eq_some_iff.mp h).1
theorem tb0 {σ : qSt} {c : aCur} {a : aAct} {p : Int} (h : tbH σ c a p) (hd : a.1 = 0) : tbQ σ c a (qUp σ 0 0 10 (σ 0 0 10 - 1)) := by
  obtain ⟨hI, hC, hG, hU, hO, hr, hp⟩ := h
  have hl := hO.2.2.1 hd
  have e : undoA a c = sL c (cL c).dropLast := by unfold undoA; rw [if_pos hd]
  have h1 := hC.1.1
  have h2 := hG.1.1
  refine ⟨hI.up (by omega) (by omega) (by omega) (by omega) (by omega), ?_, fun a b c q => qUp_ne (by omega)⟩
  rw [e]
  exact cur_unline hC (by omega)
theorem tb1 {σ : qSt} {c : aCur} {a : aAct} {p : Int} (h : tbH σ c a p) (hd : a.1 = 1) : (0 ≤ σ 40 p 3 ∧ σ 40 p 3 < 12) ∧ tbQ σ c a (qUp σ 81 (σ 40 p 3) 2 (σ 81 (σ 40 p 3) 2 - 1)) := by
  obtain ⟨hI, hC, hG, hU, hO, hr, hp⟩ := h
  obtain ⟨h0, y, hy, hl⟩ := hO.2.2.2.1 hd
  have e : undoA a c = sL c (mdf (fun x => (x.1, x.2.dropLast)) (cL c) a.2.1.toNat) := by unfold undoA; rw [if_neg (by omega), if_pos hd]
  rw [hr.2.1]
  have h1 := hC.1.2 _ _ hy
  rw [Int.toNat_of_nonneg h0] at h1
  have h2 := hG.1.2 _ _ hy
  have h3 := lt_of_get hy
  have h4 := hG.1.1
  refine ⟨by omega, hI.up (by omega) (by omega) (by omega) (by omega) (by omega), ?_, fun a b c q => qUp_ne (by omega)⟩
  rw [e]
  exact cur_unframe hC h0 hy (by omega)
theorem tb2 {σ : qSt} {c : aCur} {a : aAct} {p : Int} (h : tbH σ c a p) (hd : a.1 = 2) : tbQ σ c a (qUp σ 0 0 11 (σ 0 0 11 - 1)) := by
  obtain ⟨hI, hC, hG, hU, hO, hr, hp⟩ := h
  have hl := hO.2.2.2.2.1 hd
  have e : undoA a c = sW c (cW c).dropLast := by unfold undoA; rw [if_neg (by omega), if_neg (by omega), if_pos hd]
  have h1 := hC.2.1.1
  have h2 := hG.2.1.1
  refine ⟨hI.up (by omega) (by omega) (by omega) (by omega) (by omega), ?_, fun a b c q => qUp_ne (by omega)⟩
  rw [e]
  exact cur_unwording hC (by omega)
theorem tb3 {σ : qSt} {c : aCur} {a : aAct} {p : Int} (h : tbH σ c a p) (hd : a.1 = 3) : (0 ≤ σ 40 p 3 ∧ σ 40 p 3 < 20) ∧ tbQ σ c a (qUp σ 105 (σ 40 p 3) 7 (σ 105 (σ 40 p 3) 7 - 1)) := by
  obtain ⟨hI, hC, hG, hU, hO, hr, hp⟩ := h
  obtain ⟨h0, y, hy, hl⟩ := hO.2.2.2.2.2.1 hd
  have e : undoA a c = sW c (mdf (fun x => (x.1, x.2.1, x.2.2.1, x.2.2.2.dropLast)) (cW c) a.2.1.toNat) := by unfold undoA; rw [if_neg (by omega), if_neg (by omega), if_neg (by omega), if_pos hd]
  rw [hr.2.1]
  have h1 := hC.2.1.2 _ _ hy
  rw [Int.toNat_of_nonneg h0] at h1
  have h2 := hG.2.1.2 _ _ hy
  have h3 := lt_of_get hy
  have h4 := hG.2.1.1
  refine ⟨by omega, hI.up (by omega) (by omega) (by omega) (by omega) (by omega), ?_, fun a b c q => qUp_ne (by omega)⟩
  rw [e]
  exact cur_cut hC h0 hy (by omega) rfl
theorem tb4 {σ : qSt} {c : aCur} {a : aAct} {p : Int} (h : tbH σ c a p) (hd : a.1 = 4) : (0 ≤ σ 40 p 3 ∧ σ 40 p 3 < 20) ∧ (0 ≤ σ 105 (σ 40 p 3) 7 ∧ σ 105 (σ 40 p 3) 7 < 8) ∧ tbQ σ c a (qUp (qUp (qUp (qUp (qUp σ 106 (σ 40 p 3) (σ 105 (σ 40 p 3) 7) (σ 41 p 0)) 107 (σ 40 p 3) (σ 105 (σ 40 p 3) 7) (σ 41 p 1)) 108 (σ 40 p 3) (σ 105 (σ 40 p 3) 7) (σ 41 p 2)) 109 (σ 40 p 3) (σ 105 (σ 40 p 3) 7) (σ 41 p 3)) 105 (σ 40 p 3) 7 (σ 105 (σ 40 p 3) 7 + 1)) := by
  obtain ⟨hI, hC, hG, hU, hO, hr, hp⟩ := h
  obtain ⟨h0, ⟨y, hy, hl⟩, hlen⟩ := hO.2.2.2.2.2.2.1 hd
  have e : undoA a c = sW c (mdf (fun x => (x.1, x.2.1, x.2.2.1, x.2.2.2 ++ [(a.2.2.2.getD 0 0, a.2.2.2.getD 1 0, a.2.2.2.getD 2 0, a.2.2.2.getD 3 0)])) (cW c) a.2.1.toNat) := by unfold undoA; rw [if_neg (by omega), if_neg (by omega), if_neg (by omega), if_neg (by omega), if_pos hd]
  have hrow := hr.2.2.2.2 (Or.inr hd)
  have r0 : σ 41 p 0 = a.2.2.2.getD 0 0 := hrow 0 _ (get_of_lt _ _ (by omega))
  have r1 : σ 41 p 1 = a.2.2.2.getD 1 0 := hrow 1 _ (get_of_lt _ _ (by omega))
  have r2 : σ 41 p 2 = a.2.2.2.getD 2 0 := hrow 2 _ (get_of_lt _ _ (by omega))
  have r3 : σ 41 p 3 = a.2.2.2.getD 3 0 := hrow 3 _ (get_of_lt _ _ (by omega))
  rw [hr.2.1]
  have h1 := hC.2.1.2 _ _ hy
  rw [Int.toNat_of_nonneg h0] at h1
  have h3 := lt_of_get hy
  have h4 := hG.2.1.1
  have hU2 := hU.2.1.2
  rw [e] at hU2
  have hg := hU2 a.2.1.toNat (y.1, y.2.1, y.2.2.1, y.2.2.2 ++ [(a.2.2.2.getD 0 0, a.2.2.2.getD 1 0, a.2.2.2.getD 2 0, a.2.2.2.getD 3 0)]) (by show (mdf _ (cW c) a.2.1.toNat)[a.2.1.toNat]? = _; rw [mdf_get, if_pos rfl, hy]; rfl)
  have hs := hg.2.2.2.2.2.2.2 y.2.2.2.length (a.2.2.2.getD 0 0, a.2.2.2.getD 1 0, a.2.2.2.getD 2 0, a.2.2.2.getD 3 0) (by show (y.2.2.2 ++ [_])[y.2.2.2.length]? = _; simp)
  rw [r0, r1, r2, r3]
  generalize a.2.2.2.getD 0 0 = s0 at *
  generalize a.2.2.2.getD 1 0 = s1 at *
  generalize a.2.2.2.getD 2 0 = s2 at *
  generalize a.2.2.2.getD 3 0 = s3 at *
  simp only at hs
  refine ⟨by omega, by omega, ?_, ?_, fun a b c q => by rw [qUp_ne (by omega), qUp_ne (by omega), qUp_ne (by omega), qUp_ne (by omega), qUp_ne (by omega)]⟩
  · exact ((((hI.up (by omega) (by omega) (by omega) (by omega) (by omega)).up (by omega) (by omega) (by omega) (by omega) (by omega)).up (by omega) (by omega) (by omega) (by omega) (by omega)).up (by omega) (by omega) (by omega) (by omega) (by omega)).up (by omega) (by omega) (by omega) (by omega) (by omega)
  · rw [e]
    exact cur_syl hC h0 hy rfl
theorem tb6 {σ : qSt} {c : aCur} {a : aAct} {p : Int} (h : tbH σ c a p) (hd : a.1 = 6) : tbQ σ c a (qUp σ 4 0 5 (σ 4 0 5 - 1)) := by
  obtain ⟨hI, hC, hG, hU, hO, hr, hp⟩ := h
  have hl := hO.2.2.2.2.2.2.2.2.1 hd
  have e : undoA a c = sT c (cT c).dropLast := by unfold undoA; rw [if_neg (by omega), if_neg (by omega), if_neg (by omega), if_neg (by omega), if_neg (by omega), if_neg (by omega), if_pos hd]
  have h1 := hC.2.2.1.1
  have h2 := hG.2.2.1.1
  refine ⟨hI.up (by omega) (by omega) (by omega) (by omega) (by omega), ?_, fun a b c q => qUp_ne (by omega)⟩
  rw [e]
  exact cur_untext hC (by omega)
theorem tb10 {σ : qSt} {c : aCur} {a : aAct} {p : Int} (h : tbH σ c a p) (hd : a.1 = 10) : tbQ σ c a (qUp σ 10 0 4 (σ 10 0 4 - 1)) := by
  obtain ⟨hI, hC, hG, hU, hO, hr, hp⟩ := h
  have hl := hO.2.2.2.2.2.2.2.2.2.2.2.2.1 hd
  have e : undoA a c = sO c (cO c).dropLast := by unfold undoA; (repeat rw [if_neg (by omega)]); rw [if_pos hd]
  have h1 := hC.2.2.2.2.2.2.2.1
  have h2 := hG.2.2.2.2.2.2.2.1
  refine ⟨hI.up (by omega) (by omega) (by omega) (by omega) (by omega), ?_, fun a b c q => qUp_ne (by omega)⟩
  rw [e]
  exact cur_unloop hC (by omega)
theorem tb11 {σ : qSt} {c : aCur} {a : aAct} {p : Int} (h : tbH σ c a p) (hd : a.1 = 11) : (0 ≤ σ 10 0 4 ∧ σ 10 0 4 < 7) ∧ tbQ σ c a (qUp (qUp σ 14 0 (σ 10 0 4) (σ 40 p 4)) 10 0 4 (σ 10 0 4 + 1)) := by
  obtain ⟨hI, hC, hG, hU, hO, hr, hp⟩ := h
  have hl := hO.2.2.2.2.2.2.2.2.2.2.2.2.2.1 hd
  have e : undoA a c = sO c (cO c ++ [a.2.2.1]) := by unfold undoA; (repeat rw [if_neg (by omega)]); rw [if_pos hd]
  have h1 := hC.2.2.2.2.2.2.2.1
  have hU2 := hU.2.2.2.2.2.2.2.2
  have hU1 := hU.1.1
  rw [e] at hU2 hU1
  have hg := hU2 (cO c).length a.2.2.1 (by show (cO c ++ [a.2.2.1])[(cO c).length]? = _; simp)
  have hpw : ∀ n : Nat, n ≤ 12 → (2 : Int) ^ n ≤ 4096 := by decide
  have hp2 := hpw _ hU1
  rw [hr.2.2.1]
  refine ⟨by omega, (hI.up (by omega) (by omega) (by omega) (by omega) (by omega)).up (by omega) (by omega) (by omega) (by omega) (by omega), ?_, fun a b c q => by rw [qUp_ne (by omega), qUp_ne (by omega)]⟩
  rw [e]
  exact cur_loop hC rfl rfl
theorem tb12 {σ : qSt} {c : aCur} {a : aAct} {p : Int} (h : tbH σ c a p) (hd : a.1 = 12) : (0 ≤ σ 40 p 3 ∧ σ 40 p 3 < 12) ∧ (0 ≤ σ 40 p 1 ∧ σ 40 p 1 ≤ 24) ∧ tbQ σ c a (qUp (qCpy σ 41 p 0 82 (σ 40 p 3) 0 (σ 40 p 1)) 81 (σ 40 p 3) 2 (σ 40 p 1)) := by
  obtain ⟨hI, hC, hG, hU, hO, hr, hp⟩ := h
  obtain ⟨h0, ⟨y, hy⟩, hlen⟩ := hO.2.2.2.2.2.2.2.2.2.2.2.2.2.2 hd
  have e : undoA a c = sL c (mdf (fun x => (x.1, a.2.2.2)) (cL c) a.2.1.toNat) := by unfold undoA; (repeat rw [if_neg (by omega)])
  have hrow := hr.2.2.2.2 (Or.inl hd)
  rw [hr.2.1, hr.2.2.2.1 hd]
  have h3 := lt_of_get hy
  have h4 := hG.1.1
  refine ⟨by omega, by omega, Iv1.cg hI (fun x b c q => ?_) ((Bd.cpy hI.1 (by omega) (by omega)).up (by omega)), ?_, fun x b c q => ?_⟩
  · rw [qUp_ne (by omega)]; unfold qCpy; rw [if_neg (by omega)]
  · rw [e]
    refine cur_change hC h0 (fun x b z q1 q2 q3 q4 q5 q6 => ?_) (qUp_eq _ _ _ _ _) (fun j s hj => ?_)
    · rw [qUp_ne (by omega)]; unfold qCpy; rw [if_neg (by omega)]
    · have := lt_of_get hj
      rw [qUp_ne (by omega)]
      unfold qCpy
      rw [if_pos (by omega), show (0 : Int) + (j - 0) = j by omega]
      exact hrow j s hj
  · rw [qUp_ne (by omega)]; unfold qCpy; rw [if_neg (by omega)]
theorem tb5 {σ : qSt} {c : aCur} {a : aAct} {p : Int} (h : tbH σ c a p) (hd : a.1 = 5) : (0 ≤ σ 40 p 3 ∧ σ 40 p 3 < 32) ∧ tbQ σ c a (qUp σ 5 0 (σ 40 p 3) (σ 40 p 4)) := by
  obtain ⟨hI, hC, hG, hU, hO, hr, hp⟩ := h
  have h0 := hO.2.2.2.2.2.2.2.1 hd
  have e : undoA a c = sN c (updF (cN c) a.2.1 a.2.2.1) := by unfold undoA; (repeat rw [if_neg (by omega)]); rw [if_pos hd]
  have hb := hI.1 40 p 4 (by omega) (by omega)
  refine ⟨by rw [hr.2.1]; exact h0, hI.up hb (by omega) (by omega) (by omega) (by omega), ?_, fun a b c q => qUp_ne (by omega)⟩
  rw [hr.2.1, hr.2.2.1, e]
  exact cur_name hC
theorem tb7 {σ : qSt} {c : aCur} {a : aAct} {p : Int} (h : tbH σ c a p) (hd : a.1 = 7) : (0 ≤ σ 40 p 3 ∧ σ 40 p 3 < 6) ∧ tbQ σ c a (qUp σ 11 0 (σ 40 p 3) (σ 40 p 4)) := by
  obtain ⟨hI, hC, hG, hU, hO, hr, hp⟩ := h
  have h0 := hO.2.2.2.2.2.2.2.2.2.1 hd
  have e : undoA a c = sA c (updF (cA c) a.2.1 a.2.2.1) := by unfold undoA; (repeat rw [if_neg (by omega)]); rw [if_pos hd]
  have hb := hI.1 40 p 4 (by omega) (by omega)
  refine ⟨by rw [hr.2.1]; exact h0, hI.up hb (by omega) (by omega) (by omega) (by omega), ?_, fun a b c q => qUp_ne (by omega)⟩
  rw [hr.2.1, hr.2.2.1, e]
  exact cur_actor hC
theorem tb8 {σ : qSt} {c : aCur} {a : aAct} {p : Int} (h : tbH σ c a p) (hd : a.1 = 8) : (0 ≤ σ 40 p 3 ∧ σ 40 p 3 < 8) ∧ tbQ σ c a (qUp σ 12 0 (σ 40 p 3) (σ 40 p 4)) := by
  obtain ⟨hI, hC, hG, hU, hO, hr, hp⟩ := h
  have h0 := hO.2.2.2.2.2.2.2.2.2.2.1 hd
  have e : undoA a c = sF c (updF (cF c) a.2.1 a.2.2.1) := by unfold undoA; (repeat rw [if_neg (by omega)]); rw [if_pos hd]
  have hb := hI.1 40 p 4 (by omega) (by omega)
  refine ⟨by rw [hr.2.1]; exact h0, hI.up hb (by omega) (by omega) (by omega) (by omega), ?_, fun a b c q => qUp_ne (by omega)⟩
  rw [hr.2.1, hr.2.2.1, e]
  exact cur_free hC
theorem tb9 {σ : qSt} {c : aCur} {a : aAct} {p : Int} (h : tbH σ c a p) (hd : a.1 = 9) : (0 ≤ σ 40 p 3 ∧ σ 40 p 3 < 4) ∧ tbQ σ c a (qUp σ 13 0 (σ 40 p 3) (σ 40 p 4)) := by
  obtain ⟨hI, hC, hG, hU, hO, hr, hp⟩ := h
  have h0 := hO.2.2.2.2.2.2.2.2.2.2.2.1 hd
  have e : undoA a c = sR c (updF (cR c) a.2.1 a.2.2.1) := by unfold undoA; (repeat rw [if_neg (by omega)]); rw [if_pos hd]
  have hb := hI.1 40 p 4 (by omega) (by omega)
  refine ⟨by rw [hr.2.1]; exact h0, hI.up hb (by omega) (by omega) (by omega) (by omega), ?_, fun a b c q => qUp_ne (by omega)⟩
  rw [hr.2.1, hr.2.2.1, e]
  exact cur_room hC
set_option maxRecDepth 20000 in
theorem c_X10_takeBackOfLines (e : qR) (l : Launch) (σ : qSt) (p : Int) (c : aCur) (a : aAct) (hH : tbH σ c a p) (hd : a.1 ≤ 4 ∨ a.1 = 12) : CM (ED e) l yX10_takeBackOfLines cX10_takeBackOfLines 2 none 4 [qr 0 0, qr 40 p] σ (Rv fun σ' => tbQ σ c a σ') := by
  refine CM.mk tD_ok (by decide +kernel) (Nat.le_of_ble_eq_true rfl) (fun G C => ?_)
  show G σ 0 [some (qr 0 0), some (qr 40 p)] []
  have hb := hH.1.1
  have hdd : σ 40 p 2 = a.1 := hH.2.2.2.2.2.1.1
  have hp1 := hH.2.2.2.2.2.2.1
  have hp2 := hH.2.2.2.2.2.2.2
  have hdr := hH.2.2.2.2.1.1
  have hds := hH.2.2.2.2.1.2.1
  refine r_aload_n C dX10_takeBackOfLines_0 rfl ?_
  refine r_get_i (c := 20) 2 C dX10_takeBackOfLines_1 fl_X10_283 rfl rfl rfl rfl (by omega) ?_
  have b1 := hb 40 p 2 (by omega) (by omega)
  rcases (by omega : (σ 40 p 2) = 0 ∨ (σ 40 p 2) = 1 ∨ (σ 40 p 2) = 2 ∨ (σ 40 p 2) = 3 ∨ (σ 40 p 2) = 4 ∨ (σ 40 p 2) = 5 ∨ (σ 40 p 2) = 6 ∨ (σ 40 p 2) = 7 ∨ (σ 40 p 2) = 8 ∨ (σ 40 p 2) = 9 ∨ (σ 40 p 2) = 10 ∨ (σ 40 p 2) = 11 ∨ (σ 40 p 2) = 12 ∨ ((σ 40 p 2) < 0 ∨ 12 < (σ 40 p 2))) with h4 | h4 | h4 | h4 | h4 | h4 | h4 | h4 | h4 | h4 | h4 | h4 | h4 | h4
  · refine r_v h4 ?_
    refine r_tabIn 72 C dX10_takeBackOfLines_4 (by decide) (by decide) (by decide) rfl (by decide) ?_
    have ea : a.1 = 0 := by omega
    have hQ := tb0 hH ea
    refine r_aload_n C dX10_takeBackOfLines_72 rfl ?_
    refine r_dup C dX10_takeBackOfLines_73 ?_
    refine r_get_i (c := 1) 10 C dX10_takeBackOfLines_74 fl_X10_73 rfl rfl rfl rfl (by decide) ?_
    have b74 := hb 0 0 10 (by omega) (by omega)
    refine r_iconst C dX10_takeBackOfLines_77 ?_
    refine r_isub C dX10_takeBackOfLines_78 ?_
    refine r_put_i (c := 1) 10 C dX10_takeBackOfLines_79 fw_X10_73 rfl rfl rfl rfl (by decide) rfl rfl ?_
    refine r_goto 179 C dX10_takeBackOfLines_82 (by decide) ?_
    refine r_vret C dX10_takeBackOfLines_179 ?_
    first | exact ⟨rfl, hQ⟩ | (exfalso; omega)
  · refine r_v h4 ?_
    refine r_tabIn 85 C dX10_takeBackOfLines_4 (by decide) (by decide) (by decide) rfl (by decide) ?_
    have ea : a.1 = 1 := by omega
    obtain ⟨hx, hQ⟩ := tb1 hH ea
    refine r_aload_n C dX10_takeBackOfLines_85 rfl ?_
    refine r_get_r (c := 1) C dX10_takeBackOfLines_86 fl_X10_11 rfl rfl rfl (by decide) rfl ?_
    refine r_aload_n C dX10_takeBackOfLines_89 rfl ?_
    refine r_get_i (c := 20) 3 C dX10_takeBackOfLines_90 fl_X10_299 rfl rfl rfl rfl (by omega) ?_
    have b90 := hb 40 p 3 (by omega) (by omega)
    refine r_aald (c := 1) (N := 12) C dX10_takeBackOfLines_93 rfl (by decide) rfl (by decide) (by omega) rfl ?_
    refine r_dup C dX10_takeBackOfLines_94 ?_
    refine r_get_i (c := 12) 2 C dX10_takeBackOfLines_95 fl_X10_108 rfl rfl rfl rfl (by omega) ?_
    have b95 := hb 81 (σ 40 p 3) 2 (by omega) (by omega)
    refine r_iconst C dX10_takeBackOfLines_98 ?_
    refine r_isub C dX10_takeBackOfLines_99 ?_
    refine r_put_i (c := 12) 2 C dX10_takeBackOfLines_100 fw_X10_108 rfl rfl rfl rfl (by omega) rfl rfl ?_
    refine r_goto 179 C dX10_takeBackOfLines_103 (by decide) ?_
    refine r_vret C dX10_takeBackOfLines_179 ?_
    first | exact ⟨rfl, hQ⟩ | (exfalso; omega)
  · refine r_v h4 ?_
    refine r_tabIn 106 C dX10_takeBackOfLines_4 (by decide) (by decide) (by decide) rfl (by decide) ?_
    have ea : a.1 = 2 := by omega
    have hQ := tb2 hH ea
    refine r_aload_n C dX10_takeBackOfLines_106 rfl ?_
    refine r_dup C dX10_takeBackOfLines_107 ?_
    refine r_get_i (c := 1) 11 C dX10_takeBackOfLines_108 fl_X10_77 rfl rfl rfl rfl (by decide) ?_
    have b108 := hb 0 0 11 (by omega) (by omega)
    refine r_iconst C dX10_takeBackOfLines_111 ?_
    refine r_isub C dX10_takeBackOfLines_112 ?_
    refine r_put_i (c := 1) 11 C dX10_takeBackOfLines_113 fw_X10_77 rfl rfl rfl rfl (by decide) rfl rfl ?_
    refine r_goto 179 C dX10_takeBackOfLines_116 (by decide) ?_
    refine r_vret C dX10_takeBackOfLines_179 ?_
    first | exact ⟨rfl, hQ⟩ | (exfalso; omega)
  · refine r_v h4 ?_
    refine r_tabIn 119 C dX10_takeBackOfLines_4 (by decide) (by decide) (by decide) rfl (by decide) ?_
    have ea : a.1 = 3 := by omega
    obtain ⟨hx, hQ⟩ := tb3 hH ea
    refine r_aload_n C dX10_takeBackOfLines_119 rfl ?_
    refine r_get_r (c := 1) C dX10_takeBackOfLines_120 fl_X10_17 rfl rfl rfl (by decide) rfl ?_
    refine r_aload_n C dX10_takeBackOfLines_123 rfl ?_
    refine r_get_i (c := 20) 3 C dX10_takeBackOfLines_124 fl_X10_299 rfl rfl rfl rfl (by omega) ?_
    have b124 := hb 40 p 3 (by omega) (by omega)
    refine r_aald (c := 1) (N := 20) C dX10_takeBackOfLines_127 rfl (by decide) rfl (by decide) (by omega) rfl ?_
    refine r_dup C dX10_takeBackOfLines_128 ?_
    refine r_get_i (c := 20) 7 C dX10_takeBackOfLines_129 fl_X10_128 rfl rfl rfl rfl (by omega) ?_
    have b129 := hb 105 (σ 40 p 3) 7 (by omega) (by omega)
    refine r_iconst C dX10_takeBackOfLines_132 ?_
    refine r_isub C dX10_takeBackOfLines_133 ?_
    refine r_put_i (c := 20) 7 C dX10_takeBackOfLines_134 fw_X10_128 rfl rfl rfl rfl (by omega) rfl rfl ?_
    refine r_goto 179 C dX10_takeBackOfLines_137 (by decide) ?_
    refine r_vret C dX10_takeBackOfLines_179 ?_
    first | exact ⟨rfl, hQ⟩ | (exfalso; omega)
  · refine r_v h4 ?_
    refine r_tabIn 140 C dX10_takeBackOfLines_4 (by decide) (by decide) (by decide) rfl (by decide) ?_
    have ea : a.1 = 4 := by omega
    obtain ⟨hx, hy, hQ⟩ := tb4 hH ea
    refine r_aload_n C dX10_takeBackOfLines_140 rfl ?_
    refine r_aload_n C dX10_takeBackOfLines_141 rfl ?_
    refine r_get_r (c := 1) C dX10_takeBackOfLines_142 fl_X10_17 rfl rfl rfl (by decide) rfl ?_
    refine r_aload_n C dX10_takeBackOfLines_145 rfl ?_
    refine r_get_i (c := 20) 3 C dX10_takeBackOfLines_146 fl_X10_299 rfl rfl rfl rfl (by omega) ?_
    have b146 := hb 40 p 3 (by omega) (by omega)
    refine r_aald (c := 1) (N := 20) C dX10_takeBackOfLines_149 rfl (by decide) rfl (by decide) (by omega) rfl ?_
    refine r_cvv (c := 20) C dX10_takeBackOfLines_150 mv_X10_302 (c_X0_giveSyllableBack e l _ _ _ (by omega) (by omega) (by omega)) (by decide) rfl rfl rfl rfl (by omega) rfl rfl (Nat.le_of_ble_eq_true rfl) (fun σ150 h150 => ?_)
    subst h150
    refine r_goto 179 C dX10_takeBackOfLines_153 (by decide) ?_
    refine r_vret C dX10_takeBackOfLines_179 ?_
    first | exact ⟨rfl, hQ⟩ | (exfalso; omega)
  · refine r_v h4 ?_
    refine r_tabIn 179 C dX10_takeBackOfLines_4 (by decide) (by decide) (by decide) rfl (by decide) ?_
    refine r_vret C dX10_takeBackOfLines_179 ?_
    first | exact ⟨rfl, hQ⟩ | (exfalso; omega)
  · refine r_v h4 ?_
    refine r_tabIn 179 C dX10_takeBackOfLines_4 (by decide) (by decide) (by decide) rfl (by decide) ?_
    refine r_vret C dX10_takeBackOfLines_179 ?_
    first | exact ⟨rfl, hQ⟩ | (exfalso; omega)
  · refine r_v h4 ?_
    refine r_tabIn 179 C dX10_takeBackOfLines_4 (by decide) (by decide) (by decide) rfl (by decide) ?_
    refine r_vret C dX10_takeBackOfLines_179 ?_
    first | exact ⟨rfl, hQ⟩ | (exfalso; omega)
  · refine r_v h4 ?_
    refine r_tabIn 179 C dX10_takeBackOfLines_4 (by decide) (by decide) (by decide) rfl (by decide) ?_
    refine r_vret C dX10_takeBackOfLines_179 ?_
    first | exact ⟨rfl, hQ⟩ | (exfalso; omega)
  · refine r_v h4 ?_
    refine r_tabIn 179 C dX10_takeBackOfLines_4 (by decide) (by decide) (by decide) rfl (by decide) ?_
    refine r_vret C dX10_takeBackOfLines_179 ?_
    first | exact ⟨rfl, hQ⟩ | (exfalso; omega)
  · refine r_v h4 ?_
    refine r_tabIn 179 C dX10_takeBackOfLines_4 (by decide) (by decide) (by decide) rfl (by decide) ?_
    refine r_vret C dX10_takeBackOfLines_179 ?_
    first | exact ⟨rfl, hQ⟩ | (exfalso; omega)
  · refine r_v h4 ?_
    refine r_tabIn 179 C dX10_takeBackOfLines_4 (by decide) (by decide) (by decide) rfl (by decide) ?_
    refine r_vret C dX10_takeBackOfLines_179 ?_
    first | exact ⟨rfl, hQ⟩ | (exfalso; omega)
  · refine r_v h4 ?_
    refine r_tabIn 156 C dX10_takeBackOfLines_4 (by decide) (by decide) (by decide) rfl (by decide) ?_
    have ea : a.1 = 12 := by omega
    obtain ⟨hx, hy, hQ⟩ := tb12 hH ea
    refine r_aload_n C dX10_takeBackOfLines_156 rfl ?_
    refine r_get_r (c := 1) C dX10_takeBackOfLines_157 fl_X10_11 rfl rfl rfl (by decide) rfl ?_
    refine r_aload_n C dX10_takeBackOfLines_160 rfl ?_
    refine r_get_i (c := 20) 3 C dX10_takeBackOfLines_161 fl_X10_299 rfl rfl rfl rfl (by omega) ?_
    have b161 := hb 40 p 3 (by omega) (by omega)
    refine r_aald (c := 1) (N := 12) C dX10_takeBackOfLines_164 rfl (by decide) rfl (by decide) (by omega) rfl ?_
    refine r_aload_n C dX10_takeBackOfLines_165 rfl ?_
    refine r_get_r (c := 20) C dX10_takeBackOfLines_166 fl_X10_305 rfl rfl rfl (by omega) rfl ?_
    refine r_aload_n C dX10_takeBackOfLines_169 rfl ?_
    refine r_get_i (c := 20) 1 C dX10_takeBackOfLines_170 fl_X10_308 rfl rfl rfl rfl (by omega) ?_
    have b170 := hb 40 p 1 (by omega) (by omega)
    refine r_cvv (c := 12) C dX10_takeBackOfLines_173 mv_X10_250 (c_X5_takeFrames_a e l _ _ _ _ (by omega) (by omega) (by omega)) (by decide) rfl rfl rfl rfl (by omega) rfl rfl (Nat.le_of_ble_eq_true rfl) (fun σ173 h173 => ?_)
    subst h173
    refine r_goto 179 C dX10_takeBackOfLines_176 (by decide) ?_
    refine r_vret C dX10_takeBackOfLines_179 ?_
    first | exact ⟨rfl, hQ⟩ | (exfalso; omega)
  · refine r_tabOut 179 C dX10_takeBackOfLines_4 (by decide) (by omega) h4 ?_
    refine r_vret C dX10_takeBackOfLines_179 ?_
    first | exact ⟨rfl, hQ⟩ | (exfalso; omega)
set_option maxRecDepth 20000 in
theorem c_X10_takeBackOfOthers (e : qR) (l : Launch) (σ : qSt) (p : Int) (c : aCur) (a : aAct) (hH : tbH σ c a p) (hd : 4 < a.1 ∧ a.1 ≠ 12) : CM (ED e) l yX10_takeBackOfOthers cX10_takeBackOfOthers 2 none 4 [qr 0 0, qr 40 p] σ (Rv fun σ' => tbQ σ c a σ') := by
  refine CM.mk tD_ok (by decide +kernel) (Nat.le_of_ble_eq_true rfl) (fun G C => ?_)
  show G σ 0 [some (qr 0 0), some (qr 40 p)] []
  have hb := hH.1.1
  have hdd : σ 40 p 2 = a.1 := hH.2.2.2.2.2.1.1
  have hp1 := hH.2.2.2.2.2.2.1
  have hp2 := hH.2.2.2.2.2.2.2
  have hdr := hH.2.2.2.2.1.1
  have hds := hH.2.2.2.2.1.2.1
  refine r_aload_n C dX10_takeBackOfOthers_0 rfl ?_
  refine r_get_i (c := 20) 2 C dX10_takeBackOfOthers_1 fl_X10_283 rfl rfl rfl rfl (by omega) ?_
  have b1 := hb 40 p 2 (by omega) (by omega)
  rcases (by omega : (σ 40 p 2) = 5 ∨ (σ 40 p 2) = 6 ∨ (σ 40 p 2) = 7 ∨ (σ 40 p 2) = 8 ∨ (σ 40 p 2) = 9 ∨ (σ 40 p 2) = 10 ∨ (σ 40 p 2) = 11 ∨ ((σ 40 p 2) < 5 ∨ 11 < (σ 40 p 2))) with h4 | h4 | h4 | h4 | h4 | h4 | h4 | h4
  · refine r_v h4 ?_
    refine r_tabIn 48 C dX10_takeBackOfOthers_4 (by decide) (by decide) (by decide) rfl (by decide) ?_
    have ea : a.1 = 5 := by omega
    obtain ⟨hx, hQ⟩ := tb5 hH ea
    refine r_aload_n C dX10_takeBackOfOthers_48 rfl ?_
    refine r_get_r (c := 1) C dX10_takeBackOfOthers_49 fl_X10_30 rfl rfl rfl (by decide) rfl ?_
    refine r_get_r (c := 1) C dX10_takeBackOfOthers_52 fl_X10_175 rfl rfl rfl (by decide) rfl ?_
    refine r_aload_n C dX10_takeBackOfOthers_55 rfl ?_
    refine r_get_i (c := 20) 3 C dX10_takeBackOfOthers_56 fl_X10_299 rfl rfl rfl rfl (by omega) ?_
    have b56 := hb 40 p 3 (by omega) (by omega)
    refine r_aload_n C dX10_takeBackOfOthers_59 rfl ?_
    refine r_get_i (c := 20) 4 C dX10_takeBackOfOthers_60 fl_X10_311 rfl rfl rfl rfl (by omega) ?_
    have b60 := hb 40 p 4 (by omega) (by omega)
    refine r_iast (c := 1) (N := 32) C dX10_takeBackOfOthers_63 rfl rfl (by decide) (by omega) ?_
    refine r_goto 170 C dX10_takeBackOfOthers_64 (by decide) ?_
    refine r_vret C dX10_takeBackOfOthers_170 ?_
    first | exact ⟨rfl, hQ⟩ | (exfalso; omega)
  · refine r_v h4 ?_
    refine r_tabIn 67 C dX10_takeBackOfOthers_4 (by decide) (by decide) (by decide) rfl (by decide) ?_
    have ea : a.1 = 6 := by omega
    have hQ := tb6 hH ea
    refine r_aload_n C dX10_takeBackOfOthers_67 rfl ?_
    refine r_get_r (c := 1) C dX10_takeBackOfOthers_68 fl_X10_30 rfl rfl rfl (by decide) rfl ?_
    refine r_dup C dX10_takeBackOfOthers_71 ?_
    refine r_get_i (c := 1) 5 C dX10_takeBackOfOthers_72 fl_X10_178 rfl rfl rfl rfl (by decide) ?_
    have b72 := hb 4 0 5 (by omega) (by omega)
    refine r_iconst C dX10_takeBackOfOthers_75 ?_
    refine r_isub C dX10_takeBackOfOthers_76 ?_
    refine r_put_i (c := 1) 5 C dX10_takeBackOfOthers_77 fw_X10_178 rfl rfl rfl rfl (by decide) rfl rfl ?_
    refine r_goto 170 C dX10_takeBackOfOthers_80 (by decide) ?_
    refine r_vret C dX10_takeBackOfOthers_170 ?_
    first | exact ⟨rfl, hQ⟩ | (exfalso; omega)
  · refine r_v h4 ?_
    refine r_tabIn 83 C dX10_takeBackOfOthers_4 (by decide) (by decide) (by decide) rfl (by decide) ?_
    have ea : a.1 = 7 := by omega
    obtain ⟨hx, hQ⟩ := tb7 hH ea
    refine r_aload_n C dX10_takeBackOfOthers_83 rfl ?_
    refine r_get_r (c := 1) C dX10_takeBackOfOthers_84 fl_X10_37 rfl rfl rfl (by decide) rfl ?_
    refine r_get_r (c := 1) C dX10_takeBackOfOthers_87 fl_X10_200 rfl rfl rfl (by decide) rfl ?_
    refine r_aload_n C dX10_takeBackOfOthers_90 rfl ?_
    refine r_get_i (c := 20) 3 C dX10_takeBackOfOthers_91 fl_X10_299 rfl rfl rfl rfl (by omega) ?_
    have b91 := hb 40 p 3 (by omega) (by omega)
    refine r_aload_n C dX10_takeBackOfOthers_94 rfl ?_
    refine r_get_i (c := 20) 4 C dX10_takeBackOfOthers_95 fl_X10_311 rfl rfl rfl rfl (by omega) ?_
    have b95 := hb 40 p 4 (by omega) (by omega)
    refine r_iast (c := 1) (N := 6) C dX10_takeBackOfOthers_98 rfl rfl (by decide) (by omega) ?_
    refine r_goto 170 C dX10_takeBackOfOthers_99 (by decide) ?_
    refine r_vret C dX10_takeBackOfOthers_170 ?_
    first | exact ⟨rfl, hQ⟩ | (exfalso; omega)
  · refine r_v h4 ?_
    refine r_tabIn 102 C dX10_takeBackOfOthers_4 (by decide) (by decide) (by decide) rfl (by decide) ?_
    have ea : a.1 = 8 := by omega
    obtain ⟨hx, hQ⟩ := tb8 hH ea
    refine r_aload_n C dX10_takeBackOfOthers_102 rfl ?_
    refine r_get_r (c := 1) C dX10_takeBackOfOthers_103 fl_X10_37 rfl rfl rfl (by decide) rfl ?_
    refine r_get_r (c := 1) C dX10_takeBackOfOthers_106 fl_X10_203 rfl rfl rfl (by decide) rfl ?_
    refine r_aload_n C dX10_takeBackOfOthers_109 rfl ?_
    refine r_get_i (c := 20) 3 C dX10_takeBackOfOthers_110 fl_X10_299 rfl rfl rfl rfl (by omega) ?_
    have b110 := hb 40 p 3 (by omega) (by omega)
    refine r_aload_n C dX10_takeBackOfOthers_113 rfl ?_
    refine r_get_i (c := 20) 4 C dX10_takeBackOfOthers_114 fl_X10_311 rfl rfl rfl rfl (by omega) ?_
    have b114 := hb 40 p 4 (by omega) (by omega)
    refine r_iast (c := 1) (N := 8) C dX10_takeBackOfOthers_117 rfl rfl (by decide) (by omega) ?_
    refine r_goto 170 C dX10_takeBackOfOthers_118 (by decide) ?_
    refine r_vret C dX10_takeBackOfOthers_170 ?_
    first | exact ⟨rfl, hQ⟩ | (exfalso; omega)
  · refine r_v h4 ?_
    refine r_tabIn 121 C dX10_takeBackOfOthers_4 (by decide) (by decide) (by decide) rfl (by decide) ?_
    have ea : a.1 = 9 := by omega
    obtain ⟨hx, hQ⟩ := tb9 hH ea
    refine r_aload_n C dX10_takeBackOfOthers_121 rfl ?_
    refine r_get_r (c := 1) C dX10_takeBackOfOthers_122 fl_X10_37 rfl rfl rfl (by decide) rfl ?_
    refine r_get_r (c := 1) C dX10_takeBackOfOthers_125 fl_X10_206 rfl rfl rfl (by decide) rfl ?_
    refine r_aload_n C dX10_takeBackOfOthers_128 rfl ?_
    refine r_get_i (c := 20) 3 C dX10_takeBackOfOthers_129 fl_X10_299 rfl rfl rfl rfl (by omega) ?_
    have b129 := hb 40 p 3 (by omega) (by omega)
    refine r_aload_n C dX10_takeBackOfOthers_132 rfl ?_
    refine r_get_i (c := 20) 4 C dX10_takeBackOfOthers_133 fl_X10_311 rfl rfl rfl rfl (by omega) ?_
    have b133 := hb 40 p 4 (by omega) (by omega)
    refine r_iast (c := 1) (N := 4) C dX10_takeBackOfOthers_136 rfl rfl (by decide) (by omega) ?_
    refine r_goto 170 C dX10_takeBackOfOthers_137 (by decide) ?_
    refine r_vret C dX10_takeBackOfOthers_170 ?_
    first | exact ⟨rfl, hQ⟩ | (exfalso; omega)
  · refine r_v h4 ?_
    refine r_tabIn 140 C dX10_takeBackOfOthers_4 (by decide) (by decide) (by decide) rfl (by decide) ?_
    have ea : a.1 = 10 := by omega
    have hQ := tb10 hH ea
    refine r_aload_n C dX10_takeBackOfOthers_140 rfl ?_
    refine r_get_r (c := 1) C dX10_takeBackOfOthers_141 fl_X10_37 rfl rfl rfl (by decide) rfl ?_
    refine r_dup C dX10_takeBackOfOthers_144 ?_
    refine r_get_i (c := 1) 4 C dX10_takeBackOfOthers_145 fl_X10_209 rfl rfl rfl rfl (by decide) ?_
    have b145 := hb 10 0 4 (by omega) (by omega)
    refine r_iconst C dX10_takeBackOfOthers_148 ?_
    refine r_isub C dX10_takeBackOfOthers_149 ?_
    refine r_put_i (c := 1) 4 C dX10_takeBackOfOthers_150 fw_X10_209 rfl rfl rfl rfl (by decide) rfl rfl ?_
    refine r_goto 170 C dX10_takeBackOfOthers_153 (by decide) ?_
    refine r_vret C dX10_takeBackOfOthers_170 ?_
    first | exact ⟨rfl, hQ⟩ | (exfalso; omega)
  · refine r_v h4 ?_
    refine r_tabIn 156 C dX10_takeBackOfOthers_4 (by decide) (by decide) (by decide) rfl (by decide) ?_
    have ea : a.1 = 11 := by omega
    obtain ⟨hx, hQ⟩ := tb11 hH ea
    refine r_aload_n C dX10_takeBackOfOthers_156 rfl ?_
    refine r_get_r (c := 1) C dX10_takeBackOfOthers_157 fl_X10_37 rfl rfl rfl (by decide) rfl ?_
    refine r_aload_n C dX10_takeBackOfOthers_160 rfl ?_
    refine r_get_i (c := 20) 4 C dX10_takeBackOfOthers_161 fl_X10_311 rfl rfl rfl rfl (by omega) ?_
    have b161 := hb 40 p 4 (by omega) (by omega)
    refine r_cvv (c := 1) C dX10_takeBackOfOthers_164 mv_X10_212 (c_X1_appendLoop e l _ _ (by omega)) (by decide) rfl rfl rfl rfl (by decide) rfl rfl (Nat.le_of_ble_eq_true rfl) (fun σ164 h164 => ?_)
    subst h164
    refine r_goto 170 C dX10_takeBackOfOthers_167 (by decide) ?_
    refine r_vret C dX10_takeBackOfOthers_170 ?_
    first | exact ⟨rfl, hQ⟩ | (exfalso; omega)
  · refine r_tabOut 170 C dX10_takeBackOfOthers_4 (by decide) (by omega) h4 ?_
    refine r_vret C dX10_takeBackOfOthers_170 ?_
    first | exact ⟨rfl, hQ⟩ | (exfalso; omega)
theorem ud_pre {σ σ1 : qSt} {A : aSt} {a : aAct} {r : List aAct} {i : Int} (hR : RelD σ A) (hA : AOk A) (hacts : A.2.1 = a :: r) (hi : i = if 0 < σ 38 0 1 then σ 38 0 1 - 1 else 19) (h : σ1 = qUp (qUp σ 38 0 1 (if 0 < σ 38 0 1 then σ 38 0 1 - 1 else 19)) 38 0 2 (σ 38 0 2 - 1)) : tbH (qUp σ1 15 0 9 0) A.1 a i ∧ RH σ1 r := by
  have hH := hR.2.2.2.1
  rw [hacts] at hH
  have hch := hA.2.2.1
  rw [hacts] at hch
  have q := hH
  obtain ⟨q1, q2, q3, q4, q5⟩ := q
  have e : ∀ (x : Nat) (b c : Int), x ≠ 38 → ¬ (x = 15 ∧ c = 9) → qUp σ1 15 0 9 0 x b c = σ x b c := fun x b c h1 h2 => by rw [qUp_ne (by omega), h, qUp_ne (by omega), qUp_ne (by omega)]
  obtain ⟨p1, p2⟩ := hH.pop (τ := σ1) (by rw [h, qUp_ne (by omega), qUp_eq]) (by rw [h, qUp_eq]) (fun p c => by rw [h]; exact ⟨by rw [qUp_ne (by omega), qUp_ne (by omega)], by rw [qUp_ne (by omega), qUp_ne (by omega)]⟩)
  rw [← hi] at p2
  have hb : Bd (qUp σ1 15 0 9 0) := by
    rw [h]
    simp only [List.length_cons] at q3 q4
    exact ((hR.1.1.up (by split <;> omega)).up (by omega)).up (by omega)
  refine ⟨⟨hR.1.one.cg (fun x b c q => e x b c (by omega) (by omega)) hb, hR.2.2.1.cg (fun x b c z1 z2 z3 z4 => e x b c (by omega) (by omega)), hA.1, hch.2.1, hch.1, p2.cg (fun c => e _ _ _ (by omega) (by omega)) (fun c => e _ _ _ (by omega) (by omega)), ?_, ?_⟩, p1⟩
  · rw [hi]; split <;> omega
  · rw [hi]; split <;> omega
theorem ud_post {σ σ1 τ : qSt} {A : aSt} {a : aAct} {r : List aAct} (hR : RelD σ A) (h : σ1 = qUp (qUp σ 38 0 1 (if 0 < σ 38 0 1 then σ 38 0 1 - 1 else 19)) 38 0 2 (σ 38 0 2 - 1)) (hH : RH σ1 r) (hQ : tbQ (qUp σ1 15 0 9 0) A.1 a τ) : RelD τ (undoA a A.1, r, A.2.2) ∧ τ 38 0 2 = (r.length : Int) := by
  obtain ⟨t1, t2, t3⟩ := hQ
  have e : ∀ (x : Nat) (b c : Int), (15 ≤ x ∧ x ≤ 41) ∨ x = 205 ∨ x = 206 ∨ (x = 0 ∧ c = 12) → ¬ (x = 15 ∧ c = 9) → τ x b c = σ1 x b c := fun x b c q1 q2 => by rw [t3 x b c q1, qUp_ne (by omega)]
  have e1 : ∀ (x : Nat) (b c : Int), x ≠ 38 → σ1 x b c = σ x b c := fun x b c q => by rw [h, qUp_ne (by omega), qUp_ne (by omega)]
  refine ⟨⟨⟨t1.1, fun j a b => ?_, t1.2⟩, Or.inl ?_, t2, hH.cg (fun c => e _ _ _ (by omega) (by omega)) (fun b c => e _ _ _ (by omega) (by omega)) (fun b c => e _ _ _ (by omega) (by omega)), hR.2.2.2.2.1.cg (fun b c => by rw [e _ _ _ (by omega) (by omega), e1 _ _ _ (by omega)]) (fun b c => by rw [e _ _ _ (by omega) (by omega), e1 _ _ _ (by omega)]), ?_⟩, ?_⟩
  · rw [e 16 _ _ (by omega) (by omega), e 17 _ _ (by omega) (by omega), e 18 _ _ (by omega) (by omega), e1 _ _ _ (by omega), e1 _ _ _ (by omega), e1 _ _ _ (by omega)]
    exact hR.1.2.1 j a b
  · rw [t3 _ _ _ (by omega), qUp_eq]
  · rw [e _ _ _ (by omega) (by omega), e1 _ _ _ (by omega)]
    exact hR.2.2.2.2.2
  · rw [e _ _ _ (by omega) (by omega)]
    exact hH.2.2.1
set_option maxRecDepth 20000 in
theorem o_undo (e : qR) (l : Launch) (σ : qSt) (A : aSt) (hR : RelD σ A) (hA : AOk A)   : CM (ED e) l yX10_undo cX10_undo 2 (some .int) 20 [qr 0 0] σ (Ri fun z σ' => z = (oUndo A).1 ∧ RelD σ' (oUndo A).2) := by
  refine CM.mk tD_ok (by decide +kernel) (Nat.le_of_ble_eq_true rfl) (fun G C => ?_)
  show G σ 0 [some (qr 0 0), none] []
  obtain ⟨hb, e10, n10, m10, e11, n11, m11, e5, n5, m5, e4, n4, m4, h381, h382, h383, h384⟩ := dF hR hA
  refine r_aload_n C dX10_undo_0 rfl ?_
  refine r_get_r (c := 1) C dX10_undo_1 fl_X10_65 rfl rfl rfl (by decide) rfl ?_
  refine r_get_i (c := 1) 2 C dX10_undo_4 fl_X10_272 rfl rfl rfl rfl (by decide) ?_
  have b4 := hb 38 0 2 (by omega) (by omega)
  refine r_if_gt 17 C dX10_undo_7 (by decide) (by omega) (fun h7 => ?_) (fun h7 => ?_)
  · obtain ⟨a, r, hacts⟩ : ∃ a r, A.2.1 = a :: r := by
      cases hq : A.2.1 with
      | nil => exfalso; have := hR.2.2.2.1.2.2.1; rw [hq] at this; simp at this; omega
      | cons a r => exact ⟨a, r, rfl⟩
    refine r_aload_n C dX10_undo_17 rfl ?_
    refine r_get_r (c := 1) C dX10_undo_18 fl_X10_65 rfl rfl rfl (by decide) rfl ?_
    refine r_cvr (c := 1) C dX10_undo_21 mv_X10_275 (c_X3_takeLatest e l _ (by omega) (by omega) (by omega)) (by decide) rfl rfl rfl rfl (by decide) rfl rfl (Nat.le_of_ble_eq_true rfl) (fun k21 i21 σ21 h21 => ?_)
    obtain ⟨rfl, hi21, h21⟩ := h21
    obtain ⟨up, uq⟩ := ud_pre hR hA hacts hi21 h21
    have hdd : σ21 40 i21 2 = a.1 := by have h9 := up.2.2.2.2.2.1.1; rwa [qUp_ne (by omega)] at h9
    have hp1 := up.2.2.2.2.2.2.1
    have hp2 := up.2.2.2.2.2.2.2
    have hdr := up.2.2.2.2.1.1
    have hds := up.2.2.2.2.1.2.1
    refine r_astore_n C dX10_undo_24 rfl rfl (by decide) ?_
    refine r_aload_n C dX10_undo_25 rfl ?_
    refine r_get_r (c := 1) C dX10_undo_26 fl_X10_44 rfl rfl rfl (by decide) rfl ?_
    refine r_iconst C dX10_undo_29 ?_
    refine r_put_i (c := 1) 9 C dX10_undo_30 fw_X10_279 rfl rfl rfl rfl (by decide) rfl rfl ?_
    refine r_aload_n C dX10_undo_33 rfl ?_
    refine r_get_i (c := 20) 2 C dX10_undo_34 fl_X10_283 rfl rfl rfl rfl (by omega) ?_
    refine r_v (b := (σ21 40 i21 2)) (by simp [qUp, qCpy]) ?_
    refine r_iconst C dX10_undo_37 ?_
    refine r_ic_le 50 C dX10_undo_38 (by decide) (by omega) (by omega) (fun h38 => ?_) (fun h38 => ?_)
    · refine r_aload_n C dX10_undo_50 rfl ?_
      refine r_aload_n C dX10_undo_51 rfl ?_
      refine r_cvv (c := 1) C dX10_undo_52 mv_X10_286 (c_X10_takeBackOfLines e l _ _ A.1 a up (by omega)) (by decide) rfl rfl rfl rfl (by decide) rfl rfl (Nat.le_of_ble_eq_true rfl) (fun σ52 h52 => ?_)
      obtain ⟨σq, hq⟩ : ∃ s, s = σ52 := ⟨_, rfl⟩
      rw [← hq] at h52 ⊢
      obtain ⟨v1, v2⟩ := ud_post hR h21 uq h52
      refine r_goto 63 C dX10_undo_55 (by decide) ?_
      refine r_aload_n C dX10_undo_63 rfl ?_
      refine r_get_r (c := 1) C dX10_undo_64 fl_X10_65 rfl rfl rfl (by decide) rfl ?_
      refine r_get_i (c := 1) 2 C dX10_undo_67 fl_X10_272 rfl rfl rfl rfl (by decide) ?_
      refine r_iret C dX10_undo_70 ?_
      have e1 : oUndo A = ((r.length : Int), undoA a A.1, r, A.2.2) := by unfold oUndo; rw [hacts]
      exact ⟨_, rfl, by rw [e1]; exact v2, by rw [e1]; exact v1⟩
    · refine r_aload_n C dX10_undo_41 rfl ?_
      refine r_get_i (c := 20) 2 C dX10_undo_42 fl_X10_283 rfl rfl rfl rfl (by omega) ?_
      refine r_v (b := (σ21 40 i21 2)) (by simp [qUp, qCpy]) ?_
      refine r_bipush C dX10_undo_45 ?_
      refine r_ic_ne 58 C dX10_undo_47 (by decide) (by omega) (by omega) (fun h47 => ?_) (fun h47 => ?_)
      · refine r_aload_n C dX10_undo_58 rfl ?_
        refine r_aload_n C dX10_undo_59 rfl ?_
        refine r_cvv (c := 1) C dX10_undo_60 mv_X10_290 (c_X10_takeBackOfOthers e l _ _ A.1 a up (by omega)) (by decide) rfl rfl rfl rfl (by decide) rfl rfl (Nat.le_of_ble_eq_true rfl) (fun σ60 h60 => ?_)
        obtain ⟨σq, hq⟩ : ∃ s, s = σ60 := ⟨_, rfl⟩
        rw [← hq] at h60 ⊢
        obtain ⟨v1, v2⟩ := ud_post hR h21 uq h60
        refine r_aload_n C dX10_undo_63 rfl ?_
        refine r_get_r (c := 1) C dX10_undo_64 fl_X10_65 rfl rfl rfl (by decide) rfl ?_
        refine r_get_i (c := 1) 2 C dX10_undo_67 fl_X10_272 rfl rfl rfl rfl (by decide) ?_
        refine r_iret C dX10_undo_70 ?_
        have e1 : oUndo A = ((r.length : Int), undoA a A.1, r, A.2.2) := by unfold oUndo; rw [hacts]
        exact ⟨_, rfl, by rw [e1]; exact v2, by rw [e1]; exact v1⟩
      · refine r_aload_n C dX10_undo_50 rfl ?_
        refine r_aload_n C dX10_undo_51 rfl ?_
        refine r_cvv (c := 1) C dX10_undo_52 mv_X10_286 (c_X10_takeBackOfLines e l _ _ A.1 a up (by omega)) (by decide) rfl rfl rfl rfl (by decide) rfl rfl (Nat.le_of_ble_eq_true rfl) (fun σ52 h52 => ?_)
        obtain ⟨σq, hq⟩ : ∃ s, s = σ52 := ⟨_, rfl⟩
        rw [← hq] at h52 ⊢
        obtain ⟨v1, v2⟩ := ud_post hR h21 uq h52
        refine r_goto 63 C dX10_undo_55 (by decide) ?_
        refine r_aload_n C dX10_undo_63 rfl ?_
        refine r_get_r (c := 1) C dX10_undo_64 fl_X10_65 rfl rfl rfl (by decide) rfl ?_
        refine r_get_i (c := 1) 2 C dX10_undo_67 fl_X10_272 rfl rfl rfl rfl (by decide) ?_
        refine r_iret C dX10_undo_70 ?_
        have e1 : oUndo A = ((r.length : Int), undoA a A.1, r, A.2.2) := by unfold oUndo; rw [hacts]
        exact ⟨_, rfl, by rw [e1]; exact v2, by rw [e1]; exact v1⟩
  · refine r_aload_n C dX10_undo_10 rfl ?_
    refine r_ldc C dX10_undo_11 kc_X10_135 ?_
    refine r_cvi (c := 1) C dX10_undo_13 mv_X10_91 (c_X10_finding e l _ _) (by decide) rfl rfl rfl rfl (by decide) rfl rfl (Nat.le_of_ble_eq_true rfl) (fun z13 σ13 h13 => ?_)
    obtain ⟨rfl, rfl⟩ := h13
    refine r_iret C dX10_undo_16 ?_
    have e1 : oUndo A = fnd A (-100006) := by
      unfold oUndo
      cases hq : A.2.1 with
      | nil => rfl
      | cons a r => exfalso; have := hR.2.2.2.1.2.2.1; rw [hq] at this; simp at this; omega
    exact ⟨_, rfl, by rw [e1]; rfl, by rw [e1]; exact rel_fnd hR _⟩
