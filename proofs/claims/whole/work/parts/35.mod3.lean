/-! digits -/
theorem dg_put (a s : Int) (n : Nat) (hs : 0 ≤ s ∧ s < 4) : dg (a - dg a n * 4 ^ n + s * 4 ^ n) n = s ∧ ∀ j : Nat, j ≠ n → dg (a - dg a n * 4 ^ n + s * 4 ^ n) j = dg a j := by
  have hp : ∀ k : Nat, (0 : Int) < 4 ^ k := fun k => Int.pow_pos (by decide)
  have hb : a - dg a n * 4 ^ n + s * 4 ^ n = a + (s - dg a n) * 4 ^ n := by rw [Int.sub_mul]; omega
  rw [hb]
  unfold dg
  simp only [Int.toNat_natCast]
  refine ⟨?_, fun j hj => ?_⟩
  · rw [Int.add_mul_ediv_right _ _ (by have := hp n; omega)]
    omega
  · rcases Nat.lt_or_gt_of_ne hj with q | q
    · have e : (4 : Int) ^ n = 4 * 4 ^ (n - j - 1) * 4 ^ j := by
        rw [Int.mul_assoc, ← Int.pow_add, ← Int.pow_succ']
        congr 1
        omega
      rw [e, ← Int.mul_assoc, Int.add_mul_ediv_right _ _ (by have := hp j; omega), ← Int.mul_assoc, Int.mul_comm _ 4, Int.mul_assoc]
      generalize (s - a / (4 * 4 ^ (n - j - 1) * 4 ^ j) % 4) * 4 ^ (n - j - 1) = K
      omega
    · have e : (4 : Int) ^ j = 4 ^ n * 4 * 4 ^ (j - n - 1) := by
        rw [← Int.pow_succ, ← Int.pow_add]
        congr 1
        omega
      rw [e, ← Int.ediv_ediv_of_nonneg (by have := hp n; omega), ← Int.ediv_ediv_of_nonneg (by have := hp n; omega), ← Int.ediv_ediv_of_nonneg (by have := hp n; omega), ← Int.ediv_ediv_of_nonneg (by have := hp n; omega), Int.add_mul_ediv_right _ _ (by have := hp n; omega)]
      congr 2
      omega
/-! the present behind each act, in the reference's rows -/
theorem RN_line {f g f' g' : Int → Int} {c : aCur} {p n : Int} (h : RN f g c) (hG : Good c) (hl : (cL c).length < 12) (hn : n = f 0) (h0 : f' 0 = n + 1) (h4 : f' (4 + n) = p) (h16 : f' (16 + n) = 0) (ho : ∀ j, j ≠ 0 ∧ j ≠ 4 + n ∧ j ≠ 16 + n → f' j = f j) (hg : ∀ j, j ≠ n → g' j = g j) : RN f' g' (sL c (cL c ++ [(p, [])])) := by
  obtain ⟨r1, r2, r3, r4, r5, r6, r7, r8⟩ := h
  obtain ⟨g1, g2, g3, g4, g5, g6, g7, g8⟩ := hG
  have hlen := r1.1
  refine ⟨⟨?_, fun i x hx => ?_⟩, r2.cg g2 (fun j q => ho j (by omega)), r3.cg g3.1 (fun j q => ho j (by omega)), r4.cg (fun j q => ho j (by omega)), r5.cg (fun j q => ho j (by omega)), r6.cg (fun j q => ho j (by omega)), r7.cg (fun j q => ho j (by omega)), r8.cg g8.1 (fun j q => ho j (by omega))⟩
  · show f' 0 = ((cL c ++ [(p, [])]).length : Int)
    rw [h0, hn, hlen, List.length_append]; simp
  · rcases app_get hx with q | ⟨q1, q2⟩
    · have hi := lt_of_get q
      rw [ho _ (by omega), ho _ (by omega), hg _ (by omega)]
      exact r1.2 i x q
    · subst q2
      rw [show (i : Int) = n by omega]
      exact ⟨h4, h16, fun j s hs => by simp at hs⟩
theorem RN_row {f g f' g' : Int → Int} {c : aCur} {x : Int} {F : aLn → aLn} {y : aLn} (h : RN f g c) (hG : Good c) (hx : 0 ≤ x) (hy : (cL c)[x.toNat]? = some y) (hF : (F y).1 = y.1) (h16 : f' (16 + x) = ((F y).2.length : Int)) (ho : ∀ j, j ≠ 16 + x → f' j = f j) (hgx : ∀ (j : Nat) (s : Int), (F y).2[j]? = some s → dg (g' x) j = s) (hg : ∀ j, j ≠ x → g' j = g j) : RN f' g' (sL c (mdf F (cL c) x.toNat)) := by
  obtain ⟨r1, r2, r3, r4, r5, r6, r7, r8⟩ := h
  obtain ⟨g1, g2, g3, g4, g5, g6, g7, g8⟩ := hG
  have hxl := lt_of_get hy
  have hl := g1.1
  refine ⟨⟨?_, fun i z hz => ?_⟩, r2.cg g2 (fun j q => ho j (by omega)), r3.cg g3.1 (fun j q => ho j (by omega)), r4.cg (fun j q => ho j (by omega)), r5.cg (fun j q => ho j (by omega)), r6.cg (fun j q => ho j (by omega)), r7.cg (fun j q => ho j (by omega)), r8.cg g8.1 (fun j q => ho j (by omega))⟩
  · show f' 0 = ((mdf F (cL c) x.toNat).length : Int)
    rw [mdf_len, ho _ (by omega)]; exact r1.1
  · have hz : (mdf F (cL c) x.toNat)[i]? = some z := hz
    rw [mdf_get] at hz
    by_cases e : i = x.toNat
    · subst e
      rw [if_pos rfl, hy] at hz
      have hz := Option.some.inj hz
      subst hz
      have r := r1.2 _ _ hy
      rw [Int.toNat_of_nonneg hx] at r ⊢
      exact ⟨by rw [ho _ (by omega), hF]; exact r.1, h16, hgx⟩
    · rw [if_neg e] at hz
      have hi := lt_of_get hz
      rw [ho _ (by omega), ho _ (by omega), hg _ (by omega)]
      exact r1.2 i z hz
theorem RN_wording {f g f' g' : Int → Int} {c : aCur} {x k s n : Int} (h : RN f g c) (hG : Good c) (hl : (cW c).length < 20) (hn : n = f 1) (h0 : f' 1 = n + 1) (h1 : f' (28 + n) = x) (h2 : f' (48 + n) = k) (h3 : f' (68 + n) = s) (h4 : f' (88 + n) = 0) (ho : ∀ j, j ≠ 1 ∧ j ≠ 28 + n ∧ j ≠ 48 + n ∧ j ≠ 68 + n ∧ j ≠ 88 + n → f' j = f j) (hg : ∀ j, g' j = g j) : RN f' g' (sW c (cW c ++ [(x, k, s, [])])) := by
  obtain ⟨r1, r2, r3, r4, r5, r6, r7, r8⟩ := h
  obtain ⟨g1, g2, g3, g4, g5, g6, g7, g8⟩ := hG
  have hlen := r2.1
  refine ⟨r1.cg g1.1 (fun j q => ho j (by omega)) (fun j q1 q2 => hg j), ⟨?_, fun i y hy => ?_⟩, r3.cg g3.1 (fun j q => ho j (by omega)), r4.cg (fun j q => ho j (by omega)), r5.cg (fun j q => ho j (by omega)), r6.cg (fun j q => ho j (by omega)), r7.cg (fun j q => ho j (by omega)), r8.cg g8.1 (fun j q => ho j (by omega))⟩
  · show f' 1 = ((cW c ++ [(x, k, s, [])]).length : Int)
    rw [h0, hn, hlen, List.length_append]; simp
  · rcases app_get hy with q | ⟨q1, q2⟩
    · have hi := lt_of_get q
      obtain ⟨a1, a2, a3, a4, a5⟩ := r2.2 i y q
      have hs8 := (g2.2 i y q).2.2.2.2.2.2.1
      rw [ho _ (by omega), ho _ (by omega), ho _ (by omega), ho _ (by omega)]
      exact ⟨a1, a2, a3, a4, fun j t ht => by have := lt_of_get ht; rw [ho _ (by omega)]; exact a5 j t ht⟩
    · subst q2
      rw [show (i : Int) = n by omega]
      exact ⟨h1, h2, h3, h4, fun j s hs => by simp at hs⟩
theorem RN_syl {f g f' g' : Int → Int} {c : aCur} {w : Int} {F : aWd → aWd} {y : aWd} (h : RN f g c) (hG : Good c) (hw : 0 ≤ w) (hy : (cW c)[w.toNat]? = some y) (hF : (F y).1 = y.1 ∧ (F y).2.1 = y.2.1 ∧ (F y).2.2.1 = y.2.2.1) (h88 : f' (88 + w) = ((F y).2.2.2.length : Int)) (ho : ∀ j, j ≠ 88 + w ∧ ¬ (108 + 8 * w ≤ j ∧ j < 116 + 8 * w) → f' j = f j) (hs : ∀ (j : Nat) (s : aSy), (F y).2.2.2[j]? = some s → f' (108 + 8 * w + j) = pkS s) (hg : ∀ j, g' j = g j) : RN f' g' (sW c (mdf F (cW c) w.toNat)) := by
  obtain ⟨r1, r2, r3, r4, r5, r6, r7, r8⟩ := h
  obtain ⟨g1, g2, g3, g4, g5, g6, g7, g8⟩ := hG
  have hxl := lt_of_get hy
  have hl := g2.1
  refine ⟨r1.cg g1.1 (fun j q => ho j (by omega)) (fun j q1 q2 => hg j), ⟨?_, fun i z hz => ?_⟩, r3.cg g3.1 (fun j q => ho j (by omega)), r4.cg (fun j q => ho j (by omega)), r5.cg (fun j q => ho j (by omega)), r6.cg (fun j q => ho j (by omega)), r7.cg (fun j q => ho j (by omega)), r8.cg g8.1 (fun j q => ho j (by omega))⟩
  · show f' 1 = ((mdf F (cW c) w.toNat).length : Int)
    rw [mdf_len, ho _ (by omega)]; exact r2.1
  · have hz : (mdf F (cW c) w.toNat)[i]? = some z := hz
    rw [mdf_get] at hz
    by_cases e : i = w.toNat
    · subst e
      rw [if_pos rfl, hy] at hz
      have hz := Option.some.inj hz
      subst hz
      obtain ⟨a1, a2, a3, a4, a5⟩ := r2.2 _ _ hy
      rw [Int.toNat_of_nonneg hw] at a1 a2 a3 ⊢
      exact ⟨by rw [ho _ (by omega), hF.1]; exact a1, by rw [ho _ (by omega), hF.2.1]; exact a2, by rw [ho _ (by omega), hF.2.2]; exact a3, h88, hs⟩
    · rw [if_neg e] at hz
      have hi := lt_of_get hz
      have hs8 := (g2.2 i z hz).2.2.2.2.2.2.1
      obtain ⟨a1, a2, a3, a4, a5⟩ := r2.2 i z hz
      rw [ho _ (by omega), ho _ (by omega), ho _ (by omega), ho _ (by omega)]
      exact ⟨a1, a2, a3, a4, fun j t ht => by have := lt_of_get ht; rw [ho _ (by omega)]; exact a5 j t ht⟩
theorem RN_text {f g f' g' : Int → Int} {c : aCur} {t : aTx} {n : Int} (h : RN f g c) (hG : Good c) (hl : (cT c).length < 40) (hn : n = f 2) (h0 : f' 2 = n + 1) (h1 : f' (268 + n) = pkT t) (ho : ∀ j, j ≠ 2 ∧ j ≠ 268 + n → f' j = f j) (hg : ∀ j, g' j = g j) : RN f' g' (sT c (cT c ++ [t])) := by
  obtain ⟨r1, r2, r3, r4, r5, r6, r7, r8⟩ := h
  obtain ⟨g1, g2, g3, g4, g5, g6, g7, g8⟩ := hG
  have hlen := r3.1
  refine ⟨r1.cg g1.1 (fun j q => ho j (by omega)) (fun j q1 q2 => hg j), r2.cg g2 (fun j q => ho j (by omega)), ⟨?_, fun i y hy => ?_⟩, r4.cg (fun j q => ho j (by omega)), r5.cg (fun j q => ho j (by omega)), r6.cg (fun j q => ho j (by omega)), r7.cg (fun j q => ho j (by omega)), r8.cg g8.1 (fun j q => ho j (by omega))⟩
  · show f' 2 = ((cT c ++ [t]).length : Int)
    rw [h0, hn, hlen, List.length_append]; simp
  · rcases app_get hy with q | ⟨q1, q2⟩
    · have hi := lt_of_get q
      rw [ho _ (by omega)]
      exact r3.2 i y q
    · subst q2
      rw [show (i : Int) = n by omega]
      exact h1
theorem RN_loop {f g f' g' : Int → Int} {c : aCur} {x n : Int} (h : RN f g c) (hG : Good c) (hl : (cO c).length < 7) (hn : n = f 3) (h0 : f' 3 = n + 1) (h1 : f' (358 + n) = x) (ho : ∀ j, j ≠ 3 ∧ j ≠ 358 + n → f' j = f j) (hg : ∀ j, g' j = g j) : RN f' g' (sO c (cO c ++ [x])) := by
  obtain ⟨r1, r2, r3, r4, r5, r6, r7, r8⟩ := h
  obtain ⟨g1, g2, g3, g4, g5, g6, g7, g8⟩ := hG
  have hlen := r8.1
  refine ⟨r1.cg g1.1 (fun j q => ho j (by omega)) (fun j q1 q2 => hg j), r2.cg g2 (fun j q => ho j (by omega)), r3.cg g3.1 (fun j q => ho j (by omega)), r4.cg (fun j q => ho j (by omega)), r5.cg (fun j q => ho j (by omega)), r6.cg (fun j q => ho j (by omega)), r7.cg (fun j q => ho j (by omega)), ⟨?_, fun i y hy => ?_⟩⟩
  · show f' 3 = ((cO c ++ [x]).length : Int)
    rw [h0, hn, hlen, List.length_append]; simp
  · rcases app_get hy with q | ⟨q1, q2⟩
    · have hi := lt_of_get q
      rw [ho _ (by omega)]
      exact r8.2 i y q
    · subst q2
      rw [show (i : Int) = n by omega]
      exact h1
theorem RN_unloop {f g f' g' : Int → Int} {c : aCur} (h : RN f g c) (hG : Good c) (hl : 0 < (cO c).length) (h0 : f' 3 = f 3 - 1) (ho : ∀ j, j ≠ 3 → f' j = f j) (hg : ∀ j, g' j = g j) : RN f' g' (sO c (cO c).dropLast) := by
  obtain ⟨r1, r2, r3, r4, r5, r6, r7, r8⟩ := h
  obtain ⟨g1, g2, g3, g4, g5, g6, g7, g8⟩ := hG
  have hlen := r8.1
  refine ⟨r1.cg g1.1 (fun j q => ho j (by omega)) (fun j q1 q2 => hg j), r2.cg g2 (fun j q => ho j (by omega)), r3.cg g3.1 (fun j q => ho j (by omega)), r4.cg (fun j q => ho j (by omega)), r5.cg (fun j q => ho j (by omega)), r6.cg (fun j q => ho j (by omega)), r7.cg (fun j q => ho j (by omega)), ⟨?_, fun i y hy => ?_⟩⟩
  · show f' 3 = ((cO c).dropLast.length : Int)
    rw [h0, hlen, List.length_dropLast]; omega
  · have q := drop_get hy
    rw [ho _ (by omega)]
    exact r8.2 i y q
theorem RNf.up {o N : Int} {f f' k : Int → Int} {x v : Int} (h : RNf o N f k) (h1 : f' (o + x) = v) (ho : ∀ j, j ≠ o + x → f' j = f j) : RNf o N f' (updF k x v) := fun i a b => by
  unfold updF
  by_cases e : i = x
  · rw [if_pos e, e]; exact h1
  · rw [if_neg e, ho _ (by omega)]; exact h i a b
theorem RN_name {f g f' g' : Int → Int} {c : aCur} {x v : Int} (h : RN f g c) (hG : Good c) (hx : 0 ≤ x ∧ x < 32) (h1 : f' (308 + x) = v) (ho : ∀ j, j ≠ 308 + x → f' j = f j) (hg : ∀ j, g' j = g j) : RN f' g' (sN c (updF (cN c) x v)) := by
  obtain ⟨r1, r2, r3, r4, r5, r6, r7, r8⟩ := h
  obtain ⟨g1, g2, g3, g4, g5, g6, g7, g8⟩ := hG
  exact ⟨r1.cg g1.1 (fun j q => ho j (by omega)) (fun j q1 q2 => hg j), r2.cg g2 (fun j q => ho j (by omega)), r3.cg g3.1 (fun j q => ho j (by omega)), r4.up h1 ho, r5.cg (fun j q => ho j (by omega)), r6.cg (fun j q => ho j (by omega)), r7.cg (fun j q => ho j (by omega)), r8.cg g8.1 (fun j q => ho j (by omega))⟩
theorem RN_actor {f g f' g' : Int → Int} {c : aCur} {x v : Int} (h : RN f g c) (hG : Good c) (hx : 0 ≤ x ∧ x < 6) (h1 : f' (340 + x) = v) (ho : ∀ j, j ≠ 340 + x → f' j = f j) (hg : ∀ j, g' j = g j) : RN f' g' (sA c (updF (cA c) x v)) := by
  obtain ⟨r1, r2, r3, r4, r5, r6, r7, r8⟩ := h
  obtain ⟨g1, g2, g3, g4, g5, g6, g7, g8⟩ := hG
  exact ⟨r1.cg g1.1 (fun j q => ho j (by omega)) (fun j q1 q2 => hg j), r2.cg g2 (fun j q => ho j (by omega)), r3.cg g3.1 (fun j q => ho j (by omega)), r4.cg (fun j q => ho j (by omega)), r5.up h1 ho, r6.cg (fun j q => ho j (by omega)), r7.cg (fun j q => ho j (by omega)), r8.cg g8.1 (fun j q => ho j (by omega))⟩
theorem RN_free {f g f' g' : Int → Int} {c : aCur} {x v : Int} (h : RN f g c) (hG : Good c) (hx : 0 ≤ x ∧ x < 8) (h1 : f' (346 + x) = v) (ho : ∀ j, j ≠ 346 + x → f' j = f j) (hg : ∀ j, g' j = g j) : RN f' g' (sF c (updF (cF c) x v)) := by
  obtain ⟨r1, r2, r3, r4, r5, r6, r7, r8⟩ := h
  obtain ⟨g1, g2, g3, g4, g5, g6, g7, g8⟩ := hG
  exact ⟨r1.cg g1.1 (fun j q => ho j (by omega)) (fun j q1 q2 => hg j), r2.cg g2 (fun j q => ho j (by omega)), r3.cg g3.1 (fun j q => ho j (by omega)), r4.cg (fun j q => ho j (by omega)), r5.cg (fun j q => ho j (by omega)), r6.up h1 ho, r7.cg (fun j q => ho j (by omega)), r8.cg g8.1 (fun j q => ho j (by omega))⟩
theorem RN_room {f g f' g' : Int → Int} {c : aCur} {x v : Int} (h : RN f g c) (hG : Good c) (hx : 0 ≤ x ∧ x < 4) (h1 : f' (354 + x) = v) (ho : ∀ j, j ≠ 354 + x → f' j = f j) (hg : ∀ j, g' j = g j) : RN f' g' (sR c (updF (cR c) x v)) := by
  obtain ⟨r1, r2, r3, r4, r5, r6, r7, r8⟩ := h
  obtain ⟨g1, g2, g3, g4, g5, g6, g7, g8⟩ := hG
  exact ⟨r1.cg g1.1 (fun j q => ho j (by omega)) (fun j q1 q2 => hg j), r2.cg g2 (fun j q => ho j (by omega)), r3.cg g3.1 (fun j q => ho j (by omega)), r4.cg (fun j q => ho j (by omega)), r5.cg (fun j q => ho j (by omega)), r6.cg (fun j q => ho j (by omega)), r7.up h1 ho, r8.cg g8.1 (fun j q => ho j (by omega))⟩
/-! each act is undone by its own -/
theorem un_line (A : aSt) (p : Int) : undoA (0, 0, 0, []) (sL A.1 (cL A.1 ++ [(p, [])])) = A.1 := by
  show sL A.1 (cL A.1 ++ [(p, [])]).dropLast = A.1
  rw [List.dropLast_concat]
theorem un_frame (A : aSt) (x s : Int) : undoA (1, x, 0, []) (sL A.1 (mdf (fun y => (y.1, y.2 ++ [s])) (cL A.1) x.toNat)) = A.1 := by
  show sL A.1 (mdf _ (mdf _ (cL A.1) x.toNat) x.toNat) = A.1
  rw [mdf_mdf, mdf_id]
  intro y hy
  simp only [List.dropLast_concat]
theorem un_wording (A : aSt) (x k s : Int) : undoA (2, 0, 0, []) (sW A.1 (cW A.1 ++ [(x, k, s, [])])) = A.1 := by
  show sW A.1 (cW A.1 ++ [(x, k, s, [])]).dropLast = A.1
  rw [List.dropLast_concat]
theorem un_syl (A : aSt) (w s0 s1 s2 s3 : Int) : undoA (3, w, 0, []) (sW A.1 (mdf (fun y => (y.1, y.2.1, y.2.2.1, y.2.2.2 ++ [(s0, s1, s2, s3)])) (cW A.1) w.toNat)) = A.1 := by
  show sW A.1 (mdf _ (mdf _ (cW A.1) w.toNat) w.toNat) = A.1
  rw [mdf_mdf, mdf_id]
  intro y hy
  simp only [List.dropLast_concat]
theorem un_cut {A : aSt} {w : Int} (hw : 0 ≤ w ∧ w < nWd A) (hl : 0 < (wdAt A w).2.2.2.length) : undoA (4, w, 0, lastSy (wdAt A w)) (sW A.1 (mdf (fun y => (y.1, y.2.1, y.2.2.1, y.2.2.2.dropLast)) (cW A.1) w.toNat)) = A.1 := by
  have hg := wd_get hw
  show sW A.1 (mdf _ (mdf _ (cW A.1) w.toNat) w.toNat) = A.1
  rw [mdf_mdf, mdf_id]
  intro y hy
  rw [hg] at hy
  have hy := Option.some.inj hy
  subst hy
  have e : ((wdAt A w).2.2.2.length : Int).toNat - 1 = (((wdAt A w).2.2.2.length : Int) - 1).toNat := by omega
  have e2 : syAt (wdAt A w) (((wdAt A w).2.2.2.length : Int) - 1) = (wdAt A w).2.2.2.getD ((wdAt A w).2.2.2.length - 1) (0, 0, 0, 0) := by show List.getD _ _ _ = _; rw [← e, Int.toNat_natCast]
  have e3 := last_app (l := (wdAt A w).2.2.2) (d := ((0, 0, 0, 0) : aSy)) (by omega)
  show ((wdAt A w).1, (wdAt A w).2.1, (wdAt A w).2.2.1, (wdAt A w).2.2.2.dropLast ++ [syAt (wdAt A w) (((wdAt A w).2.2.2.length : Int) - 1)]) = wdAt A w
  rw [e2, e3]
theorem un_change {A : aSt} {x : Int} (hx : 0 ≤ x ∧ x < nLn A) (row : List Int) : undoA (12, x, 0, (lnAt A x).2) (sL A.1 (mdf (fun y => (y.1, row)) (cL A.1) x.toNat)) = A.1 := by
  have hg := ln_get hx
  show sL A.1 (mdf _ (mdf _ (cL A.1) x.toNat) x.toNat) = A.1
  rw [mdf_mdf, mdf_id]
  intro y hy
  rw [hg] at hy
  have hy := Option.some.inj hy
  subst hy
  rfl
theorem un_text (A : aSt) (t : aTx) : undoA (6, 0, 0, []) (sT A.1 (cT A.1 ++ [t])) = A.1 := by
  show sT A.1 (cT A.1 ++ [t]).dropLast = A.1
  rw [List.dropLast_concat]
theorem un_loop (A : aSt) (x : Int) : undoA (10, 0, 0, []) (sO A.1 (cO A.1 ++ [x])) = A.1 := by
  show sO A.1 (cO A.1 ++ [x]).dropLast = A.1
  rw [List.dropLast_concat]
theorem un_unloop {A : aSt} (hl : 0 < (cO A.1).length) : undoA (11, 0, (cO A.1).getD ((cO A.1).length - 1) 0, []) (sO A.1 (cO A.1).dropLast) = A.1 := by
  show sO A.1 ((cO A.1).dropLast ++ [(cO A.1).getD ((cO A.1).length - 1) 0]) = A.1
  rw [last_app hl]
theorem un_name (A : aSt) (x n : Int) : undoA (5, x, cN A.1 x, []) (sN A.1 (updF (cN A.1) x n)) = A.1 := by
  show sN A.1 (updF (updF (cN A.1) x n) x (cN A.1 x)) = A.1
  rw [updF_back]
theorem un_actor (A : aSt) (x n : Int) : undoA (7, x, cA A.1 x, []) (sA A.1 (updF (cA A.1) x n)) = A.1 := by
  show sA A.1 (updF (updF (cA A.1) x n) x (cA A.1 x)) = A.1
  rw [updF_back]
theorem un_free (A : aSt) (x n : Int) : undoA (8, x, cF A.1 x, []) (sF A.1 (updF (cF A.1) x n)) = A.1 := by
  show sF A.1 (updF (updF (cF A.1) x n) x (cF A.1 x)) = A.1
  rw [updF_back]
theorem un_room (A : aSt) (x n : Int) : undoA (9, x, cR A.1 x, []) (sR A.1 (updF (cR A.1) x n)) = A.1 := by
  show sR A.1 (updF (updF (cR A.1) x n) x (cR A.1 x)) = A.1
  rw [updF_back]
