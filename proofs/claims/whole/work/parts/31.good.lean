/-! every call keeps the mathematical state good -/
theorem AOk.fnd {A : aSt} (h : AOk A) (z : Int) : AOk (fnd A z).2 := h
theorem AOk.psh {A : aSt} {a : aAct} {c : aCur} (h : AOk A) (hc : Good c) (ha : ActOk a c) (hu : undoA a c = A.1) : AOk (psh A a c) := by
  refine ⟨hc, ?_, ?_, h.2.2.2⟩
  · show ((a :: A.2.1).take 20).length ≤ 20
    rw [List.length_take]; omega
  · show Chain c ((a :: A.2.1).take 20)
    refine Chain.take 20 ⟨ha, ?_, ?_⟩
    · rw [hu]; exact h.1
    · rw [hu]; exact h.2.2.1
theorem AOk.shs {A : aSt} {bi sz : Int → Int} {nu : Int → Int → Int} (h : AOk A) (hs : GoodS bi sz nu) : AOk (shs A bi sz nu) := ⟨h.1, h.2.1, h.2.2.1, hs⟩
def okLn (x : aLn) : Prop := 0 ≤ x.1 ∧ x.1 < 6 ∧ x.2.length ≤ 24 ∧ ∀ (j : Nat) (s : Int), x.2[j]? = some s → 0 ≤ s ∧ s < 4
def okWd (n : Nat) (x : aWd) : Prop := 0 ≤ x.1 ∧ x.1 < n ∧ 0 ≤ x.2.1 ∧ x.2.1 < 4 ∧ 0 ≤ x.2.2.1 ∧ x.2.2.1 ≤ 100 ∧ x.2.2.2.length ≤ 8 ∧ ∀ (j : Nat) (s : aSy), x.2.2.2[j]? = some s → 0 ≤ s.1 ∧ s.1 < 4 ∧ 1 ≤ s.2.1 ∧ s.2.1 ≤ 6 ∧ s.2.1 ≤ s.2.2.1 ∧ s.2.2.1 ≤ 6 ∧ 0 ≤ s.2.2.2 ∧ s.2.2.2 < 32
theorem app_get {α : Type} {l : List α} {y : α} {i : Nat} {x : α} (h : (l ++ [y])[i]? = some x) : l[i]? = some x ∨ (i = l.length ∧ x = y) := by
  by_cases e : i < l.length
  · rw [List.getElem?_append_left e] at h; exact Or.inl h
  · have hi : i = l.length := by
      have := lt_of_get h
      simp at this
      omega
    subst hi
    simp at h
    exact Or.inr ⟨rfl, h.symm⟩
theorem drop_get {α : Type} {l : List α} {i : Nat} {x : α} (h : l.dropLast[i]? = some x) : l[i]? = some x := by
  have hj : i < l.length - 1 := by
    have := lt_of_get h
    simp at this
    omega
  rwa [List.getElem?_dropLast, if_pos hj] at h
theorem GoodL.app {l : List aLn} {y : aLn} (h : GoodL l) (hl : l.length < 12) (hy : okLn y) : GoodL (l ++ [y]) := ⟨by simp; omega, fun i x hx => by
  rcases app_get hx with q | ⟨-, q⟩
  · exact h.2 i x q
  · rw [q]; exact hy⟩
theorem GoodL.mdf {l : List aLn} {f : aLn → aLn} {i : Nat} (h : GoodL l) (hf : ∀ x, l[i]? = some x → okLn (f x)) : GoodL (mdf f l i) := ⟨by rw [mdf_len]; exact h.1, fun j x hx => by
  rw [mdf_get] at hx
  by_cases e : j = i
  · subst e
    rw [if_pos rfl] at hx
    cases hy : l[j]? with
    | none => rw [hy] at hx; simp at hx
    | some y => rw [hy] at hx; simp at hx; rw [← hx]; exact hf y hy
  · rw [if_neg e] at hx; exact h.2 j x hx⟩
theorem GoodW.app {n : Nat} {l : List aWd} {y : aWd} (h : GoodW n l) (hl : l.length < 20) (hy : okWd n y) : GoodW n (l ++ [y]) := ⟨by simp; omega, fun i x hx => by
  rcases app_get hx with q | ⟨-, q⟩
  · exact h.2 i x q
  · rw [q]; exact hy⟩
theorem GoodW.mdf {n : Nat} {l : List aWd} {f : aWd → aWd} {i : Nat} (h : GoodW n l) (hf : ∀ x, l[i]? = some x → okWd n (f x)) : GoodW n (mdf f l i) := ⟨by rw [mdf_len]; exact h.1, fun j x hx => by
  rw [mdf_get] at hx
  by_cases e : j = i
  · subst e
    rw [if_pos rfl] at hx
    cases hy : l[j]? with
    | none => rw [hy] at hx; simp at hx
    | some y => rw [hy] at hx; simp at hx; rw [← hx]; exact hf y hy
  · rw [if_neg e] at hx; exact h.2 j x hx⟩
theorem GoodW.mono {n m : Nat} {l : List aWd} (h : GoodW n l) (hm : n ≤ m) : GoodW m l := ⟨h.1, fun i x hx => by
  have g := h.2 i x hx
  exact ⟨g.1, by omega, g.2.2⟩⟩
theorem GoodO.mono {n m : Nat} {l : List Int} (h : GoodO n l) (hm : n ≤ m) : GoodO m l := ⟨h.1, fun i x hx => by
  have g := h.2 i x hx
  have h1 := Nat.pow_le_pow_right (n := 2) (by decide) hm
  have e1 : ((2 ^ n : Nat) : Int) = (2 : Int) ^ n := by push_cast; rfl
  have e2 : ((2 ^ m : Nat) : Int) = (2 : Int) ^ m := by push_cast; rfl
  exact ⟨g.1, by omega⟩⟩
theorem GoodF.up {N lo hi : Int} {f : Int → Int} {x v : Int} (h : GoodF N lo hi f) (hv : lo ≤ v ∧ v ≤ hi) : GoodF N lo hi (updF f x v) := fun i a b => by
  unfold updF
  split
  · exact hv
  · exact h i a b
theorem last_app {α : Type} {l : List α} {d : α} (h : 0 < l.length) : l.dropLast ++ [l.getD (l.length - 1) d] = l := by
  have hne : l ≠ [] := by intro q; rw [q] at h; simp at h
  have e : l.getD (l.length - 1) d = l.getLast hne := by
    rw [List.getLast_eq_getElem, List.getD_eq_getElem?_getD, List.getElem?_eq_getElem (by omega)]
    rfl
  rw [e]
  exact List.dropLast_concat_getLast hne
theorem updF_back (f : Int → Int) (x n : Int) : updF (updF f x n) x (f x) = f := by
  funext j
  unfold updF
  split
  · next q => rw [q]
  · rfl
theorem ok_line {A : aSt} (h : AOk A) (p : Int) : AOk (oLine p A).2 := by
  unfold oLine
  split
  · exact h.fnd _
  · split
    · exact h.fnd _
    · next h1 h2 =>
      obtain ⟨g1, g2, g3, g4, g5, g6, g7, g8⟩ := h.1
      have hl : (cL A.1).length < 12 := by have q : nLn A = ((cL A.1).length : Int) := rfl; omega
      refine h.psh ⟨g1.app hl ⟨by show 0 ≤ p; omega, by show p < 6; omega, by simp, fun j s hs => by simp at hs⟩, ?_, g3, g4, g5, g6, g7, ?_⟩ ?_ ?_
      · show GoodW (cL A.1 ++ [(p, [])]).length (cW A.1)
        exact g2.mono (by simp)
      · show GoodO (cL A.1 ++ [(p, [])]).length (cO A.1)
        exact g8.mono (by simp)
      · exact ⟨by show (0 : Int) ≤ 0; decide, by show (0 : Int) ≤ 12; decide, fun _ => by show (cL A.1 ++ [(p, [])]).length ≠ 0; simp, fun q => absurd (show (0 : Int) = 1 from q) (by decide), fun q => absurd (show (0 : Int) = 2 from q) (by decide), fun q => absurd (show (0 : Int) = 3 from q) (by decide), fun q => absurd (show (0 : Int) = 4 from q) (by decide), fun q => absurd (show (0 : Int) = 5 from q) (by decide), fun q => absurd (show (0 : Int) = 6 from q) (by decide), fun q => absurd (show (0 : Int) = 7 from q) (by decide), fun q => absurd (show (0 : Int) = 8 from q) (by decide), fun q => absurd (show (0 : Int) = 9 from q) (by decide), fun q => absurd (show (0 : Int) = 10 from q) (by decide), fun q => absurd (show (0 : Int) = 11 from q) (by decide), fun q => absurd (show (0 : Int) = 12 from q) (by decide)⟩
      · show sL A.1 (cL A.1 ++ [(p, [])]).dropLast = A.1
        rw [List.dropLast_concat]
theorem ok_frame {A : aSt} (h : AOk A) (x s : Int) : AOk (oFrame x s A).2 := by
  unfold oFrame
  split
  · exact h.fnd _
  · split
    · exact h.fnd _
    · next h1 h2 =>
      have hx : 0 ≤ x ∧ x < nLn A := by omega
      have hg := ln_get hx
      obtain ⟨g1, g2, g3, g4, g5, g6, g7, g8⟩ := h.1
      refine h.psh ⟨g1.mdf (fun y hy => ?_), ?_, g3, g4, g5, g6, g7, ?_⟩ ?_ ?_
      · rw [hg] at hy
        have hy := Option.some.inj hy
        subst hy
        have q := g1.2 _ _ hg
        refine ⟨q.1, q.2.1, by show ((lnAt A x).2 ++ [s]).length ≤ 24; rw [List.length_append, List.length_singleton]; omega, fun j t ht => ?_⟩
        rcases app_get ht with u | ⟨-, u⟩
        · exact q.2.2.2 j t u
        · omega
      · show GoodW (mdf _ (cL A.1) x.toNat).length (cW A.1)
        rw [mdf_len]; exact g2
      · show GoodO (mdf _ (cL A.1) x.toNat).length (cO A.1)
        rw [mdf_len]; exact g8
      · exact ⟨by show (0 : Int) ≤ 1; decide, by show (1 : Int) ≤ 12; decide, fun q => absurd (show (1 : Int) = 0 from q) (by decide), fun _ => ⟨hx.1, _, by show (mdf _ (cL A.1) x.toNat)[x.toNat]? = _; rw [mdf_get, if_pos rfl, hg]; rfl, by show (_ ++ [_]).length ≠ 0; simp⟩, fun q => absurd (show (1 : Int) = 2 from q) (by decide), fun q => absurd (show (1 : Int) = 3 from q) (by decide), fun q => absurd (show (1 : Int) = 4 from q) (by decide), fun q => absurd (show (1 : Int) = 5 from q) (by decide), fun q => absurd (show (1 : Int) = 6 from q) (by decide), fun q => absurd (show (1 : Int) = 7 from q) (by decide), fun q => absurd (show (1 : Int) = 8 from q) (by decide), fun q => absurd (show (1 : Int) = 9 from q) (by decide), fun q => absurd (show (1 : Int) = 10 from q) (by decide), fun q => absurd (show (1 : Int) = 11 from q) (by decide), fun q => absurd (show (1 : Int) = 12 from q) (by decide)⟩
      · show sL A.1 (mdf _ (mdf _ (cL A.1) x.toNat) x.toNat) = A.1
        rw [mdf_mdf, mdf_id]
        intro y hy
        simp only [List.dropLast_concat]
theorem ok_wording {A : aSt} (h : AOk A) (x k s : Int) : AOk (oWording x k s A).2 := by
  unfold oWording
  split
  · exact h.fnd _
  · split
    · exact h.fnd _
    · next h1 h2 =>
      obtain ⟨g1, g2, g3, g4, g5, g6, g7, g8⟩ := h.1
      have hl : (cW A.1).length < 20 := by have q : nWd A = ((cW A.1).length : Int) := rfl; omega
      have hx : x < ((cL A.1).length : Int) := by have : nLn A = ((cL A.1).length : Int) := rfl; omega
      refine h.psh ⟨g1, g2.app hl ⟨by show 0 ≤ x; omega, hx, by show 0 ≤ k; omega, by show k < 4; omega, by show 0 ≤ s; omega, by show s ≤ 100; omega, by simp, fun j s hs => by simp at hs⟩, g3, g4, g5, g6, g7, g8⟩ ?_ ?_
      · exact ⟨by show (0 : Int) ≤ 2; decide, by show (2 : Int) ≤ 12; decide, fun q => absurd (show (2 : Int) = 0 from q) (by decide), fun q => absurd (show (2 : Int) = 1 from q) (by decide), fun _ => by show (cW A.1 ++ [(x, k, s, [])]).length ≠ 0; simp, fun q => absurd (show (2 : Int) = 3 from q) (by decide), fun q => absurd (show (2 : Int) = 4 from q) (by decide), fun q => absurd (show (2 : Int) = 5 from q) (by decide), fun q => absurd (show (2 : Int) = 6 from q) (by decide), fun q => absurd (show (2 : Int) = 7 from q) (by decide), fun q => absurd (show (2 : Int) = 8 from q) (by decide), fun q => absurd (show (2 : Int) = 9 from q) (by decide), fun q => absurd (show (2 : Int) = 10 from q) (by decide), fun q => absurd (show (2 : Int) = 11 from q) (by decide), fun q => absurd (show (2 : Int) = 12 from q) (by decide)⟩
      · show sW A.1 (cW A.1 ++ [(x, k, s, [])]).dropLast = A.1
        rw [List.dropLast_concat]
theorem ok_syllable {A : aSt} (h : AOk A) (w s0 s1 s2 s3 : Int) : AOk (oSyllable w s0 s1 s2 s3 A).2 := by
  unfold oSyllable
  split
  · exact h.fnd _
  · split
    · exact h.fnd _
    · split
      · exact h.fnd _
      · next h1 h2 h3 =>
        have hw : 0 ≤ w ∧ w < nWd A := by omega
        have hg := wd_get hw
        obtain ⟨g1, g2, g3, g4, g5, g6, g7, g8⟩ := h.1
        refine h.psh ⟨g1, g2.mdf (fun y hy => ?_), g3, g4, g5, g6, g7, g8⟩ ?_ ?_
        · rw [hg] at hy
          have hy := Option.some.inj hy
          subst hy
          obtain ⟨q1, q2, q3, q4, q5, q6, q7, q8⟩ := g2.2 _ _ hg
          refine ⟨q1, q2, q3, q4, q5, q6, by show ((wdAt A w).2.2.2 ++ [(s0, s1, s2, s3)]).length ≤ 8; rw [List.length_append, List.length_singleton]; omega, fun j t ht => ?_⟩
          rcases app_get ht with u | ⟨-, u⟩
          · exact q8 j t u
          · rw [u]; simp only; omega
        · exact ⟨by show (0 : Int) ≤ 3; decide, by show (3 : Int) ≤ 12; decide, fun q => absurd (show (3 : Int) = 0 from q) (by decide), fun q => absurd (show (3 : Int) = 1 from q) (by decide), fun q => absurd (show (3 : Int) = 2 from q) (by decide), fun _ => ⟨hw.1, _, by show (mdf _ (cW A.1) w.toNat)[w.toNat]? = _; rw [mdf_get, if_pos rfl, hg]; rfl, by show (_ ++ [_]).length ≠ 0; simp⟩, fun q => absurd (show (3 : Int) = 4 from q) (by decide), fun q => absurd (show (3 : Int) = 5 from q) (by decide), fun q => absurd (show (3 : Int) = 6 from q) (by decide), fun q => absurd (show (3 : Int) = 7 from q) (by decide), fun q => absurd (show (3 : Int) = 8 from q) (by decide), fun q => absurd (show (3 : Int) = 9 from q) (by decide), fun q => absurd (show (3 : Int) = 10 from q) (by decide), fun q => absurd (show (3 : Int) = 11 from q) (by decide), fun q => absurd (show (3 : Int) = 12 from q) (by decide)⟩
        · show sW A.1 (mdf _ (mdf _ (cW A.1) w.toNat) w.toNat) = A.1
          rw [mdf_mdf, mdf_id]
          intro y hy
          simp only [List.dropLast_concat]
theorem ok_cut {A : aSt} (h : AOk A) (w : Int) : AOk (oCut w A).2 := by
  unfold oCut
  split
  · exact h.fnd _
  · split
    · exact h.fnd _
    · next h1 h2 =>
      have hw : 0 ≤ w ∧ w < nWd A := by omega
      have hg := wd_get hw
      obtain ⟨g1, g2, g3, g4, g5, g6, g7, g8⟩ := h.1
      obtain ⟨q1, q2, q3, q4, q5, q6, q7, q8⟩ := g2.2 _ _ hg
      refine h.psh ⟨g1, g2.mdf (fun y hy => ?_), g3, g4, g5, g6, g7, g8⟩ ?_ ?_
      · rw [hg] at hy
        have hy := Option.some.inj hy
        subst hy
        exact ⟨q1, q2, q3, q4, q5, q6, by show (wdAt A w).2.2.2.dropLast.length ≤ 8; rw [List.length_dropLast]; omega, fun j t ht => q8 j t (drop_get ht)⟩
      · exact ⟨by show (0 : Int) ≤ 4; decide, by show (4 : Int) ≤ 12; decide, fun q => absurd (show (4 : Int) = 0 from q) (by decide), fun q => absurd (show (4 : Int) = 1 from q) (by decide), fun q => absurd (show (4 : Int) = 2 from q) (by decide), fun q => absurd (show (4 : Int) = 3 from q) (by decide), fun _ => ⟨hw.1, ⟨_, by show (mdf _ (cW A.1) w.toNat)[w.toNat]? = _; rw [mdf_get, if_pos rfl, hg]; rfl, by show (List.dropLast _).length < 8; rw [List.length_dropLast]; omega⟩, rfl⟩, fun q => absurd (show (4 : Int) = 5 from q) (by decide), fun q => absurd (show (4 : Int) = 6 from q) (by decide), fun q => absurd (show (4 : Int) = 7 from q) (by decide), fun q => absurd (show (4 : Int) = 8 from q) (by decide), fun q => absurd (show (4 : Int) = 9 from q) (by decide), fun q => absurd (show (4 : Int) = 10 from q) (by decide), fun q => absurd (show (4 : Int) = 11 from q) (by decide), fun q => absurd (show (4 : Int) = 12 from q) (by decide)⟩
      · show sW A.1 (mdf _ (mdf _ (cW A.1) w.toNat) w.toNat) = A.1
        rw [mdf_mdf, mdf_id]
        intro y hy
        rw [hg] at hy
        have hy := Option.some.inj hy
        subst hy
        have e : ((wdAt A w).2.2.2.length : Int).toNat - 1 = (((wdAt A w).2.2.2.length : Int) - 1).toNat := by omega
        have e2 : syAt (wdAt A w) (((wdAt A w).2.2.2.length : Int) - 1) = (wdAt A w).2.2.2.getD ((wdAt A w).2.2.2.length - 1) (0, 0, 0, 0) := by show List.getD _ _ _ = _; rw [← e, Int.toNat_natCast]
        have e3 := last_app (l := (wdAt A w).2.2.2) (d := ((0, 0, 0, 0) : aSy)) (by omega)
        show ((wdAt A w).1, (wdAt A w).2.1, (wdAt A w).2.2.1, (wdAt A w).2.2.2.dropLast ++ [((syAt (wdAt A w) (((wdAt A w).2.2.2.length : Int) - 1)).1, (syAt (wdAt A w) (((wdAt A w).2.2.2.length : Int) - 1)).2.1, (syAt (wdAt A w) (((wdAt A w).2.2.2.length : Int) - 1)).2.2.1, (syAt (wdAt A w) (((wdAt A w).2.2.2.length : Int) - 1)).2.2.2)]) = wdAt A w
        show ((wdAt A w).1, (wdAt A w).2.1, (wdAt A w).2.2.1, (wdAt A w).2.2.2.dropLast ++ [syAt (wdAt A w) (((wdAt A w).2.2.2.length : Int) - 1)]) = wdAt A w
        rw [e2, e3]
theorem ok_change {A : aSt} (h : AOk A) (x s : Int) : AOk (oChange x s A).2 := by
  unfold oChange
  split
  · exact h.fnd _
  · split
    · exact h.fnd _
    · split
      · exact h.fnd _
      · next h1 h2 h3 =>
        have hx : 0 ≤ x ∧ x < nLn A := by omega
        have hg := ln_get hx
        obtain ⟨g1, g2, g3, g4, g5, g6, g7, g8⟩ := h.1
        obtain ⟨s1, s2, s3, s4⟩ := h.2.2.2 s (by omega) (by omega)
        have hrl := row_len A s s2
        refine h.psh ⟨g1.mdf (fun y hy => ?_), ?_, g3, g4, g5, g6, g7, ?_⟩ ?_ ?_
        · have q := g1.2 _ _ hy
          refine ⟨q.1, q.2.1, by show (rowA A s).length ≤ 24; omega, fun j t ht => ?_⟩
          obtain ⟨j1, j2⟩ := row_get ht
          rw [j2]
          exact s4 j
        · show GoodW (mdf _ (cL A.1) x.toNat).length (cW A.1)
          rw [mdf_len]; exact g2
        · show GoodO (mdf _ (cL A.1) x.toNat).length (cO A.1)
          rw [mdf_len]; exact g8
        · exact ⟨by show (0 : Int) ≤ 12; decide, by show (12 : Int) ≤ 12; decide, fun q => absurd (show (12 : Int) = 0 from q) (by decide), fun q => absurd (show (12 : Int) = 1 from q) (by decide), fun q => absurd (show (12 : Int) = 2 from q) (by decide), fun q => absurd (show (12 : Int) = 3 from q) (by decide), fun q => absurd (show (12 : Int) = 4 from q) (by decide), fun q => absurd (show (12 : Int) = 5 from q) (by decide), fun q => absurd (show (12 : Int) = 6 from q) (by decide), fun q => absurd (show (12 : Int) = 7 from q) (by decide), fun q => absurd (show (12 : Int) = 8 from q) (by decide), fun q => absurd (show (12 : Int) = 9 from q) (by decide), fun q => absurd (show (12 : Int) = 10 from q) (by decide), fun q => absurd (show (12 : Int) = 11 from q) (by decide), fun _ => ⟨hx.1, ⟨_, by show (mdf _ (cL A.1) x.toNat)[x.toNat]? = _; rw [mdf_get, if_pos rfl, hg]; rfl⟩, (g1.2 _ _ hg).2.2.1⟩⟩
        · show sL A.1 (mdf _ (mdf _ (cL A.1) x.toNat) x.toNat) = A.1
          rw [mdf_mdf, mdf_id]
          intro y hy
          rw [hg] at hy
          have hy := Option.some.inj hy
          subst hy
          rfl
theorem ok_text {A : aSt} (h : AOk A) (a b x d : Int) : AOk (oText a b x d A).2 := by
  unfold oText
  split
  · exact h.fnd _
  · split
    · exact h.fnd _
    · next h1 h2 =>
      obtain ⟨g1, g2, g3, g4, g5, g6, g7, g8⟩ := h.1
      have hl : (cT A.1).length < 40 := by have q : nTx A = ((cT A.1).length : Int) := rfl; omega
      refine h.psh ⟨g1, g2, ⟨by show (cT A.1 ++ [(a, b, x, d)]).length ≤ 40; rw [List.length_append, List.length_singleton]; omega, fun i y hy => ?_⟩, g4, g5, g6, g7, g8⟩ ?_ ?_
      · rcases app_get hy with u | ⟨-, u⟩
        · exact g3.2 i y u
        · rw [u]; simp only; omega
      · exact ⟨by show (0 : Int) ≤ 6; decide, by show (6 : Int) ≤ 12; decide, fun q => absurd (show (6 : Int) = 0 from q) (by decide), fun q => absurd (show (6 : Int) = 1 from q) (by decide), fun q => absurd (show (6 : Int) = 2 from q) (by decide), fun q => absurd (show (6 : Int) = 3 from q) (by decide), fun q => absurd (show (6 : Int) = 4 from q) (by decide), fun q => absurd (show (6 : Int) = 5 from q) (by decide), fun _ => by show (cT A.1 ++ [(a, b, x, d)]).length ≠ 0; simp, fun q => absurd (show (6 : Int) = 7 from q) (by decide), fun q => absurd (show (6 : Int) = 8 from q) (by decide), fun q => absurd (show (6 : Int) = 9 from q) (by decide), fun q => absurd (show (6 : Int) = 10 from q) (by decide), fun q => absurd (show (6 : Int) = 11 from q) (by decide), fun q => absurd (show (6 : Int) = 12 from q) (by decide)⟩
      · show sT A.1 (cT A.1 ++ [(a, b, x, d)]).dropLast = A.1
        rw [List.dropLast_concat]
theorem ok_loop {A : aSt} (h : AOk A) (x : Int) : AOk (oLoop x A).2 := by
  unfold oLoop
  split
  · exact h.fnd _
  · split
    · exact h.fnd _
    · split
      · exact h.fnd _
      · next h1 h2 h3 =>
        obtain ⟨g1, g2, g3, g4, g5, g6, g7, g8⟩ := h.1
        have hl : (cO A.1).length < 7 := by have q : nLp A = ((cO A.1).length : Int) := rfl; omega
        refine h.psh ⟨g1, g2, g3, g4, g5, g6, g7, ⟨by show (cO A.1 ++ [x]).length ≤ 7; rw [List.length_append, List.length_singleton]; omega, fun i y hy => ?_⟩⟩ ?_ ?_
        · rcases app_get hy with u | ⟨-, u⟩
          · exact g8.2 i y u
          · rw [u]; show 0 < x ∧ x < 2 ^ (cL A.1).length; omega
        · exact ⟨by show (0 : Int) ≤ 10; decide, by show (10 : Int) ≤ 12; decide, fun q => absurd (show (10 : Int) = 0 from q) (by decide), fun q => absurd (show (10 : Int) = 1 from q) (by decide), fun q => absurd (show (10 : Int) = 2 from q) (by decide), fun q => absurd (show (10 : Int) = 3 from q) (by decide), fun q => absurd (show (10 : Int) = 4 from q) (by decide), fun q => absurd (show (10 : Int) = 5 from q) (by decide), fun q => absurd (show (10 : Int) = 6 from q) (by decide), fun q => absurd (show (10 : Int) = 7 from q) (by decide), fun q => absurd (show (10 : Int) = 8 from q) (by decide), fun q => absurd (show (10 : Int) = 9 from q) (by decide), fun _ => by show (cO A.1 ++ [x]).length ≠ 0; simp, fun q => absurd (show (10 : Int) = 11 from q) (by decide), fun q => absurd (show (10 : Int) = 12 from q) (by decide)⟩
        · show sO A.1 (cO A.1 ++ [x]).dropLast = A.1
          rw [List.dropLast_concat]
theorem ok_unloop {A : aSt} (h : AOk A) : AOk (oUnloop A).2 := by
  unfold oUnloop
  split
  · exact h.fnd _
  · next h1 =>
    obtain ⟨g1, g2, g3, g4, g5, g6, g7, g8⟩ := h.1
    have hl : 0 < (cO A.1).length := by have : ¬ ((cO A.1).length : Int) ≤ 0 := h1; omega
    refine h.psh ⟨g1, g2, g3, g4, g5, g6, g7, ⟨by have := g8.1; show (cO A.1).dropLast.length ≤ 7; rw [List.length_dropLast]; omega, fun i y hy => g8.2 i y (drop_get hy)⟩⟩ ?_ ?_
    · have q8 := g8.1
      exact ⟨by show (0 : Int) ≤ 11; decide, by show (11 : Int) ≤ 12; decide, fun q => absurd (show (11 : Int) = 0 from q) (by decide), fun q => absurd (show (11 : Int) = 1 from q) (by decide), fun q => absurd (show (11 : Int) = 2 from q) (by decide), fun q => absurd (show (11 : Int) = 3 from q) (by decide), fun q => absurd (show (11 : Int) = 4 from q) (by decide), fun q => absurd (show (11 : Int) = 5 from q) (by decide), fun q => absurd (show (11 : Int) = 6 from q) (by decide), fun q => absurd (show (11 : Int) = 7 from q) (by decide), fun q => absurd (show (11 : Int) = 8 from q) (by decide), fun q => absurd (show (11 : Int) = 9 from q) (by decide), fun q => absurd (show (11 : Int) = 10 from q) (by decide), fun _ => by show (cO A.1).dropLast.length < 7; rw [List.length_dropLast]; omega, fun q => absurd (show (11 : Int) = 12 from q) (by decide)⟩
    · show sO _ ((cO A.1).dropLast ++ [(cO A.1).getD ((cO A.1).length - 1) 0]) = A.1
      rw [last_app hl]
theorem ok_undo {A : aSt} (h : AOk A) : AOk (oUndo A).2 := by
  unfold oUndo
  cases hq : A.2.1 with
  | nil => exact h.fnd _
  | cons a r =>
    have hc := h.2.2.1
    have hl := h.2.1
    rw [hq] at hc hl
    exact ⟨hc.2.1, by simp at hl; show r.length ≤ 20; omega, hc.2.2, h.2.2.2⟩
theorem ok_sheet {A : aSt} (h : AOk A) (s b n : Int) : AOk (oSheet s b n A).2 := by
  unfold oSheet
  split
  · exact h.fnd _
  · split
    · exact h.fnd _
    · split
      · exact h.fnd _
      · next h1 h2 h3 =>
        refine h.shs (fun t t1 t2 => ?_)
        obtain ⟨s1, s2, s3, s4⟩ := h.2.2.2 t t1 t2
        by_cases e : t = s
        · subst e
          simp only [updF, if_pos rfl, if_true]
          refine ⟨by omega, by split <;> omega, by split <;> omega, fun j => by omega⟩
        · simp only [updF, if_neg e]
          exact ⟨s1, s2, s3, s4⟩
theorem ok_put {A : aSt} (h : AOk A) (s i v : Int) : AOk (oPut s i v A).2 := by
  unfold oPut
  split
  · exact h.fnd _
  · split
    · exact h.fnd _
    · split
      · exact h.fnd _
      · refine h.shs (fun t t1 t2 => ?_)
        obtain ⟨s1, s2, s3, s4⟩ := h.2.2.2 t t1 t2
        refine ⟨s1, s2, s3, fun j => ?_⟩
        by_cases e : t = s
        · simp only [if_pos e, updF]
          split
          · omega
          · exact s4 j
        · simp only [if_neg e]
          exact s4 j
theorem ok_copy {A : aSt} (h : AOk A) (s f t g n : Int) : AOk (oCopy s f t g n A).2 := by
  unfold oCopy
  split
  · exact h.fnd _
  · split
    · exact h.fnd _
    · split
      · exact h.fnd _
      · split
        · exact h.fnd _
        · next h1 h2 h3 h4 =>
          refine h.shs (fun u t1 t2 => ?_)
          obtain ⟨s1, s2, s3, s4⟩ := h.2.2.2 u t1 t2
          refine ⟨s1, s2, s3, fun j => ?_⟩
          by_cases e : u = t
          · simp only [if_pos e]
            split
            · exact (h.2.2.2 s (by omega) (by omega)).2.2.2 _
            · exact (h.2.2.2 t (by omega) (by omega)).2.2.2 _
          · simp only [if_neg e]
            exact s4 j
theorem ok_name {A : aSt} (h : AOk A) (x n : Int) : AOk (oName x n A).2 := by
  unfold oName
  split
  · exact h.fnd _
  · next h1 =>
    obtain ⟨g1, g2, g3, g4, g5, g6, g7, g8⟩ := h.1
    refine h.psh ⟨g1, g2, g3, g4.up (by omega), g5, g6, g7, g8⟩ ?_ ?_
    · exact ⟨by show (0 : Int) ≤ 5; decide, by show (5 : Int) ≤ 12; decide, fun q => absurd (show (5 : Int) = 0 from q) (by decide), fun q => absurd (show (5 : Int) = 1 from q) (by decide), fun q => absurd (show (5 : Int) = 2 from q) (by decide), fun q => absurd (show (5 : Int) = 3 from q) (by decide), fun q => absurd (show (5 : Int) = 4 from q) (by decide), fun _ => ⟨by show 0 ≤ x; omega, by show x < 32; omega⟩, fun q => absurd (show (5 : Int) = 6 from q) (by decide), fun q => absurd (show (5 : Int) = 7 from q) (by decide), fun q => absurd (show (5 : Int) = 8 from q) (by decide), fun q => absurd (show (5 : Int) = 9 from q) (by decide), fun q => absurd (show (5 : Int) = 10 from q) (by decide), fun q => absurd (show (5 : Int) = 11 from q) (by decide), fun q => absurd (show (5 : Int) = 12 from q) (by decide)⟩
    · show sN _ (updF (updF (cN A.1) x n) x (cN A.1 x)) = A.1
      rw [updF_back]
theorem ok_actor {A : aSt} (h : AOk A) (x n : Int) : AOk (oActor x n A).2 := by
  unfold oActor
  split
  · exact h.fnd _
  · next h1 =>
    obtain ⟨g1, g2, g3, g4, g5, g6, g7, g8⟩ := h.1
    refine h.psh ⟨g1, g2, g3, g4, g5.up (by omega), g6, g7, g8⟩ ?_ ?_
    · exact ⟨by show (0 : Int) ≤ 7; decide, by show (7 : Int) ≤ 12; decide, fun q => absurd (show (7 : Int) = 0 from q) (by decide), fun q => absurd (show (7 : Int) = 1 from q) (by decide), fun q => absurd (show (7 : Int) = 2 from q) (by decide), fun q => absurd (show (7 : Int) = 3 from q) (by decide), fun q => absurd (show (7 : Int) = 4 from q) (by decide), fun q => absurd (show (7 : Int) = 5 from q) (by decide), fun q => absurd (show (7 : Int) = 6 from q) (by decide), fun _ => ⟨by show 0 ≤ x; omega, by show x < 6; omega⟩, fun q => absurd (show (7 : Int) = 8 from q) (by decide), fun q => absurd (show (7 : Int) = 9 from q) (by decide), fun q => absurd (show (7 : Int) = 10 from q) (by decide), fun q => absurd (show (7 : Int) = 11 from q) (by decide), fun q => absurd (show (7 : Int) = 12 from q) (by decide)⟩
    · show sA _ (updF (updF (cA A.1) x n) x (cA A.1 x)) = A.1
      rw [updF_back]
theorem ok_free {A : aSt} (h : AOk A) (x n : Int) : AOk (oFree x n A).2 := by
  unfold oFree
  split
  · exact h.fnd _
  · next h1 =>
    obtain ⟨g1, g2, g3, g4, g5, g6, g7, g8⟩ := h.1
    refine h.psh ⟨g1, g2, g3, g4, g5, g6.up (by omega), g7, g8⟩ ?_ ?_
    · exact ⟨by show (0 : Int) ≤ 8; decide, by show (8 : Int) ≤ 12; decide, fun q => absurd (show (8 : Int) = 0 from q) (by decide), fun q => absurd (show (8 : Int) = 1 from q) (by decide), fun q => absurd (show (8 : Int) = 2 from q) (by decide), fun q => absurd (show (8 : Int) = 3 from q) (by decide), fun q => absurd (show (8 : Int) = 4 from q) (by decide), fun q => absurd (show (8 : Int) = 5 from q) (by decide), fun q => absurd (show (8 : Int) = 6 from q) (by decide), fun q => absurd (show (8 : Int) = 7 from q) (by decide), fun _ => ⟨by show 0 ≤ x; omega, by show x < 8; omega⟩, fun q => absurd (show (8 : Int) = 9 from q) (by decide), fun q => absurd (show (8 : Int) = 10 from q) (by decide), fun q => absurd (show (8 : Int) = 11 from q) (by decide), fun q => absurd (show (8 : Int) = 12 from q) (by decide)⟩
    · show sF _ (updF (updF (cF A.1) x n) x (cF A.1 x)) = A.1
      rw [updF_back]
theorem ok_room {A : aSt} (h : AOk A) (x n : Int) : AOk (oRoom x n A).2 := by
  unfold oRoom
  split
  · exact h.fnd _
  · next h1 =>
    obtain ⟨g1, g2, g3, g4, g5, g6, g7, g8⟩ := h.1
    refine h.psh ⟨g1, g2, g3, g4, g5, g6, g7.up (by omega), g8⟩ ?_ ?_
    · exact ⟨by show (0 : Int) ≤ 9; decide, by show (9 : Int) ≤ 12; decide, fun q => absurd (show (9 : Int) = 0 from q) (by decide), fun q => absurd (show (9 : Int) = 1 from q) (by decide), fun q => absurd (show (9 : Int) = 2 from q) (by decide), fun q => absurd (show (9 : Int) = 3 from q) (by decide), fun q => absurd (show (9 : Int) = 4 from q) (by decide), fun q => absurd (show (9 : Int) = 5 from q) (by decide), fun q => absurd (show (9 : Int) = 6 from q) (by decide), fun q => absurd (show (9 : Int) = 7 from q) (by decide), fun q => absurd (show (9 : Int) = 8 from q) (by decide), fun _ => ⟨by show 0 ≤ x; omega, by show x < 4; omega⟩, fun q => absurd (show (9 : Int) = 10 from q) (by decide), fun q => absurd (show (9 : Int) = 11 from q) (by decide), fun q => absurd (show (9 : Int) = 12 from q) (by decide)⟩
    · show sR _ (updF (updF (cR A.1) x n) x (cR A.1 x)) = A.1
      rw [updF_back]
theorem ok_as {A : aSt} (h : AOk A) (w k : Int) : AOk (oAs w k A).2 := by
  unfold oAs
  (repeat' split) <;> first | exact h | exact h.fnd _
theorem ok_of {A : aSt} (h : AOk A) (w k : Int) : AOk (oOf w k A).2 := by
  unfold oOf
  (repeat' split) <;> first | exact h | exact h.fnd _
theorem ok_told {A : aSt} (h : AOk A) (x k : Int) : AOk (oTold x k A).2 := by
  unfold oTold
  (repeat' split) <;> first | exact h | exact h.fnd _
theorem ok_shape {A : aSt} (h : AOk A) (x i : Int) : AOk (oShape x i A).2 := by
  unfold oShape
  (repeat' split) <;> first | exact h | exact h.fnd _
theorem ok_cost {A : aSt} (h : AOk A) (w : Int) : AOk (oCost w A).2 := by
  unfold oCost
  (repeat' split) <;> first | exact h | exact h.fnd _
theorem ok_place {A : aSt} (h : AOk A) (w i k : Int) : AOk (oPlace w i k A).2 := by
  unfold oPlace
  (repeat' split) <;> first | exact h | exact h.fnd _
theorem ok_on {A : aSt} (h : AOk A) (w i : Int) : AOk (oOn w i A).2 := by
  unfold oOn
  (repeat' split) <;> first | exact h | exact h.fnd _
theorem ok_barred {A : aSt} (h : AOk A) (a x d : Int) : AOk (oBarred a x d A).2 := by
  unfold oBarred
  (repeat' split) <;> first | exact h | exact h.fnd _
theorem ok_chosen {A : aSt} (h : AOk A) (a x d : Int) : AOk (oChosen a x d A).2 := by
  unfold oChosen
  (repeat' split) <;> first | exact h | exact h.fnd _
theorem ok_lawful {A : aSt} (h : AOk A) (w a d : Int) : AOk (oLawful w a d A).2 := by
  unfold oLawful
  (repeat' split) <;> first | exact h | exact h.fnd _
theorem ok_best {A : aSt} (h : AOk A) (x a d : Int) : AOk (oBest x a d A).2 := by
  unfold oBest
  (repeat' split) <;> first | exact h | exact h.fnd _
theorem ok_worth {A : aSt} (h : AOk A) (a d : Int) : AOk (oWorth a d A).2 := by
  unfold oWorth
  (repeat' split) <;> first | exact h | exact h.fnd _
theorem ok_plan {A : aSt} (h : AOk A) : AOk (oPlan  A).2 := by
  unfold oPlan
  (repeat' split) <;> first | exact h | exact h.fnd _
theorem ok_planned {A : aSt} (h : AOk A) (k : Int) : AOk (oPlanned k A).2 := by
  unfold oPlanned
  (repeat' split) <;> first | exact h | exact h.fnd _
theorem ok_kept {A : aSt} (h : AOk A) (x y : Int) : AOk (oKept x y A).2 := by
  unfold oKept
  (repeat' split) <;> first | exact h | exact h.fnd _
theorem ok_all {A : aSt} (h : AOk A) (k : Int) : AOk (oAll k A).2 := by
  unfold oAll
  (repeat' split) <;> first | exact h | exact h.fnd _
theorem ok_plans {A : aSt} (h : AOk A) : AOk (oPlans A).2 := h
