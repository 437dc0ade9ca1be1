/-! the class's calls: the best wording, the worth, sheets -/
theorem bst_spec (A : aSt) (x land day : Int) : ∀ n : Nat, (bstA A x land day n = (-1, 0)) ∨ (0 ≤ (bstA A x land day n).1 ∧ (bstA A x land day n).1 < n ∧ fitT A (bstA A x land day n).1 0 0 < 1000000 ∧ (bstA A x land day n).2 = (wdAt A (bstA A x land day n).1).2.2.1 - fitT A (bstA A x land day n).1 0 0)
  | 0 => Or.inl rfl
  | n + 1 => by
    by_cases q : (wdAt A n).1 = x ∧ lawA A n land day = true ∧ fitT A n 0 0 < 1000000 ∧ ((bstA A x land day n).1 < 0 ∨ (bstA A x land day n).2 < (wdAt A n).2.2.1 - fitT A n 0 0)
    · have e : bstA A x land day (n + 1) = ((n : Int), (wdAt A n).2.2.1 - fitT A n 0 0) := by simp only [bstA]; rw [if_pos q]
      rw [e]
      exact Or.inr ⟨by simp, by simp; omega, q.2.2.1, rfl⟩
    · have e : bstA A x land day (n + 1) = bstA A x land day n := by simp only [bstA]; rw [if_neg q]
      rw [e]
      rcases bst_spec A x land day n with h | h
      · exact Or.inl h
      · exact Or.inr ⟨h.1, by omega, h.2.2⟩
theorem rel_shs {σ τ : qSt} {A : aSt} {bi sz : Int → Int} {nu : Int → Int → Int} (hR : RelD σ A) (h : ∀ (a : Nat) (b c : Int), a ≠ 205 → a ≠ 206 → τ a b c = σ a b c) (hb : Bd τ) (hS : RS τ bi sz nu) : RelD τ (shs A bi sz nu) := by
  obtain ⟨⟨-, hp, h2, h3, h4, h5⟩, hk, hC, hH, -, hf⟩ := hR
  refine ⟨⟨hb, fun j a b => by rw [h 16 _ _ (by omega) (by omega), h 17 _ _ (by omega) (by omega), h 18 _ _ (by omega) (by omega)]; exact hp j a b, fun l a b => by rw [h 81 _ _ (by omega) (by omega)]; exact h2 l a b, fun k a b => by rw [h 14 _ _ (by omega) (by omega)]; exact h3 k a b, fun w s a b c d => by rw [h 107 _ _ (by omega) (by omega), h 108 _ _ (by omega) (by omega), h 109 _ _ (by omega) (by omega)]; exact h4 w s a b c d, fun t a b => by rw [h 8 _ _ (by omega) (by omega)]; exact h5 t a b⟩, ?_, hC.cg (fun a b x q1 q2 q3 q4 => h _ _ _ (by omega) (by omega)), hH.cg (fun c => h _ _ _ (by omega) (by omega)) (fun b c => h _ _ _ (by omega) (by omega)) (fun b c => h _ _ _ (by omega) (by omega)), hS, by show τ 0 0 12 = A.2.2.1; rw [h _ _ _ (by omega) (by omega)]; exact hf⟩
  have p1 : pS τ = pS σ := by
    unfold pS
    refine Prod.ext (h _ _ _ (by omega) (by omega)) (Prod.ext (h _ _ _ (by omega) (by omega)) ?_)
    funext j
    exact h _ _ _ (by omega) (by omega)
  unfold plKn at hk ⊢
  rw [p1, plRes_cg (fun a b c q => h a b c (by omega) (by omega)), h _ _ _ (by omega) (by omega), h _ _ _ (by omega) (by omega)]
  exact hk
theorem rel_sheet {σ : qSt} {A : aSt} {s b n : Int} (hR : RelD σ A) (hs : 0 ≤ s ∧ s < 4) (hb : -2000000 ≤ b ∧ b ≤ 2000000) (hn : 0 ≤ n ∧ n ≤ 30) : RelD (qFil (qUp (qUp σ 205 s 1 b) 205 s 2 (if b = 0 then 0 else n)) 206 s 0 30 0) (shs A (updF (biA A) s b) (updF (szA A) s (if b = 0 then 0 else n)) (fun t => if t = s then fun _ => 0 else nuA A t)) := by
  refine rel_shs hR (fun a x c q1 q2 => ?_) (fun a x c q1 q2 => ?_) (fun t t1 t2 => ?_)
  · unfold qFil
    rw [if_neg (by omega), qUp_ne (by omega), qUp_ne (by omega)]
  · unfold qFil
    rw [if_neg (by omega)]
    exact (((hR.1.1).up hb).up (by split <;> omega)) a x c q1 q2
  · obtain ⟨r1, r2, r3⟩ := hR.2.2.2.2.1 t t1 t2
    by_cases e : t = s
    · subst e
      refine ⟨by simp [qFil, qUp, updF], by simp [qFil, qUp, updF], fun j j1 j2 => ?_⟩
      simp [qFil, j1, j2]
    · refine ⟨by simp [qFil, qUp, updF, e]; exact r1, by simp [qFil, qUp, updF, e]; exact r2, fun j j1 j2 => ?_⟩
      simp [qFil, qUp, e]
      exact r3 j j1 j2
theorem rel_put {σ : qSt} {A : aSt} {s i v x : Int} (hR : RelD σ A) (hx : x % 4 = v % 4) : RelD (qUp σ 206 s i x) (shs A (biA A) (szA A) (fun t => if t = s then updF (nuA A t) i (v % 4) else nuA A t)) := by
  refine rel_shs hR (fun a x c q1 q2 => qUp_ne (by omega)) (fun a x c q1 q2 => by rw [qUp_ne (by omega)]; exact hR.1.1 a x c q1 q2) (fun t t1 t2 => ?_)
  obtain ⟨r1, r2, r3⟩ := hR.2.2.2.2.1 t t1 t2
  refine ⟨by rw [qUp_ne (by omega)]; exact r1, by rw [qUp_ne (by omega)]; exact r2, fun j j1 j2 => ?_⟩
  by_cases e : t = s ∧ j = i
  · obtain ⟨rfl, rfl⟩ := e
    rw [qUp_eq]
    simp [updF, hx]
  · rw [qUp_ne (by omega), r3 j j1 j2]
    by_cases e2 : t = s
    · have : ¬ j = i := fun q => e ⟨e2, q⟩
      simp [updF, e2, this]
    · simp [e2]
theorem rel_copy {σ : qSt} {A : aSt} {s f t g n : Int} (hR : RelD σ A) (hs : 0 ≤ s ∧ s < 4) (h1 : 0 ≤ f ∧ f + n ≤ 30) (h2 : 0 ≤ g ∧ g + n ≤ 30) : RelD (qCpy σ 206 s f 206 t g n) (shs A (biA A) (szA A) (fun u => if u = t then fun j => if g ≤ j ∧ j < g + n then nuA A s (f + (j - g)) else nuA A t j else nuA A u)) := by
  refine rel_shs hR (fun a x c q1 q2 => by unfold qCpy; rw [if_neg (by omega)]) (fun a x c q1 q2 => by unfold qCpy; rw [if_neg (by omega)]; exact hR.1.1 a x c q1 q2) (fun u t1 t2 => ?_)
  obtain ⟨r1, r2, r3⟩ := hR.2.2.2.2.1 u t1 t2
  refine ⟨by unfold qCpy; rw [if_neg (by omega)]; exact r1, by unfold qCpy; rw [if_neg (by omega)]; exact r2, fun j j1 j2 => ?_⟩
  unfold qCpy
  by_cases e : u = t
  · subst e
    by_cases e2 : g ≤ j ∧ j < g + n
    · have := (hR.2.2.2.2.1 s hs.1 hs.2).2.2 (f + (j - g)) (by omega) (by omega)
      simp [e2, this]
    · have : ¬ ((206 : Nat) = 206 ∧ u = u ∧ g ≤ j ∧ j < g + n) := fun q => e2 ⟨q.2.2.1, q.2.2.2⟩
      rw [if_neg this, r3 j j1 j2]
      simp [e2]
  · rw [if_neg (by omega), r3 j j1 j2]
    simp [e]
theorem sh_f {σ : qSt} {A : aSt} (hR : RelD σ A) (hA : AOk A) {s : Int} (hs : 0 ≤ s ∧ s < 4) : σ 205 s 1 = biA A s ∧ σ 205 s 2 = szA A s ∧ 0 ≤ szA A s ∧ szA A s ≤ 30 ∧ (biA A s = 0 ∨ biA A s = 8 ∨ biA A s = 16 ∨ biA A s = 32) := by
  obtain ⟨r1, r2, r3⟩ := hR.2.2.2.2.1 s hs.1 hs.2
  obtain ⟨g1, g2, g3, g4⟩ := hA.2.2.2 s hs.1 hs.2
  exact ⟨r1, r2, g2, g3, g1⟩
set_option maxRecDepth 20000 in
theorem c_X10_worthOfFit (e : qR) (l : Launch) (σ : qSt) (w : Int) (hb : Bd σ) (hw : 0 ≤ w ∧ w < 20) : CM (ED e) l yX10_worthOfFit cX10_worthOfFit 2 (some .int) 2 [qr 0 0, qi w] σ (Ri fun z σ' => z = σ 105 w 6 - σ 23 0 3 ∧ σ = σ') := by
  refine CM.mk tD_ok (by decide +kernel) (Nat.le_of_ble_eq_true rfl) (fun G C => ?_)
  show G σ 0 [some (qr 0 0), some (qi w)] []
  refine r_aload_n C dX10_worthOfFit_0 rfl ?_
  refine r_get_r (c := 1) C dX10_worthOfFit_1 fl_X10_17 rfl rfl rfl (by decide) rfl ?_
  refine r_iload_n C dX10_worthOfFit_4 rfl ?_
  refine r_aald (c := 1) (N := 20) C dX10_worthOfFit_5 rfl (by decide) rfl (by decide) (by omega) rfl ?_
  refine r_get_i (c := 20) 6 C dX10_worthOfFit_6 fl_X10_148 rfl rfl rfl rfl (by omega) ?_
  have b6 := hb 105 w 6 (by omega) (by omega)
  refine r_aload_n C dX10_worthOfFit_9 rfl ?_
  refine r_get_r (c := 1) C dX10_worthOfFit_10 fl_X10_51 rfl rfl rfl (by decide) rfl ?_
  refine r_get_i (c := 1) 3 C dX10_worthOfFit_13 fl_X10_160 rfl rfl rfl rfl (by decide) ?_
  have b13 := hb 23 0 3 (by omega) (by omega)
  refine r_isub C dX10_worthOfFit_16 ?_
  refine r_iret C dX10_worthOfFit_17 ?_
  exact ⟨_, rfl, rfl, rfl⟩
set_option maxRecDepth 20000 in
theorem lp_X10_findBest {G : qSt → Nat → List (Option qV) → List qV → Prop} {Ret : Option qV → qSt → Prop} (e : qR) (l : Launch) (σ : qSt) (x a d : Int) (A : aSt) (hA : AOk A) (hx : InI x) (ha : InI a) (hd : InI d) (C : Cx (ED e) l RX10 cX10_findBest 8 (some .int) 8 Ret G) (hN : ∀ σ2, RelD σ2 A → Ret (some (qi (bstA A x a d (cW A.1).length).1)) σ2) : ∀ (k : Nat) (m : Nat) (σ1 : qSt) (f g : Int) (o7 : Option qV), (m : Int) + (k : Int) = nWd A → RelD σ1 A → (f, g) = bstA A x a d m → (-1 ≤ f ∧ f < 20) → (-3000000 ≤ g ∧ g ≤ 3000000) → G σ1 9 [some (qr 0 0), some (qi x), some (qi a), some (qi d), some (qi f), some (qi g), some (qi (m : Int)), o7] [] := by
  intro k
  induction k with
  | zero =>
    intro m σ1 f g o7 hm hI hfg hf hg
    obtain ⟨hb, e10, n10, m10, e11, n11, m11, e5, n5, m5, e4, n4, m4, h381, h382, h383, h384⟩ := dF hI hA
    have en : ((cW A.1).length : Int) = nWd A := rfl
    refine r_iload C dX10_findBest_9 rfl ?_
    refine r_aload_n C dX10_findBest_11 rfl ?_
    refine r_get_i (c := 1) 11 C dX10_findBest_12 fl_X10_77 rfl rfl rfl rfl (by decide) ?_
    have b12 := hb 0 0 11 (by omega) (by omega)
    refine r_ic_ge 97 C dX10_findBest_15 (by decide) (by omega) (by omega) (fun h15 => ?_) (fun h15 => ?_)
    · refine r_iload C dX10_findBest_97 rfl ?_
      refine r_iret C dX10_findBest_99 ?_
      have e2 := hN σ1 hI
      rw [show (cW A.1).length = m by omega, ← hfg] at e2
      exact e2
    · exfalso; omega
  | succ k ih =>
    intro m σ1 f g o7 hm hI hfg hf hg
    obtain ⟨hb, e10, n10, m10, e11, n11, m11, e5, n5, m5, e4, n4, m4, h381, h382, h383, h384⟩ := dF hI hA
    have en : ((cW A.1).length : Int) = nWd A := rfl
    refine r_iload C dX10_findBest_9 rfl ?_
    refine r_aload_n C dX10_findBest_11 rfl ?_
    refine r_get_i (c := 1) 11 C dX10_findBest_12 fl_X10_77 rfl rfl rfl rfl (by decide) ?_
    have b12 := hb 0 0 11 (by omega) (by omega)
    refine r_ic_ge 97 C dX10_findBest_15 (by decide) (by omega) (by omega) (fun h15 => ?_) (fun h15 => ?_)
    · exfalso; omega
    · have wf := wd_f hI hA (x := (m : Int)) (by omega)
      refine r_aload_n C dX10_findBest_18 rfl ?_
      refine r_get_r (c := 1) C dX10_findBest_19 fl_X10_17 rfl rfl rfl (by decide) rfl ?_
      refine r_iload C dX10_findBest_22 rfl ?_
      refine r_aald (c := 1) (N := 20) C dX10_findBest_24 rfl (by decide) rfl (by decide) (by omega) rfl ?_
      refine r_get_i (c := 20) 4 C dX10_findBest_25 fl_X10_142 rfl rfl rfl rfl (by omega) ?_
      have b25 := hb 105 (m : Int) 4 (by omega) (by omega)
      refine r_iload_n C dX10_findBest_28 rfl ?_
      refine r_ic_ne 91 C dX10_findBest_29 (by decide) (by omega) (by omega) (fun h29 => ?_) (fun h29 => ?_)
      · refine r_iinc C dX10_findBest_91 rfl rfl rfl (by decide) ?_
        refine r_goto 9 C dX10_findBest_94 (by decide) ?_
        have eb : bstA A x a d (m + 1) = bstA A x a d m := by simp only [bstA]; rw [if_neg (fun q => by obtain ⟨q1, q2, q3, q4⟩ := q; rw [← hfg] at q4; first | exact hlaw q2 | (have q5 : f < 0 ∨ g < (wdAt A m).2.2.1 - fitT A m 0 0 := q4; omega))]
        exact ih (m + 1) _ _ _ _ (by push_cast; omega) hI (by rw [eb]; exact hfg) (by omega) (by omega)
      · refine r_aload_n C dX10_findBest_32 rfl ?_
        refine r_get_r (c := 1) C dX10_findBest_33 fl_X10_30 rfl rfl rfl (by decide) rfl ?_
        refine r_aload_n C dX10_findBest_36 rfl ?_
        refine r_get_r (c := 1) C dX10_findBest_37 fl_X10_17 rfl rfl rfl (by decide) rfl ?_
        refine r_iload C dX10_findBest_40 rfl ?_
        refine r_aald (c := 1) (N := 20) C dX10_findBest_42 rfl (by decide) rfl (by decide) (by omega) rfl ?_
        refine r_iload_n C dX10_findBest_43 rfl ?_
        refine r_iload_n C dX10_findBest_44 rfl ?_
        refine r_cvi (c := 1) C dX10_findBest_45 mv_X10_190 (c_X4_allows e l _ _ _ _ hb (by omega) hI.1.2.2.2.2.2 (by omega) (by omega) (by omega) (by omega) (fun t q1 q2 => by have := hI.1.2.2.2.2.1 (m : Int) t (by omega) (by omega) q1 q2; omega)) (by decide) rfl rfl rfl rfl (by decide) rfl rfl (Nat.le_of_ble_eq_true rfl) (fun z45 σ45 h45 => ?_)
        obtain ⟨rfl, rfl⟩ := h45
        refine r_ifb_eq 91 C dX10_findBest_48 (by decide) (fun h48 => ?_) (fun h48 => ?_)
        · rw [rel_law hI hA (w := (m : Int)) (by omega)] at h48
          have hlaw := h48
          refine r_iinc C dX10_findBest_91 rfl rfl rfl (by decide) ?_
          refine r_goto 9 C dX10_findBest_94 (by decide) ?_
          have eb : bstA A x a d (m + 1) = bstA A x a d m := by simp only [bstA]; rw [if_neg (fun q => by obtain ⟨q1, q2, q3, q4⟩ := q; rw [← hfg] at q4; first | exact hlaw q2 | (have q5 : f < 0 ∨ g < (wdAt A m).2.2.1 - fitT A m 0 0 := q4; omega))]
          exact ih (m + 1) _ _ _ _ (by push_cast; omega) hI (by rw [eb]; exact hfg) (by omega) (by omega)
        · rw [rel_law hI hA (w := (m : Int)) (by omega)] at h48
          have hlaw := h48
          refine r_aload_n C dX10_findBest_51 rfl ?_
          refine r_iload C dX10_findBest_52 rfl ?_
          refine r_cvi (c := 1) C dX10_findBest_54 mv_X10_157 (c_X10_findFit e l _ _ A hI hA (by omega)) (by decide) rfl rfl rfl rfl (by decide) rfl rfl (Nat.le_of_ble_eq_true rfl) (fun z54 σ54 h54 => ?_)
          obtain ⟨hR54, f1, f2, f3, f4⟩ := h54
          refine r_if_ne 63 C dX10_findBest_57 (by decide) (by omega) (fun h57 => ?_) (fun h57 => ?_)
          · refine r_aload_n C dX10_findBest_63 rfl ?_
            refine r_iload C dX10_findBest_64 rfl ?_
            refine r_cvi (c := 1) C dX10_findBest_66 mv_X10_197 (c_X10_worthOfFit e l _ _ hR54.1.1 (by omega)) (by decide) rfl rfl rfl rfl (by decide) rfl rfl (Nat.le_of_ble_eq_true rfl) (fun z66 σ66 h66 => ?_)
            obtain ⟨hz66, rfl⟩ := h66
            have wf2 := wd_f hR54 hA (x := (m : Int)) (by omega)
            have bf := hR54.1.1 23 0 3 (by omega) (by omega)
            obtain ⟨zw, hzw⟩ : ∃ zw, zw = z66 := ⟨_, rfl⟩
            rw [← hzw] at hz66 ⊢
            refine r_istore C dX10_findBest_69 rfl rfl (by decide) ?_
            refine r_iload C dX10_findBest_71 rfl ?_
            refine r_if_lt 83 C dX10_findBest_73 (by decide) (by omega) (fun h73 => ?_) (fun h73 => ?_)
            · refine r_iload C dX10_findBest_83 rfl ?_
              refine r_istore C dX10_findBest_85 rfl rfl (by decide) ?_
              refine r_iload C dX10_findBest_87 rfl ?_
              refine r_istore C dX10_findBest_89 rfl rfl (by decide) ?_
              refine r_iinc C dX10_findBest_91 rfl rfl rfl (by decide) ?_
              refine r_goto 9 C dX10_findBest_94 (by decide) ?_
              have eb : bstA A x a d (m + 1) = ((m : Int), (wdAt A m).2.2.1 - fitT A m 0 0) := by simp only [bstA]; rw [if_pos (by rw [← hfg]; exact ⟨by omega, hlaw, by omega, by show f < 0 ∨ g < _; omega⟩)]
              exact ih (m + 1) _ _ _ _ (by push_cast; omega) hR54 (by rw [eb]; exact Prod.ext rfl (by show zw = _; omega)) (by omega) (by omega)
            · refine r_iload C dX10_findBest_76 rfl ?_
              refine r_iload C dX10_findBest_78 rfl ?_
              refine r_ic_le 91 C dX10_findBest_80 (by decide) (by omega) (by omega) (fun h80 => ?_) (fun h80 => ?_)
              · refine r_iinc C dX10_findBest_91 rfl rfl rfl (by decide) ?_
                refine r_goto 9 C dX10_findBest_94 (by decide) ?_
                have eb : bstA A x a d (m + 1) = bstA A x a d m := by simp only [bstA]; rw [if_neg (fun q => by obtain ⟨q1, q2, q3, q4⟩ := q; rw [← hfg] at q4; first | exact hlaw q2 | (have q5 : f < 0 ∨ g < (wdAt A m).2.2.1 - fitT A m 0 0 := q4; omega))]
                exact ih (m + 1) _ _ _ _ (by push_cast; omega) hR54 (by rw [eb]; exact hfg) (by omega) (by omega)
              · refine r_iload C dX10_findBest_83 rfl ?_
                refine r_istore C dX10_findBest_85 rfl rfl (by decide) ?_
                refine r_iload C dX10_findBest_87 rfl ?_
                refine r_istore C dX10_findBest_89 rfl rfl (by decide) ?_
                refine r_iinc C dX10_findBest_91 rfl rfl rfl (by decide) ?_
                refine r_goto 9 C dX10_findBest_94 (by decide) ?_
                have eb : bstA A x a d (m + 1) = ((m : Int), (wdAt A m).2.2.1 - fitT A m 0 0) := by simp only [bstA]; rw [if_pos (by rw [← hfg]; exact ⟨by omega, hlaw, by omega, by show f < 0 ∨ g < _; omega⟩)]
                exact ih (m + 1) _ _ _ _ (by push_cast; omega) hR54 (by rw [eb]; exact Prod.ext rfl (by show zw = _; omega)) (by omega) (by omega)
          · refine r_goto 91 C dX10_findBest_60 (by decide) ?_
            refine r_iinc C dX10_findBest_91 rfl rfl rfl (by decide) ?_
            refine r_goto 9 C dX10_findBest_94 (by decide) ?_
            have eb : bstA A x a d (m + 1) = bstA A x a d m := by simp only [bstA]; rw [if_neg (fun q => by obtain ⟨q1, q2, q3, q4⟩ := q; rw [← hfg] at q4; first | exact hlaw q2 | (have q5 : f < 0 ∨ g < (wdAt A m).2.2.1 - fitT A m 0 0 := q4; omega))]
            exact ih (m + 1) _ _ _ _ (by push_cast; omega) hR54 (by rw [eb]; exact hfg) (by omega) (by omega)
set_option maxRecDepth 20000 in
theorem c_X10_findBest (e : qR) (l : Launch) (σ : qSt) (x a d : Int) (A : aSt) (hR : RelD σ A) (hA : AOk A) (hx : InI x) (ha : InI a) (hd : InI d) : CM (ED e) l yX10_findBest cX10_findBest 8 (some .int) 8 [qr 0 0, qi x, qi a, qi d] σ (Ri fun z σ' => z = (bstA A x a d (cW A.1).length).1 ∧ RelD σ' A) := by
  refine CM.mk tD_ok (by decide +kernel) (Nat.le_of_ble_eq_true rfl) (fun G C => ?_)
  show G σ 0 [some (qr 0 0), some (qi x), some (qi a), some (qi d), none, none, none, none] []
  refine r_iconst C dX10_findBest_0 ?_
  refine r_istore C dX10_findBest_1 rfl rfl (by decide) ?_
  refine r_iconst C dX10_findBest_3 ?_
  refine r_istore C dX10_findBest_4 rfl rfl (by decide) ?_
  refine r_iconst C dX10_findBest_6 ?_
  refine r_istore C dX10_findBest_7 rfl rfl (by decide) ?_
  exact lp_X10_findBest e l σ x a d A hA hx ha hd C (fun σ2 h2 => ⟨_, rfl, rfl, h2⟩) (cW A.1).length 0 _ _ _ _ (by show (0 : Int) + ((cW A.1).length : Int) = ((cW A.1).length : Int); omega) hR rfl (by omega) (by omega)
set_option maxRecDepth 20000 in
theorem o_best (e : qR) (l : Launch) (σ : qSt) (x a d : Int) (A : aSt) (hR : RelD σ A) (hA : AOk A) (h_x : InI x) (h_a : InI a) (h_d : InI d)  : CM (ED e) l yX10_best cX10_best 5 (some .int) 20 [qr 0 0, qi x, qi a, qi d] σ (Ri fun z σ' => z = (oBest x a d A).1 ∧ RelD σ' (oBest x a d A).2) := by
  refine CM.mk tD_ok (by decide +kernel) (Nat.le_of_ble_eq_true rfl) (fun G C => ?_)
  show G σ 0 [some (qr 0 0), some (qi x), some (qi a), some (qi d), none] []
  obtain ⟨hb, e10, n10, m10, e11, n11, m11, e5, n5, m5, e4, n4, m4, h381, h382, h383, h384⟩ := dF hR hA
  refine r_aload_n C dX10_best_0 rfl ?_
  refine r_iload_n C dX10_best_1 rfl ?_
  refine r_cvi (c := 1) C dX10_best_2 mv_X10_104 (c_X10_isLine e l _ _ hb (by omega)) (by decide) rfl rfl rfl rfl (by decide) rfl rfl (Nat.le_of_ble_eq_true rfl) (fun z2 σ2 h2 => ?_)
  obtain ⟨rfl, rfl⟩ := h2
  refine r_ifb_eq 26 C dX10_best_5 (by decide) (fun h5 => ?_) (fun h5 => ?_)
  · refine r_aload_n C dX10_best_26 rfl ?_
    refine r_ldc C dX10_best_27 kc_X10_90 ?_
    refine r_cvi (c := 1) C dX10_best_29 mv_X10_91 (c_X10_finding e l _ _) (by decide) rfl rfl rfl rfl (by decide) rfl rfl (Nat.le_of_ble_eq_true rfl) (fun z29 σ29 h29 => ?_)
    obtain ⟨rfl, rfl⟩ := h29
    refine r_iret C dX10_best_32 ?_
    have e1 : oBest x a d A = fnd A (-100001) := by unfold oBest; repeat (first | rw [if_pos (by omega)] | rw [if_neg (by omega)])
    exact ⟨_, rfl, by rw [e1]; rfl, by rw [e1]; exact rel_fnd hR _⟩
  · refine r_iload_n C dX10_best_8 rfl ?_
    refine r_iconst C dX10_best_9 ?_
    refine r_csi C dX10_best_10 ms_X10_86 (c_X10_within e l _ _ _ (by omega) (by omega)) (by decide) rfl rfl (Nat.le_of_ble_eq_true rfl) (fun z10 σ10 h10 => ?_)
    obtain ⟨rfl, rfl⟩ := h10
    refine r_ifb_eq 26 C dX10_best_13 (by decide) (fun h13 => ?_) (fun h13 => ?_)
    · refine r_aload_n C dX10_best_26 rfl ?_
      refine r_ldc C dX10_best_27 kc_X10_90 ?_
      refine r_cvi (c := 1) C dX10_best_29 mv_X10_91 (c_X10_finding e l _ _) (by decide) rfl rfl rfl rfl (by decide) rfl rfl (Nat.le_of_ble_eq_true rfl) (fun z29 σ29 h29 => ?_)
      obtain ⟨rfl, rfl⟩ := h29
      refine r_iret C dX10_best_32 ?_
      have e1 : oBest x a d A = fnd A (-100001) := by unfold oBest; repeat (first | rw [if_pos (by omega)] | rw [if_neg (by omega)])
      exact ⟨_, rfl, by rw [e1]; rfl, by rw [e1]; exact rel_fnd hR _⟩
    · refine r_iload_n C dX10_best_16 rfl ?_
      refine r_sipush C dX10_best_17 ?_
      refine r_csi C dX10_best_20 ms_X10_86 (c_X10_within e l _ _ _ (by omega) (by omega)) (by decide) rfl rfl (Nat.le_of_ble_eq_true rfl) (fun z20 σ20 h20 => ?_)
      obtain ⟨rfl, rfl⟩ := h20
      refine r_ifb_ne 33 C dX10_best_23 (by decide) (fun h23 => ?_) (fun h23 => ?_)
      · refine r_aload_n C dX10_best_33 rfl ?_
        refine r_iload_n C dX10_best_34 rfl ?_
        refine r_iload_n C dX10_best_35 rfl ?_
        refine r_iload_n C dX10_best_36 rfl ?_
        refine r_cvi (c := 1) C dX10_best_37 mv_X10_194 (c_X10_findBest e l _ _ _ _ A hR hA (by omega) (by omega) (by omega)) (by decide) rfl rfl rfl rfl (by decide) rfl rfl (Nat.le_of_ble_eq_true rfl) (fun z37 σ37 h37 => ?_)
        obtain ⟨hz37, hR37⟩ := h37
        have bs := bst_spec A x a d (cW A.1).length
        have bn : ((cW A.1).length : Int) = nWd A := rfl
        have hzr : -1 ≤ z37 ∧ z37 < 20 := by
          rcases bs with q | q
          · rw [hz37, q]; decide
          · omega
        refine r_istore C dX10_best_40 rfl rfl (by decide) ?_
        refine r_iload C dX10_best_42 rfl ?_
        refine r_if_ge 56 C dX10_best_44 (by decide) (by omega) (fun h44 => ?_) (fun h44 => ?_)
        · refine r_iload C dX10_best_56 rfl ?_
          refine r_iret C dX10_best_58 ?_
          first
          | (have e1 : oBest x a d A = fnd A (-100006) := by unfold oBest; repeat (first | rw [if_pos (by omega)] | rw [if_neg (by omega)])
             exact ⟨_, rfl, by rw [e1]; rfl, by rw [e1]; exact rel_fnd hR37 _⟩)
          | (have e1 : oBest x a d A = ((bstA A x a d (cW A.1).length).1, A) := by unfold oBest; repeat (first | rw [if_pos (by omega)] | rw [if_neg (by omega)])
             exact ⟨_, rfl, by rw [e1]; exact hz37, by rw [e1]; exact hR37⟩)
        · refine r_aload_n C dX10_best_47 rfl ?_
          refine r_ldc C dX10_best_48 kc_X10_135 ?_
          refine r_cvi (c := 1) C dX10_best_50 mv_X10_91 (c_X10_finding e l _ _) (by decide) rfl rfl rfl rfl (by decide) rfl rfl (Nat.le_of_ble_eq_true rfl) (fun z50 σ50 h50 => ?_)
          obtain ⟨rfl, rfl⟩ := h50
          refine r_goto 58 C dX10_best_53 (by decide) ?_
          refine r_iret C dX10_best_58 ?_
          first
          | (have e1 : oBest x a d A = fnd A (-100006) := by unfold oBest; repeat (first | rw [if_pos (by omega)] | rw [if_neg (by omega)])
             exact ⟨_, rfl, by rw [e1]; rfl, by rw [e1]; exact rel_fnd hR37 _⟩)
          | (have e1 : oBest x a d A = ((bstA A x a d (cW A.1).length).1, A) := by unfold oBest; repeat (first | rw [if_pos (by omega)] | rw [if_neg (by omega)])
             exact ⟨_, rfl, by rw [e1]; exact hz37, by rw [e1]; exact hR37⟩)
      · refine r_aload_n C dX10_best_26 rfl ?_
        refine r_ldc C dX10_best_27 kc_X10_90 ?_
        refine r_cvi (c := 1) C dX10_best_29 mv_X10_91 (c_X10_finding e l _ _) (by decide) rfl rfl rfl rfl (by decide) rfl rfl (Nat.le_of_ble_eq_true rfl) (fun z29 σ29 h29 => ?_)
        obtain ⟨rfl, rfl⟩ := h29
        refine r_iret C dX10_best_32 ?_
        have e1 : oBest x a d A = fnd A (-100001) := by unfold oBest; repeat (first | rw [if_pos (by omega)] | rw [if_neg (by omega)])
        exact ⟨_, rfl, by rw [e1]; rfl, by rw [e1]; exact rel_fnd hR _⟩
set_option maxRecDepth 20000 in
theorem lp_X10_worth {G : qSt → Nat → List (Option qV) → List qV → Prop} {Ret : Option qV → qSt → Prop} (e : qR) (l : Launch) (σ : qSt) (a d : Int) (A : aSt) (hA : AOk A) (ha : InI a) (hd : InI d) (C : Cx (ED e) l RX10 cX10_worth 6 (some .int) 20 Ret G) (hN : ∀ σ2, RelD σ2 A → Ret (some (qi (wthA A a d (cL A.1).length))) σ2) : ∀ (k : Nat) (m : Nat) (σ1 : qSt) (s : Int) (o5 : Option qV), (m : Int) + (k : Int) = nLn A → RelD σ1 A → s = wthA A a d m → (-3000000 * (m : Int) ≤ s ∧ s ≤ 3000000 * (m : Int)) → G σ1 30 [some (qr 0 0), some (qi a), some (qi d), some (qi s), some (qi (m : Int)), o5] [] := by
  intro k
  induction k with
  | zero =>
    intro m σ1 s o5 hm hI hs hsb
    obtain ⟨hb, e10, n10, m10, e11, n11, m11, e5, n5, m5, e4, n4, m4, h381, h382, h383, h384⟩ := dF hI hA
    have en : ((cW A.1).length : Int) = nWd A := rfl
    refine r_iload C dX10_worth_30 rfl ?_
    refine r_aload_n C dX10_worth_32 rfl ?_
    refine r_get_i (c := 1) 10 C dX10_worth_33 fl_X10_73 rfl rfl rfl rfl (by decide) ?_
    have b33 := hb 0 0 10 (by omega) (by omega)
    refine r_ic_ge 78 C dX10_worth_36 (by decide) (by omega) (by omega) (fun h36 => ?_) (fun h36 => ?_)
    · refine r_iload_n C dX10_worth_78 rfl ?_
      refine r_iret C dX10_worth_79 ?_
      have e2 := hN σ1 hI
      rw [show (cL A.1).length = m by have : ((cL A.1).length : Int) = nLn A := rfl; omega, ← hs] at e2
      exact e2
    · exfalso; omega
  | succ k ih =>
    intro m σ1 s o5 hm hI hs hsb
    obtain ⟨hb, e10, n10, m10, e11, n11, m11, e5, n5, m5, e4, n4, m4, h381, h382, h383, h384⟩ := dF hI hA
    have en : ((cW A.1).length : Int) = nWd A := rfl
    refine r_iload C dX10_worth_30 rfl ?_
    refine r_aload_n C dX10_worth_32 rfl ?_
    refine r_get_i (c := 1) 10 C dX10_worth_33 fl_X10_73 rfl rfl rfl rfl (by decide) ?_
    have b33 := hb 0 0 10 (by omega) (by omega)
    refine r_ic_ge 78 C dX10_worth_36 (by decide) (by omega) (by omega) (fun h36 => ?_) (fun h36 => ?_)
    · exfalso; omega
    · refine r_aload_n C dX10_worth_39 rfl ?_
      refine r_iload C dX10_worth_40 rfl ?_
      refine r_iload_n C dX10_worth_42 rfl ?_
      refine r_iload_n C dX10_worth_43 rfl ?_
      refine r_cvi (c := 1) C dX10_worth_44 mv_X10_194 (c_X10_findBest e l _ _ _ _ A hI hA (by omega) (by omega) (by omega)) (by decide) rfl rfl rfl rfl (by decide) rfl rfl (Nat.le_of_ble_eq_true rfl) (fun z44 σ44 h44 => ?_)
      obtain ⟨hz44, hR44⟩ := h44
      have bs := bst_spec A m a d (cW A.1).length
      have bn : ((cW A.1).length : Int) = nWd A := rfl
      have hzr : -1 ≤ z44 ∧ z44 < 20 := by
        rcases bs with q | q
        · rw [hz44, q]; decide
        · omega
      refine r_istore C dX10_worth_47 rfl rfl (by decide) ?_
      refine r_iload C dX10_worth_49 rfl ?_
      refine r_if_lt 72 C dX10_worth_51 (by decide) (by omega) (fun h51 => ?_) (fun h51 => ?_)
      · refine r_iinc C dX10_worth_72 rfl rfl rfl (by decide) ?_
        refine r_goto 30 C dX10_worth_75 (by decide) ?_
        have eb : wthA A a d (m + 1) = wthA A a d m + (if (bstA A m a d (cW A.1).length).1 < 0 then 0 else (bstA A m a d (cW A.1).length).2) := rfl
        rw [if_pos (by omega)] at eb
        exact ih (m + 1) _ _ _ (by push_cast; omega) hR44 (by omega) (by push_cast; omega)
      · have bq := bs.resolve_left (fun q => by rw [q] at hz44; have : z44 = -1 := hz44; omega)
        rw [← hz44] at bq
        refine r_aload_n C dX10_worth_54 rfl ?_
        refine r_iload C dX10_worth_55 rfl ?_
        refine r_cvi (c := 1) C dX10_worth_57 mv_X10_157 (c_X10_findFit e l _ _ A hR44 hA (by omega)) (by decide) rfl rfl rfl rfl (by decide) rfl rfl (Nat.le_of_ble_eq_true rfl) (fun z57 σ57 h57 => ?_)
        obtain ⟨hR57, f1, f2, f3, f4⟩ := h57
        refine r_if_eq 72 C dX10_worth_60 (by decide) (by omega) (fun h60 => ?_) (fun h60 => ?_)
        · exfalso; omega
        · refine r_iload_n C dX10_worth_63 rfl ?_
          refine r_aload_n C dX10_worth_64 rfl ?_
          refine r_iload C dX10_worth_65 rfl ?_
          refine r_cvi (c := 1) C dX10_worth_67 mv_X10_197 (c_X10_worthOfFit e l _ _ hR57.1.1 (by omega)) (by decide) rfl rfl rfl rfl (by decide) rfl rfl (Nat.le_of_ble_eq_true rfl) (fun z67 σ67 h67 => ?_)
          obtain ⟨hz67, rfl⟩ := h67
          have wf2 := wd_f hR57 hA (x := z44) (by omega)
          have bf := hR57.1.1 23 0 3 (by omega) (by omega)
          refine r_iadd C dX10_worth_70 ?_
          refine r_istore_n C dX10_worth_71 rfl rfl (by decide) ?_
          refine r_iinc C dX10_worth_72 rfl rfl rfl (by decide) ?_
          refine r_goto 30 C dX10_worth_75 (by decide) ?_
          have eb : wthA A a d (m + 1) = wthA A a d m + (if (bstA A m a d (cW A.1).length).1 < 0 then 0 else (bstA A m a d (cW A.1).length).2) := rfl
          rw [if_neg (by omega)] at eb
          exact ih (m + 1) _ _ _ (by push_cast; omega) hR57 (by omega) (by push_cast; omega)
set_option maxRecDepth 20000 in
theorem o_worth (e : qR) (l : Launch) (σ : qSt) (a d : Int) (A : aSt) (hR : RelD σ A) (hA : AOk A) (h_a : InI a) (h_d : InI d)  : CM (ED e) l yX10_worth cX10_worth 6 (some .int) 20 [qr 0 0, qi a, qi d] σ (Ri fun z σ' => z = (oWorth a d A).1 ∧ RelD σ' (oWorth a d A).2) := by
  refine CM.mk tD_ok (by decide +kernel) (Nat.le_of_ble_eq_true rfl) (fun G C => ?_)
  show G σ 0 [some (qr 0 0), some (qi a), some (qi d), none, none, none] []
  obtain ⟨hb, e10, n10, m10, e11, n11, m11, e5, n5, m5, e4, n4, m4, h381, h382, h383, h384⟩ := dF hR hA
  refine r_iload_n C dX10_worth_0 rfl ?_
  refine r_iconst C dX10_worth_1 ?_
  refine r_csi C dX10_worth_2 ms_X10_86 (c_X10_within e l _ _ _ (by omega) (by omega)) (by decide) rfl rfl (Nat.le_of_ble_eq_true rfl) (fun z2 σ2 h2 => ?_)
  obtain ⟨rfl, rfl⟩ := h2
  refine r_ifb_eq 18 C dX10_worth_5 (by decide) (fun h5 => ?_) (fun h5 => ?_)
  · refine r_aload_n C dX10_worth_18 rfl ?_
    refine r_ldc C dX10_worth_19 kc_X10_90 ?_
    refine r_cvi (c := 1) C dX10_worth_21 mv_X10_91 (c_X10_finding e l _ _) (by decide) rfl rfl rfl rfl (by decide) rfl rfl (Nat.le_of_ble_eq_true rfl) (fun z21 σ21 h21 => ?_)
    obtain ⟨rfl, rfl⟩ := h21
    refine r_iret C dX10_worth_24 ?_
    have e1 : oWorth a d A = fnd A (-100001) := by unfold oWorth; repeat (first | rw [if_pos (by omega)] | rw [if_neg (by omega)])
    exact ⟨_, rfl, by rw [e1]; rfl, by rw [e1]; exact rel_fnd hR _⟩
  · refine r_iload_n C dX10_worth_8 rfl ?_
    refine r_sipush C dX10_worth_9 ?_
    refine r_csi C dX10_worth_12 ms_X10_86 (c_X10_within e l _ _ _ (by omega) (by omega)) (by decide) rfl rfl (Nat.le_of_ble_eq_true rfl) (fun z12 σ12 h12 => ?_)
    obtain ⟨rfl, rfl⟩ := h12
    refine r_ifb_ne 25 C dX10_worth_15 (by decide) (fun h15 => ?_) (fun h15 => ?_)
    · refine r_iconst C dX10_worth_25 ?_
      refine r_istore_n C dX10_worth_26 rfl rfl (by decide) ?_
      refine r_iconst C dX10_worth_27 ?_
      refine r_istore C dX10_worth_28 rfl rfl (by decide) ?_
      have e1 : oWorth a d A = (wthA A a d (cL A.1).length, A) := by unfold oWorth; repeat (first | rw [if_pos (by omega)] | rw [if_neg (by omega)])
      exact lp_X10_worth e l σ a d A hA (by omega) (by omega) C (fun σ2 h2 => ⟨_, rfl, by rw [e1], by rw [e1]; exact h2⟩) (cL A.1).length 0 _ _ _ (by show (0 : Int) + ((cL A.1).length : Int) = ((cL A.1).length : Int); omega) hR rfl (by omega)
    · refine r_aload_n C dX10_worth_18 rfl ?_
      refine r_ldc C dX10_worth_19 kc_X10_90 ?_
      refine r_cvi (c := 1) C dX10_worth_21 mv_X10_91 (c_X10_finding e l _ _) (by decide) rfl rfl rfl rfl (by decide) rfl rfl (Nat.le_of_ble_eq_true rfl) (fun z21 σ21 h21 => ?_)
      obtain ⟨rfl, rfl⟩ := h21
      refine r_iret C dX10_worth_24 ?_
      have e1 : oWorth a d A = fnd A (-100001) := by unfold oWorth; repeat (first | rw [if_pos (by omega)] | rw [if_neg (by omega)])
      exact ⟨_, rfl, by rw [e1]; rfl, by rw [e1]; exact rel_fnd hR _⟩
set_option maxRecDepth 20000 in
theorem o_sheet (e : qR) (l : Launch) (σ : qSt) (s b n : Int) (A : aSt) (hR : RelD σ A) (hA : AOk A) (h_s : InI s) (h_b : InI b) (h_n : InI n)  : CM (ED e) l yX10_sheet cX10_sheet 4 (some .int) 20 [qr 0 0, qi s, qi b, qi n] σ (Ri fun z σ' => z = (oSheet s b n A).1 ∧ RelD σ' (oSheet s b n A).2) := by
  refine CM.mk tD_ok (by decide +kernel) (Nat.le_of_ble_eq_true rfl) (fun G C => ?_)
  show G σ 0 [some (qr 0 0), some (qi s), some (qi b), some (qi n)] []
  obtain ⟨hb, e10, n10, m10, e11, n11, m11, e5, n5, m5, e4, n4, m4, h381, h382, h383, h384⟩ := dF hR hA
  refine r_iload_n C dX10_sheet_0 rfl ?_
  refine r_iconst C dX10_sheet_1 ?_
  refine r_csi C dX10_sheet_2 ms_X10_86 (c_X10_within e l _ _ _ (by omega) (by omega)) (by decide) rfl rfl (Nat.le_of_ble_eq_true rfl) (fun z2 σ2 h2 => ?_)
  obtain ⟨rfl, rfl⟩ := h2
  refine r_ifb_eq 30 C dX10_sheet_5 (by decide) (fun h5 => ?_) (fun h5 => ?_)
  · refine r_aload_n C dX10_sheet_30 rfl ?_
    refine r_ldc C dX10_sheet_31 kc_X10_90 ?_
    refine r_cvi (c := 1) C dX10_sheet_33 mv_X10_91 (c_X10_finding e l _ _) (by decide) rfl rfl rfl rfl (by decide) rfl rfl (Nat.le_of_ble_eq_true rfl) (fun z33 σ33 h33 => ?_)
    obtain ⟨rfl, rfl⟩ := h33
    refine r_iret C dX10_sheet_36 ?_
    have e1 : oSheet s b n A = fnd A (-100001) := by unfold oSheet; repeat (first | rw [if_pos (by omega)] | rw [if_neg (by omega)])
    exact ⟨_, rfl, by rw [e1]; rfl, by rw [e1]; exact rel_fnd hR _⟩
  · refine r_iload_n C dX10_sheet_8 rfl ?_
    refine r_if_eq 37 C dX10_sheet_9 (by decide) (by omega) (fun h9 => ?_) (fun h9 => ?_)
    · refine r_iload_n C dX10_sheet_37 rfl ?_
      refine r_if_ge 48 C dX10_sheet_38 (by decide) (by omega) (fun h38 => ?_) (fun h38 => ?_)
      · refine r_iload_n C dX10_sheet_48 rfl ?_
        refine r_bipush C dX10_sheet_49 ?_
        refine r_ic_le 61 C dX10_sheet_51 (by decide) (by omega) (by omega) (fun h51 => ?_) (fun h51 => ?_)
        · refine r_aload_n C dX10_sheet_61 rfl ?_
          refine r_get_r (c := 1) C dX10_sheet_62 fl_X10_23 rfl rfl rfl (by decide) rfl ?_
          refine r_iload_n C dX10_sheet_65 rfl ?_
          refine r_aald (c := 1) (N := 4) C dX10_sheet_66 rfl (by decide) rfl (by decide) (by omega) rfl ?_
          refine r_iload_n C dX10_sheet_67 rfl ?_
          refine r_iload_n C dX10_sheet_68 rfl ?_
          refine r_cvv (c := 4) C dX10_sheet_69 mv_X10_254 (c_X8_begin e l _ _ _ _ (by omega) (by omega)) (by decide) rfl rfl rfl rfl (by omega) rfl rfl (Nat.le_of_ble_eq_true rfl) (fun σ69 h69 => ?_)
          refine r_aload_n C dX10_sheet_72 rfl ?_
          refine r_get_r (c := 1) C dX10_sheet_73 fl_X10_23 rfl rfl rfl (by decide) rfl ?_
          refine r_iload_n C dX10_sheet_76 rfl ?_
          refine r_aald (c := 1) (N := 4) C dX10_sheet_77 rfl (by decide) rfl (by decide) (by omega) rfl ?_
          refine r_get_i (c := 4) 2 C dX10_sheet_78 fl_X10_236 rfl rfl rfl rfl (by omega) ?_
          refine r_iret C dX10_sheet_81 ?_
          have e1 : oSheet s b n A = (if b = 0 then 0 else n, shs A (updF (biA A) s b) (updF (szA A) s (if b = 0 then 0 else n)) (fun t => if t = s then fun _ => 0 else nuA A t)) := by unfold oSheet; rw [if_neg (by omega), if_neg (by omega), if_neg (by omega)]
          exact ⟨_, rfl, by rw [e1, h69]; simp [qFil, qUp], by rw [e1, h69]; exact rel_sheet hR (by omega) (by omega) (by omega)⟩
        · refine r_aload_n C dX10_sheet_54 rfl ?_
          refine r_ldc C dX10_sheet_55 kc_X10_90 ?_
          refine r_cvi (c := 1) C dX10_sheet_57 mv_X10_91 (c_X10_finding e l _ _) (by decide) rfl rfl rfl rfl (by decide) rfl rfl (Nat.le_of_ble_eq_true rfl) (fun z57 σ57 h57 => ?_)
          obtain ⟨rfl, rfl⟩ := h57
          refine r_iret C dX10_sheet_60 ?_
          have e1 : oSheet s b n A = fnd A (-100001) := by unfold oSheet; repeat (first | rw [if_pos (by omega)] | rw [if_neg (by omega)])
          exact ⟨_, rfl, by rw [e1]; rfl, by rw [e1]; exact rel_fnd hR _⟩
      · refine r_aload_n C dX10_sheet_41 rfl ?_
        refine r_ldc C dX10_sheet_42 kc_X10_127 ?_
        refine r_cvi (c := 1) C dX10_sheet_44 mv_X10_91 (c_X10_finding e l _ _) (by decide) rfl rfl rfl rfl (by decide) rfl rfl (Nat.le_of_ble_eq_true rfl) (fun z44 σ44 h44 => ?_)
        obtain ⟨rfl, rfl⟩ := h44
        refine r_iret C dX10_sheet_47 ?_
        have e1 : oSheet s b n A = fnd A (-100003) := by unfold oSheet; repeat (first | rw [if_pos (by omega)] | rw [if_neg (by omega)])
        exact ⟨_, rfl, by rw [e1]; rfl, by rw [e1]; exact rel_fnd hR _⟩
    · refine r_iload_n C dX10_sheet_12 rfl ?_
      refine r_bipush C dX10_sheet_13 ?_
      refine r_ic_eq 37 C dX10_sheet_15 (by decide) (by omega) (by omega) (fun h15 => ?_) (fun h15 => ?_)
      · refine r_iload_n C dX10_sheet_37 rfl ?_
        refine r_if_ge 48 C dX10_sheet_38 (by decide) (by omega) (fun h38 => ?_) (fun h38 => ?_)
        · refine r_iload_n C dX10_sheet_48 rfl ?_
          refine r_bipush C dX10_sheet_49 ?_
          refine r_ic_le 61 C dX10_sheet_51 (by decide) (by omega) (by omega) (fun h51 => ?_) (fun h51 => ?_)
          · refine r_aload_n C dX10_sheet_61 rfl ?_
            refine r_get_r (c := 1) C dX10_sheet_62 fl_X10_23 rfl rfl rfl (by decide) rfl ?_
            refine r_iload_n C dX10_sheet_65 rfl ?_
            refine r_aald (c := 1) (N := 4) C dX10_sheet_66 rfl (by decide) rfl (by decide) (by omega) rfl ?_
            refine r_iload_n C dX10_sheet_67 rfl ?_
            refine r_iload_n C dX10_sheet_68 rfl ?_
            refine r_cvv (c := 4) C dX10_sheet_69 mv_X10_254 (c_X8_begin e l _ _ _ _ (by omega) (by omega)) (by decide) rfl rfl rfl rfl (by omega) rfl rfl (Nat.le_of_ble_eq_true rfl) (fun σ69 h69 => ?_)
            refine r_aload_n C dX10_sheet_72 rfl ?_
            refine r_get_r (c := 1) C dX10_sheet_73 fl_X10_23 rfl rfl rfl (by decide) rfl ?_
            refine r_iload_n C dX10_sheet_76 rfl ?_
            refine r_aald (c := 1) (N := 4) C dX10_sheet_77 rfl (by decide) rfl (by decide) (by omega) rfl ?_
            refine r_get_i (c := 4) 2 C dX10_sheet_78 fl_X10_236 rfl rfl rfl rfl (by omega) ?_
            refine r_iret C dX10_sheet_81 ?_
            have e1 : oSheet s b n A = (if b = 0 then 0 else n, shs A (updF (biA A) s b) (updF (szA A) s (if b = 0 then 0 else n)) (fun t => if t = s then fun _ => 0 else nuA A t)) := by unfold oSheet; rw [if_neg (by omega), if_neg (by omega), if_neg (by omega)]
            exact ⟨_, rfl, by rw [e1, h69]; simp [qFil, qUp], by rw [e1, h69]; exact rel_sheet hR (by omega) (by omega) (by omega)⟩
          · refine r_aload_n C dX10_sheet_54 rfl ?_
            refine r_ldc C dX10_sheet_55 kc_X10_90 ?_
            refine r_cvi (c := 1) C dX10_sheet_57 mv_X10_91 (c_X10_finding e l _ _) (by decide) rfl rfl rfl rfl (by decide) rfl rfl (Nat.le_of_ble_eq_true rfl) (fun z57 σ57 h57 => ?_)
            obtain ⟨rfl, rfl⟩ := h57
            refine r_iret C dX10_sheet_60 ?_
            have e1 : oSheet s b n A = fnd A (-100001) := by unfold oSheet; repeat (first | rw [if_pos (by omega)] | rw [if_neg (by omega)])
            exact ⟨_, rfl, by rw [e1]; rfl, by rw [e1]; exact rel_fnd hR _⟩
        · refine r_aload_n C dX10_sheet_41 rfl ?_
          refine r_ldc C dX10_sheet_42 kc_X10_127 ?_
          refine r_cvi (c := 1) C dX10_sheet_44 mv_X10_91 (c_X10_finding e l _ _) (by decide) rfl rfl rfl rfl (by decide) rfl rfl (Nat.le_of_ble_eq_true rfl) (fun z44 σ44 h44 => ?_)
          obtain ⟨rfl, rfl⟩ := h44
          refine r_iret C dX10_sheet_47 ?_
          have e1 : oSheet s b n A = fnd A (-100003) := by unfold oSheet; repeat (first | rw [if_pos (by omega)] | rw [if_neg (by omega)])
          exact ⟨_, rfl, by rw [e1]; rfl, by rw [e1]; exact rel_fnd hR _⟩
      · refine r_iload_n C dX10_sheet_18 rfl ?_
        refine r_bipush C dX10_sheet_19 ?_
        refine r_ic_eq 37 C dX10_sheet_21 (by decide) (by omega) (by omega) (fun h21 => ?_) (fun h21 => ?_)
        · refine r_iload_n C dX10_sheet_37 rfl ?_
          refine r_if_ge 48 C dX10_sheet_38 (by decide) (by omega) (fun h38 => ?_) (fun h38 => ?_)
          · refine r_iload_n C dX10_sheet_48 rfl ?_
            refine r_bipush C dX10_sheet_49 ?_
            refine r_ic_le 61 C dX10_sheet_51 (by decide) (by omega) (by omega) (fun h51 => ?_) (fun h51 => ?_)
            · refine r_aload_n C dX10_sheet_61 rfl ?_
              refine r_get_r (c := 1) C dX10_sheet_62 fl_X10_23 rfl rfl rfl (by decide) rfl ?_
              refine r_iload_n C dX10_sheet_65 rfl ?_
              refine r_aald (c := 1) (N := 4) C dX10_sheet_66 rfl (by decide) rfl (by decide) (by omega) rfl ?_
              refine r_iload_n C dX10_sheet_67 rfl ?_
              refine r_iload_n C dX10_sheet_68 rfl ?_
              refine r_cvv (c := 4) C dX10_sheet_69 mv_X10_254 (c_X8_begin e l _ _ _ _ (by omega) (by omega)) (by decide) rfl rfl rfl rfl (by omega) rfl rfl (Nat.le_of_ble_eq_true rfl) (fun σ69 h69 => ?_)
              refine r_aload_n C dX10_sheet_72 rfl ?_
              refine r_get_r (c := 1) C dX10_sheet_73 fl_X10_23 rfl rfl rfl (by decide) rfl ?_
              refine r_iload_n C dX10_sheet_76 rfl ?_
              refine r_aald (c := 1) (N := 4) C dX10_sheet_77 rfl (by decide) rfl (by decide) (by omega) rfl ?_
              refine r_get_i (c := 4) 2 C dX10_sheet_78 fl_X10_236 rfl rfl rfl rfl (by omega) ?_
              refine r_iret C dX10_sheet_81 ?_
              have e1 : oSheet s b n A = (if b = 0 then 0 else n, shs A (updF (biA A) s b) (updF (szA A) s (if b = 0 then 0 else n)) (fun t => if t = s then fun _ => 0 else nuA A t)) := by unfold oSheet; rw [if_neg (by omega), if_neg (by omega), if_neg (by omega)]
              exact ⟨_, rfl, by rw [e1, h69]; simp [qFil, qUp], by rw [e1, h69]; exact rel_sheet hR (by omega) (by omega) (by omega)⟩
            · refine r_aload_n C dX10_sheet_54 rfl ?_
              refine r_ldc C dX10_sheet_55 kc_X10_90 ?_
              refine r_cvi (c := 1) C dX10_sheet_57 mv_X10_91 (c_X10_finding e l _ _) (by decide) rfl rfl rfl rfl (by decide) rfl rfl (Nat.le_of_ble_eq_true rfl) (fun z57 σ57 h57 => ?_)
              obtain ⟨rfl, rfl⟩ := h57
              refine r_iret C dX10_sheet_60 ?_
              have e1 : oSheet s b n A = fnd A (-100001) := by unfold oSheet; repeat (first | rw [if_pos (by omega)] | rw [if_neg (by omega)])
              exact ⟨_, rfl, by rw [e1]; rfl, by rw [e1]; exact rel_fnd hR _⟩
          · refine r_aload_n C dX10_sheet_41 rfl ?_
            refine r_ldc C dX10_sheet_42 kc_X10_127 ?_
            refine r_cvi (c := 1) C dX10_sheet_44 mv_X10_91 (c_X10_finding e l _ _) (by decide) rfl rfl rfl rfl (by decide) rfl rfl (Nat.le_of_ble_eq_true rfl) (fun z44 σ44 h44 => ?_)
            obtain ⟨rfl, rfl⟩ := h44
            refine r_iret C dX10_sheet_47 ?_
            have e1 : oSheet s b n A = fnd A (-100003) := by unfold oSheet; repeat (first | rw [if_pos (by omega)] | rw [if_neg (by omega)])
            exact ⟨_, rfl, by rw [e1]; rfl, by rw [e1]; exact rel_fnd hR _⟩
        · refine r_iload_n C dX10_sheet_24 rfl ?_
          refine r_bipush C dX10_sheet_25 ?_
          refine r_ic_eq 37 C dX10_sheet_27 (by decide) (by omega) (by omega) (fun h27 => ?_) (fun h27 => ?_)
          · refine r_iload_n C dX10_sheet_37 rfl ?_
            refine r_if_ge 48 C dX10_sheet_38 (by decide) (by omega) (fun h38 => ?_) (fun h38 => ?_)
            · refine r_iload_n C dX10_sheet_48 rfl ?_
              refine r_bipush C dX10_sheet_49 ?_
              refine r_ic_le 61 C dX10_sheet_51 (by decide) (by omega) (by omega) (fun h51 => ?_) (fun h51 => ?_)
              · refine r_aload_n C dX10_sheet_61 rfl ?_
                refine r_get_r (c := 1) C dX10_sheet_62 fl_X10_23 rfl rfl rfl (by decide) rfl ?_
                refine r_iload_n C dX10_sheet_65 rfl ?_
                refine r_aald (c := 1) (N := 4) C dX10_sheet_66 rfl (by decide) rfl (by decide) (by omega) rfl ?_
                refine r_iload_n C dX10_sheet_67 rfl ?_
                refine r_iload_n C dX10_sheet_68 rfl ?_
                refine r_cvv (c := 4) C dX10_sheet_69 mv_X10_254 (c_X8_begin e l _ _ _ _ (by omega) (by omega)) (by decide) rfl rfl rfl rfl (by omega) rfl rfl (Nat.le_of_ble_eq_true rfl) (fun σ69 h69 => ?_)
                refine r_aload_n C dX10_sheet_72 rfl ?_
                refine r_get_r (c := 1) C dX10_sheet_73 fl_X10_23 rfl rfl rfl (by decide) rfl ?_
                refine r_iload_n C dX10_sheet_76 rfl ?_
                refine r_aald (c := 1) (N := 4) C dX10_sheet_77 rfl (by decide) rfl (by decide) (by omega) rfl ?_
                refine r_get_i (c := 4) 2 C dX10_sheet_78 fl_X10_236 rfl rfl rfl rfl (by omega) ?_
                refine r_iret C dX10_sheet_81 ?_
                have e1 : oSheet s b n A = (if b = 0 then 0 else n, shs A (updF (biA A) s b) (updF (szA A) s (if b = 0 then 0 else n)) (fun t => if t = s then fun _ => 0 else nuA A t)) := by unfold oSheet; rw [if_neg (by omega), if_neg (by omega), if_neg (by omega)]
                exact ⟨_, rfl, by rw [e1, h69]; simp [qFil, qUp], by rw [e1, h69]; exact rel_sheet hR (by omega) (by omega) (by omega)⟩
              · refine r_aload_n C dX10_sheet_54 rfl ?_
                refine r_ldc C dX10_sheet_55 kc_X10_90 ?_
                refine r_cvi (c := 1) C dX10_sheet_57 mv_X10_91 (c_X10_finding e l _ _) (by decide) rfl rfl rfl rfl (by decide) rfl rfl (Nat.le_of_ble_eq_true rfl) (fun z57 σ57 h57 => ?_)
                obtain ⟨rfl, rfl⟩ := h57
                refine r_iret C dX10_sheet_60 ?_
                have e1 : oSheet s b n A = fnd A (-100001) := by unfold oSheet; repeat (first | rw [if_pos (by omega)] | rw [if_neg (by omega)])
                exact ⟨_, rfl, by rw [e1]; rfl, by rw [e1]; exact rel_fnd hR _⟩
            · refine r_aload_n C dX10_sheet_41 rfl ?_
              refine r_ldc C dX10_sheet_42 kc_X10_127 ?_
              refine r_cvi (c := 1) C dX10_sheet_44 mv_X10_91 (c_X10_finding e l _ _) (by decide) rfl rfl rfl rfl (by decide) rfl rfl (Nat.le_of_ble_eq_true rfl) (fun z44 σ44 h44 => ?_)
              obtain ⟨rfl, rfl⟩ := h44
              refine r_iret C dX10_sheet_47 ?_
              have e1 : oSheet s b n A = fnd A (-100003) := by unfold oSheet; repeat (first | rw [if_pos (by omega)] | rw [if_neg (by omega)])
              exact ⟨_, rfl, by rw [e1]; rfl, by rw [e1]; exact rel_fnd hR _⟩
          · refine r_aload_n C dX10_sheet_30 rfl ?_
            refine r_ldc C dX10_sheet_31 kc_X10_90 ?_
            refine r_cvi (c := 1) C dX10_sheet_33 mv_X10_91 (c_X10_finding e l _ _) (by decide) rfl rfl rfl rfl (by decide) rfl rfl (Nat.le_of_ble_eq_true rfl) (fun z33 σ33 h33 => ?_)
            obtain ⟨rfl, rfl⟩ := h33
            refine r_iret C dX10_sheet_36 ?_
            have e1 : oSheet s b n A = fnd A (-100001) := by unfold oSheet; repeat (first | rw [if_pos (by omega)] | rw [if_neg (by omega)])
            exact ⟨_, rfl, by rw [e1]; rfl, by rw [e1]; exact rel_fnd hR _⟩
set_option maxRecDepth 20000 in
theorem o_put (e : qR) (l : Launch) (σ : qSt) (s i v : Int) (A : aSt) (hR : RelD σ A) (hA : AOk A) (h_s : InI s) (h_i : InI i) (h_v : InI v)  : CM (ED e) l yX10_put cX10_put 4 (some .int) 20 [qr 0 0, qi s, qi i, qi v] σ (Ri fun z σ' => z = (oPut s i v A).1 ∧ RelD σ' (oPut s i v A).2) := by
  refine CM.mk tD_ok (by decide +kernel) (Nat.le_of_ble_eq_true rfl) (fun G C => ?_)
  show G σ 0 [some (qr 0 0), some (qi s), some (qi i), some (qi v)] []
  obtain ⟨hb, e10, n10, m10, e11, n11, m11, e5, n5, m5, e4, n4, m4, h381, h382, h383, h384⟩ := dF hR hA
  refine r_iload_n C dX10_put_0 rfl ?_
  refine r_iconst C dX10_put_1 ?_
  refine r_csi C dX10_put_2 ms_X10_86 (c_X10_within e l _ _ _ (by omega) (by omega)) (by decide) rfl rfl (Nat.le_of_ble_eq_true rfl) (fun z2 σ2 h2 => ?_)
  obtain ⟨rfl, rfl⟩ := h2
  refine r_ifb_ne 15 C dX10_put_5 (by decide) (fun h5 => ?_) (fun h5 => ?_)
  · have sf := sh_f hR hA (s := s) (by omega)
    refine r_aload_n C dX10_put_15 rfl ?_
    refine r_get_r (c := 1) C dX10_put_16 fl_X10_23 rfl rfl rfl (by decide) rfl ?_
    refine r_iload_n C dX10_put_19 rfl ?_
    refine r_aald (c := 1) (N := 4) C dX10_put_20 rfl (by decide) rfl (by decide) (by omega) rfl ?_
    refine r_cvi (c := 4) C dX10_put_21 mv_X10_231 (c_X8_isMissing e l _ _ hb (by omega)) (by decide) rfl rfl rfl rfl (by omega) rfl rfl (Nat.le_of_ble_eq_true rfl) (fun z21 σ21 h21 => ?_)
    obtain ⟨rfl, rfl⟩ := h21
    refine r_ifb_eq 34 C dX10_put_24 (by decide) (fun h24 => ?_) (fun h24 => ?_)
    · refine r_iload_n C dX10_put_34 rfl ?_
      refine r_aload_n C dX10_put_35 rfl ?_
      refine r_get_r (c := 1) C dX10_put_36 fl_X10_23 rfl rfl rfl (by decide) rfl ?_
      refine r_iload_n C dX10_put_39 rfl ?_
      refine r_aald (c := 1) (N := 4) C dX10_put_40 rfl (by decide) rfl (by decide) (by omega) rfl ?_
      refine r_get_i (c := 4) 2 C dX10_put_41 fl_X10_236 rfl rfl rfl rfl (by omega) ?_
      have b41 := hb 205 s 2 (by omega) (by omega)
      refine r_csi C dX10_put_44 ms_X10_86 (c_X10_within e l _ _ _ (by omega) (by omega)) (by decide) rfl rfl (Nat.le_of_ble_eq_true rfl) (fun z44 σ44 h44 => ?_)
      obtain ⟨rfl, rfl⟩ := h44
      refine r_ifb_ne 57 C dX10_put_47 (by decide) (fun h47 => ?_) (fun h47 => ?_)
      · refine r_aload_n C dX10_put_57 rfl ?_
        refine r_get_r (c := 1) C dX10_put_58 fl_X10_23 rfl rfl rfl (by decide) rfl ?_
        refine r_iload_n C dX10_put_61 rfl ?_
        refine r_aald (c := 1) (N := 4) C dX10_put_62 rfl (by decide) rfl (by decide) (by omega) rfl ?_
        refine r_iload_n C dX10_put_63 rfl ?_
        refine r_iload_n C dX10_put_64 rfl ?_
        refine r_cvv (c := 4) C dX10_put_65 mv_X10_257 (c_X8_write e l _ _ _ _ (by omega) (by omega) (by omega)) (by decide) rfl rfl rfl rfl (by omega) rfl rfl (Nat.le_of_ble_eq_true rfl) (fun σ65 h65 => ?_)
        obtain ⟨xx, hxx, rfl⟩ := h65
        refine r_iconst C dX10_put_68 ?_
        refine r_iret C dX10_put_69 ?_
        have e1 : oPut s i v A = (0, shs A (biA A) (szA A) (fun t => if t = s then updF (nuA A t) i (v % 4) else nuA A t)) := by unfold oPut; rw [if_neg (by omega), if_neg (by omega), if_neg (by omega)]
        exact ⟨_, rfl, by rw [e1], by rw [e1]; exact rel_put hR hxx⟩
      · refine r_aload_n C dX10_put_50 rfl ?_
        refine r_ldc C dX10_put_51 kc_X10_90 ?_
        refine r_cvi (c := 1) C dX10_put_53 mv_X10_91 (c_X10_finding e l _ _) (by decide) rfl rfl rfl rfl (by decide) rfl rfl (Nat.le_of_ble_eq_true rfl) (fun z53 σ53 h53 => ?_)
        obtain ⟨rfl, rfl⟩ := h53
        refine r_iret C dX10_put_56 ?_
        have e1 : oPut s i v A = fnd A (-100001) := by unfold oPut; repeat (first | rw [if_pos (by omega)] | rw [if_neg (by omega)])
        exact ⟨_, rfl, by rw [e1]; rfl, by rw [e1]; exact rel_fnd hR _⟩
    · refine r_aload_n C dX10_put_27 rfl ?_
      refine r_ldc C dX10_put_28 kc_X10_235 ?_
      refine r_cvi (c := 1) C dX10_put_30 mv_X10_91 (c_X10_finding e l _ _) (by decide) rfl rfl rfl rfl (by decide) rfl rfl (Nat.le_of_ble_eq_true rfl) (fun z30 σ30 h30 => ?_)
      obtain ⟨rfl, rfl⟩ := h30
      refine r_iret C dX10_put_33 ?_
      have e1 : oPut s i v A = fnd A (-100002) := by unfold oPut; repeat (first | rw [if_pos (by omega)] | rw [if_neg (by omega)])
      exact ⟨_, rfl, by rw [e1]; rfl, by rw [e1]; exact rel_fnd hR _⟩
  · refine r_aload_n C dX10_put_8 rfl ?_
    refine r_ldc C dX10_put_9 kc_X10_90 ?_
    refine r_cvi (c := 1) C dX10_put_11 mv_X10_91 (c_X10_finding e l _ _) (by decide) rfl rfl rfl rfl (by decide) rfl rfl (Nat.le_of_ble_eq_true rfl) (fun z11 σ11 h11 => ?_)
    obtain ⟨rfl, rfl⟩ := h11
    refine r_iret C dX10_put_14 ?_
    have e1 : oPut s i v A = fnd A (-100001) := by unfold oPut; repeat (first | rw [if_pos (by omega)] | rw [if_neg (by omega)])
    exact ⟨_, rfl, by rw [e1]; rfl, by rw [e1]; exact rel_fnd hR _⟩
set_option maxRecDepth 20000 in
theorem o_copy (e : qR) (l : Launch) (σ : qSt) (s f t g n : Int) (A : aSt) (hR : RelD σ A) (hA : AOk A) (h_s : InI s) (h_f : InI f) (h_t : InI t) (h_g : InI g) (h_n : InI n)  : CM (ED e) l yX10_copy cX10_copy 8 (some .int) 20 [qr 0 0, qi s, qi f, qi t, qi g, qi n] σ (Ri fun z σ' => z = (oCopy s f t g n A).1 ∧ RelD σ' (oCopy s f t g n A).2) := by
  refine CM.mk tD_ok (by decide +kernel) (Nat.le_of_ble_eq_true rfl) (fun G C => ?_)
  show G σ 0 [some (qr 0 0), some (qi s), some (qi f), some (qi t), some (qi g), some (qi n), none, none] []
  obtain ⟨hb, e10, n10, m10, e11, n11, m11, e5, n5, m5, e4, n4, m4, h381, h382, h383, h384⟩ := dF hR hA
  refine r_iload_n C dX10_copy_0 rfl ?_
  refine r_iconst C dX10_copy_1 ?_
  refine r_csi C dX10_copy_2 ms_X10_86 (c_X10_within e l _ _ _ (by omega) (by omega)) (by decide) rfl rfl (Nat.le_of_ble_eq_true rfl) (fun z2 σ2 h2 => ?_)
  obtain ⟨rfl, rfl⟩ := h2
  refine r_ifb_eq 16 C dX10_copy_5 (by decide) (fun h5 => ?_) (fun h5 => ?_)
  · refine r_aload_n C dX10_copy_16 rfl ?_
    refine r_ldc C dX10_copy_17 kc_X10_90 ?_
    refine r_cvi (c := 1) C dX10_copy_19 mv_X10_91 (c_X10_finding e l _ _) (by decide) rfl rfl rfl rfl (by decide) rfl rfl (Nat.le_of_ble_eq_true rfl) (fun z19 σ19 h19 => ?_)
    obtain ⟨rfl, rfl⟩ := h19
    refine r_iret C dX10_copy_22 ?_
    have e1 : oCopy s f t g n A = fnd A (-100001) := by unfold oCopy; repeat (first | rw [if_pos (by omega)] | rw [if_neg (by omega)])
    exact ⟨_, rfl, by rw [e1]; rfl, by rw [e1]; exact rel_fnd hR _⟩
  · refine r_iload_n C dX10_copy_8 rfl ?_
    refine r_iconst C dX10_copy_9 ?_
    refine r_csi C dX10_copy_10 ms_X10_86 (c_X10_within e l _ _ _ (by omega) (by omega)) (by decide) rfl rfl (Nat.le_of_ble_eq_true rfl) (fun z10 σ10 h10 => ?_)
    obtain ⟨rfl, rfl⟩ := h10
    refine r_ifb_ne 23 C dX10_copy_13 (by decide) (fun h13 => ?_) (fun h13 => ?_)
    · have sf := sh_f hR hA (s := s) (by omega)
      have tf := sh_f hR hA (s := t) (by omega)
      refine r_aload_n C dX10_copy_23 rfl ?_
      refine r_get_r (c := 1) C dX10_copy_24 fl_X10_23 rfl rfl rfl (by decide) rfl ?_
      refine r_iload_n C dX10_copy_27 rfl ?_
      refine r_aald (c := 1) (N := 4) C dX10_copy_28 rfl (by decide) rfl (by decide) (by omega) rfl ?_
      refine r_astore C dX10_copy_29 rfl rfl (by decide) ?_
      refine r_aload_n C dX10_copy_31 rfl ?_
      refine r_get_r (c := 1) C dX10_copy_32 fl_X10_23 rfl rfl rfl (by decide) rfl ?_
      refine r_iload_n C dX10_copy_35 rfl ?_
      refine r_aald (c := 1) (N := 4) C dX10_copy_36 rfl (by decide) rfl (by decide) (by omega) rfl ?_
      refine r_astore C dX10_copy_37 rfl rfl (by decide) ?_
      refine r_aload C dX10_copy_39 rfl ?_
      refine r_cvi (c := 4) C dX10_copy_41 mv_X10_231 (c_X8_isMissing e l _ _ hb (by omega)) (by decide) rfl rfl rfl rfl (by omega) rfl rfl (Nat.le_of_ble_eq_true rfl) (fun z41 σ41 h41 => ?_)
      obtain ⟨rfl, rfl⟩ := h41
      refine r_ifb_ne 55 C dX10_copy_44 (by decide) (fun h44 => ?_) (fun h44 => ?_)
      · refine r_aload_n C dX10_copy_55 rfl ?_
        refine r_ldc C dX10_copy_56 kc_X10_235 ?_
        refine r_cvi (c := 1) C dX10_copy_58 mv_X10_91 (c_X10_finding e l _ _) (by decide) rfl rfl rfl rfl (by decide) rfl rfl (Nat.le_of_ble_eq_true rfl) (fun z58 σ58 h58 => ?_)
        obtain ⟨rfl, rfl⟩ := h58
        refine r_iret C dX10_copy_61 ?_
        have e1 : oCopy s f t g n A = fnd A (-100002) := by unfold oCopy; repeat (first | rw [if_pos (by omega)] | rw [if_neg (by omega)])
        exact ⟨_, rfl, by rw [e1]; rfl, by rw [e1]; exact rel_fnd hR _⟩
      · refine r_aload C dX10_copy_47 rfl ?_
        refine r_cvi (c := 4) C dX10_copy_49 mv_X10_231 (c_X8_isMissing e l _ _ hb (by omega)) (by decide) rfl rfl rfl rfl (by omega) rfl rfl (Nat.le_of_ble_eq_true rfl) (fun z49 σ49 h49 => ?_)
        obtain ⟨rfl, rfl⟩ := h49
        refine r_ifb_eq 62 C dX10_copy_52 (by decide) (fun h52 => ?_) (fun h52 => ?_)
        · refine r_aload C dX10_copy_62 rfl ?_
          refine r_get_i (c := 4) 1 C dX10_copy_64 fl_X10_260 rfl rfl rfl rfl (by omega) ?_
          have b64 := hb 205 s 1 (by omega) (by omega)
          refine r_aload C dX10_copy_67 rfl ?_
          refine r_get_i (c := 4) 1 C dX10_copy_69 fl_X10_260 rfl rfl rfl rfl (by omega) ?_
          have b69 := hb 205 t 1 (by omega) (by omega)
          refine r_ic_eq 82 C dX10_copy_72 (by decide) (by omega) (by omega) (fun h72 => ?_) (fun h72 => ?_)
          · refine r_aload C dX10_copy_82 rfl ?_
            refine r_iload_n C dX10_copy_84 rfl ?_
            refine r_iload C dX10_copy_85 rfl ?_
            refine r_cvi (c := 4) C dX10_copy_87 mv_X10_263 (c_X8_hasStretch e l _ _ _ _ hb (by omega) (by omega) (by omega)) (by decide) rfl rfl rfl rfl (by omega) rfl rfl (Nat.le_of_ble_eq_true rfl) (fun z87 σ87 h87 => ?_)
            obtain ⟨rfl, rfl⟩ := h87
            refine r_ifb_eq 105 C dX10_copy_90 (by decide) (fun h90 => ?_) (fun h90 => ?_)
            · refine r_aload_n C dX10_copy_105 rfl ?_
              refine r_ldc C dX10_copy_106 kc_X10_90 ?_
              refine r_cvi (c := 1) C dX10_copy_108 mv_X10_91 (c_X10_finding e l _ _) (by decide) rfl rfl rfl rfl (by decide) rfl rfl (Nat.le_of_ble_eq_true rfl) (fun z108 σ108 h108 => ?_)
              obtain ⟨rfl, rfl⟩ := h108
              refine r_iret C dX10_copy_111 ?_
              have e1 : oCopy s f t g n A = fnd A (-100001) := by unfold oCopy; repeat (first | rw [if_pos (by omega)] | rw [if_neg (by omega)])
              exact ⟨_, rfl, by rw [e1]; rfl, by rw [e1]; exact rel_fnd hR _⟩
            · refine r_aload C dX10_copy_93 rfl ?_
              refine r_iload C dX10_copy_95 rfl ?_
              refine r_iload C dX10_copy_97 rfl ?_
              refine r_cvi (c := 4) C dX10_copy_99 mv_X10_263 (c_X8_hasStretch e l _ _ _ _ hb (by omega) (by omega) (by omega)) (by decide) rfl rfl rfl rfl (by omega) rfl rfl (Nat.le_of_ble_eq_true rfl) (fun z99 σ99 h99 => ?_)
              obtain ⟨rfl, rfl⟩ := h99
              refine r_ifb_ne 112 C dX10_copy_102 (by decide) (fun h102 => ?_) (fun h102 => ?_)
              · refine r_aload C dX10_copy_112 rfl ?_
                refine r_get_r (c := 4) C dX10_copy_114 fl_X10_239 rfl rfl rfl (by omega) rfl ?_
                refine r_iload_n C dX10_copy_117 rfl ?_
                refine r_aload C dX10_copy_118 rfl ?_
                refine r_get_r (c := 4) C dX10_copy_120 fl_X10_239 rfl rfl rfl (by omega) rfl ?_
                refine r_iload C dX10_copy_123 rfl ?_
                refine r_iload C dX10_copy_125 rfl ?_
                refine r_acopy (c1 := 4) (N1 := 30) (c2 := 4) (N2 := 30) C dX10_copy_127 ac_X10_266 rfl rfl (by omega) rfl rfl (by omega) (by omega) (by omega) (by omega) (by omega) (by omega) (by decide) (Nat.le_of_ble_eq_true rfl) ?_ (hnat := ac_nat) (hst := ac_st) (hini := ac_ini)
                refine r_iload C dX10_copy_130 rfl ?_
                refine r_iret C dX10_copy_132 ?_
                have e1 : oCopy s f t g n A = (n, shs A (biA A) (szA A) (fun u => if u = t then fun j => if g ≤ j ∧ j < g + n then nuA A s (f + (j - g)) else nuA A t j else nuA A u)) := by unfold oCopy; rw [if_neg (by omega), if_neg (by omega), if_neg (by omega), if_neg (by omega)]
                exact ⟨_, rfl, by rw [e1], by rw [e1]; exact rel_copy hR (by omega) (by omega) (by omega)⟩
              · refine r_aload_n C dX10_copy_105 rfl ?_
                refine r_ldc C dX10_copy_106 kc_X10_90 ?_
                refine r_cvi (c := 1) C dX10_copy_108 mv_X10_91 (c_X10_finding e l _ _) (by decide) rfl rfl rfl rfl (by decide) rfl rfl (Nat.le_of_ble_eq_true rfl) (fun z108 σ108 h108 => ?_)
                obtain ⟨rfl, rfl⟩ := h108
                refine r_iret C dX10_copy_111 ?_
                have e1 : oCopy s f t g n A = fnd A (-100001) := by unfold oCopy; repeat (first | rw [if_pos (by omega)] | rw [if_neg (by omega)])
                exact ⟨_, rfl, by rw [e1]; rfl, by rw [e1]; exact rel_fnd hR _⟩
          · refine r_aload_n C dX10_copy_75 rfl ?_
            refine r_ldc C dX10_copy_76 kc_X10_123 ?_
            refine r_cvi (c := 1) C dX10_copy_78 mv_X10_91 (c_X10_finding e l _ _) (by decide) rfl rfl rfl rfl (by decide) rfl rfl (Nat.le_of_ble_eq_true rfl) (fun z78 σ78 h78 => ?_)
            obtain ⟨rfl, rfl⟩ := h78
            refine r_iret C dX10_copy_81 ?_
            have e1 : oCopy s f t g n A = fnd A (-100004) := by unfold oCopy; repeat (first | rw [if_pos (by omega)] | rw [if_neg (by omega)])
            exact ⟨_, rfl, by rw [e1]; rfl, by rw [e1]; exact rel_fnd hR _⟩
        · refine r_aload_n C dX10_copy_55 rfl ?_
          refine r_ldc C dX10_copy_56 kc_X10_235 ?_
          refine r_cvi (c := 1) C dX10_copy_58 mv_X10_91 (c_X10_finding e l _ _) (by decide) rfl rfl rfl rfl (by decide) rfl rfl (Nat.le_of_ble_eq_true rfl) (fun z58 σ58 h58 => ?_)
          obtain ⟨rfl, rfl⟩ := h58
          refine r_iret C dX10_copy_61 ?_
          have e1 : oCopy s f t g n A = fnd A (-100002) := by unfold oCopy; repeat (first | rw [if_pos (by omega)] | rw [if_neg (by omega)])
          exact ⟨_, rfl, by rw [e1]; rfl, by rw [e1]; exact rel_fnd hR _⟩
    · refine r_aload_n C dX10_copy_16 rfl ?_
      refine r_ldc C dX10_copy_17 kc_X10_90 ?_
      refine r_cvi (c := 1) C dX10_copy_19 mv_X10_91 (c_X10_finding e l _ _) (by decide) rfl rfl rfl rfl (by decide) rfl rfl (Nat.le_of_ble_eq_true rfl) (fun z19 σ19 h19 => ?_)
      obtain ⟨rfl, rfl⟩ := h19
      refine r_iret C dX10_copy_22 ?_
      have e1 : oCopy s f t g n A = fnd A (-100001) := by unfold oCopy; repeat (first | rw [if_pos (by omega)] | rw [if_neg (by omega)])
      exact ⟨_, rfl, by rw [e1]; rfl, by rw [e1]; exact rel_fnd hR _⟩
