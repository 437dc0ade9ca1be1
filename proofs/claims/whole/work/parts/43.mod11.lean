/-! the reference's fit: where each syllable lies -/
abbrev shA (A : aSt) (w : Int) (T : Int → Int → Int) : Int → Int → Int := shX (ocA A w) (loA A w) (hiA A w) (nA A w) T
theorem shF_eq {c : Nat → Bool} {j k : Nat} (h1 : 1 ≤ j) (h2 : j ≤ k) (h3 : c j = true) (h4 : ∀ i, 1 ≤ i → i < j → c i = false) : shF c k = j := by
  by_cases q : shF c k = 0
  · have := shF_no k q j h1 h2
    rw [h3] at this
    simp at this
  · obtain ⟨i, i1, i2, i3, i4, i5⟩ := shF_yes k q
    rcases Nat.lt_trichotomy i j with u | u | u
    · have := h4 i i1 u
      rw [i4] at this
      simp at this
    · rw [i3, u]
    · have := i5 j h1 u
      rw [h3] at this
      simp at this
theorem shF_zero {c : Nat → Bool} : ∀ k : Nat, (∀ j, 1 ≤ j → j ≤ k → c j = false) → shF c k = 0
  | 0, _ => rfl
  | k + 1, h => by
    simp only [shF]
    rw [shF_zero k (fun j a b => h j a (by omega)), h (k + 1) (by omega) (by omega)]
    simp
theorem la_eq {A : aSt} {w i f x : Int} {T : Int → Int → Int} (hx : 0 ≤ x) (hT : T i f < 1000000) : laA A w T i f x = T i f ↔ (f + x ≤ nA A w ∧ cst A w T i f x.toNat = T i f) := by
  rw [la_of hx]
  split
  · omega
  · generalize cst A w T i f x.toNat = c
    omega
def nos (A : aSt) (w i f : Int) (T : Int → Int → Int) (x : Int) : Prop := ∀ j : Nat, (j : Int) < x → (j : Int) ≤ nA A w - f → loA A w i ≤ (j : Int) → cst A w T i f j ≠ T i f
theorem sh_found {A : aSt} {w i f x : Int} {T : Int → Int → Int} (h : nos A w i f T x) (hl : loA A w i ≤ x) (h1 : 1 ≤ x) (hh : x ≤ hiA A w i) (hf : f + x ≤ nA A w) (hc : cst A w T i f x.toNat = T i f) : shA A w T i f = x := by
  have := shF_eq (c := fun j => decide (loA A w i ≤ (j : Int) ∧ sOc (ocA A w i) f j + T (i + 1) (f + j) = T i f)) (j := x.toNat) (k := (min (hiA A w i) (nA A w - f)).toNat) (by omega) (by omega) (decide_eq_true ⟨by omega, hc⟩) (fun j j1 j2 => decide_eq_false (fun q => h j (by omega) (by omega) q.1 q.2))
  show shF _ _ = x
  rw [this]
  omega
theorem sh_none {A : aSt} {w i f x : Int} {T : Int → Int → Int} (h : nos A w i f T x) (hx : hiA A w i < x) : shA A w T i f = 0 := shF_zero _ (fun j j1 j2 => decide_eq_false (fun q => h j (by omega) (by omega) q.1 q.2))
theorem nos_s {A : aSt} {w i f x : Int} {T : Int → Int → Int} (h : nos A w i f T x) (hx : 0 ≤ x) (hT : T i f < 1000000) (hn : laA A w T i f x ≠ T i f) : nos A w i f T (x + 1) := fun j j1 j2 j3 q => by
  by_cases e : (j : Int) = x
  · apply hn
    rw [la_eq hx hT]
    refine ⟨by omega, ?_⟩
    rw [← e, Int.toNat_natCast]
    exact q
  · exact h j (by omega) j2 j3 q
theorem nos_0 {A : aSt} {w i f : Int} {T : Int → Int → Int} : nos A w i f T (loA A w i) := fun j j1 j2 j3 => by omega
set_option maxRecDepth 20000 in
theorem lp_X11_lengthAt {G : qSt → Nat → List (Option qV) → List qV → Prop} {Ret : Option qV → qSt → Prop} (e : qR) (l : Launch) (σ : qSt) (w i f : Int) (A : aSt) (hR : RelM σ A) (hA : AOk A) (hw : 0 ≤ w ∧ w < nWd A) (hi : 0 ≤ i ∧ i < mA A w) (hf : 0 ≤ f ∧ f ≤ nA A w) (hT : tM8 σ i f < 1000000) (hB : ∀ p, 0 ≤ p → p ≤ nA A w → 0 ≤ σ 8 0 (25 * (i + 1) + p)) (hB2 : 0 ≤ σ 8 0 (25 * i + f)) (C : Cx (EM e) l RX11 cX11_lengthAt 5 (some .int) 7 Ret G) (hN : Ret (some (qi (if shA A w (tM8 σ) i f = 0 then -1 else shA A w (tM8 σ) i f))) σ) : ∀ (k : Nat) (x : Int), x + (k : Int) = hiA A w i + 2 → loA A w i ≤ x → x ≤ hiA A w i + 1 → nos A w i f (tM8 σ) x → G σ 8 [some (qr 0 0), some (qi w), some (qi i), some (qi f), some (qi x)] [] := by
  intro k
  induction k with
  | zero =>
    intro x hm hx hx2 hns
    exfalso
    omega
  | succ k ih =>
    intro x hm hx hx2 hns
    have hr := hi_r hR hA hw hi
    have wl := wl_m hR hA hw
    have eT : tM8 σ i f = σ 8 0 (25 * i + f) := rfl
    refine r_iload C dX11_lengthAt_8 rfl ?_
    refine r_aload_n C dX11_lengthAt_10 rfl ?_
    refine r_iload_n C dX11_lengthAt_11 rfl ?_
    refine r_iload_n C dX11_lengthAt_12 rfl ?_
    refine r_cvi (c := 1) C dX11_lengthAt_13 mv_X11_119 (c_X11_mostOf e l _ _ _ A hR hA hw hi) (by decide) rfl rfl rfl rfl (by decide) rfl rfl (Nat.le_of_ble_eq_true rfl) (fun z13 σ13 h13 => ?_)
    obtain ⟨rfl, rfl⟩ := h13
    refine r_ic_gt 46 C dX11_lengthAt_16 (by decide) (by omega) (by omega) (fun h16 => ?_) (fun h16 => ?_)
    · refine r_iconst C dX11_lengthAt_46 ?_
      refine r_iret C dX11_lengthAt_47 ?_
      rw [sh_none hns (by omega), if_pos rfl] at hN
      exact hN
    · refine r_aload_n C dX11_lengthAt_19 rfl ?_
      refine r_iload_n C dX11_lengthAt_20 rfl ?_
      refine r_iload_n C dX11_lengthAt_21 rfl ?_
      refine r_iload_n C dX11_lengthAt_22 rfl ?_
      refine r_iload C dX11_lengthAt_23 rfl ?_
      refine r_cvi (c := 1) C dX11_lengthAt_25 mv_X11_122 (c_X11_laid e l _ _ _ _ _ A hR hA hw hi (by omega) (by omega)) (by decide) rfl rfl rfl rfl (by decide) rfl rfl (Nat.le_of_ble_eq_true rfl) (fun z25 σ25 h25 => ?_)
      obtain ⟨hz25, rfl⟩ := h25
      have lr : 0 ≤ z25 ∧ z25 ≤ 1000000 := by
        rw [hz25]
        unfold laA
        split
        · omega
        · have a1 := sOc_rng (oc := ocA A w i) (fun q => ocA_rng A w i q) f x.toNat
          have a2 := hB (f + x) (by omega) (by omega)
          have a3 : tM8 σ (i + 1) (f + x) = σ 8 0 (25 * (i + 1) + (f + x)) := rfl
          omega
      refine r_aload_n C dX11_lengthAt_28 rfl ?_
      refine r_iload_n C dX11_lengthAt_29 rfl ?_
      refine r_iload_n C dX11_lengthAt_30 rfl ?_
      refine r_cvi (c := 1) C dX11_lengthAt_31 mv_X11_104 (c_X11_leastAt e l _ _ _ (by omega) (by omega)) (by decide) rfl rfl rfl rfl (by decide) rfl rfl (Nat.le_of_ble_eq_true rfl) (fun z31 σ31 h31 => ?_)
      obtain ⟨rfl, rfl⟩ := h31
      refine r_ic_ne 40 C dX11_lengthAt_34 (by decide) (by omega) (by omega) (fun h34 => ?_) (fun h34 => ?_)
      · refine r_iinc C dX11_lengthAt_40 rfl rfl rfl (by decide) ?_
        refine r_goto 8 C dX11_lengthAt_43 (by decide) ?_
        exact ih _ (by omega) (by omega) (by omega) (nos_s hns (by omega) hT (fun q => h34 (by rw [hz25, q])))
      · refine r_iload C dX11_lengthAt_37 rfl ?_
        refine r_iret C dX11_lengthAt_39 ?_
        have hq := (la_eq (by omega) hT).mp (hz25.symm.trans h34)
        have hs := sh_found hns (by omega) (by omega) (by omega) hq.1 hq.2
        rw [hs, if_neg (by omega)] at hN
        exact hN
set_option maxRecDepth 20000 in
theorem c_X11_lengthAt (e : qR) (l : Launch) (σ : qSt) (w i f : Int) (A : aSt) (hR : RelM σ A) (hA : AOk A) (hw : 0 ≤ w ∧ w < nWd A) (hi : 0 ≤ i ∧ i < mA A w) (hf : 0 ≤ f ∧ f ≤ nA A w) (hT : tM8 σ i f < 1000000) (hB : ∀ p, 0 ≤ p → p ≤ nA A w → 0 ≤ σ 8 0 (25 * (i + 1) + p)) (hB2 : 0 ≤ σ 8 0 (25 * i + f)) : CM (EM e) l yX11_lengthAt cX11_lengthAt 5 (some .int) 7 [qr 0 0, qi w, qi i, qi f] σ (Ri fun z σ' => z = (if shA A w (tM8 σ) i f = 0 then -1 else shA A w (tM8 σ) i f) ∧ σ = σ') := by
  refine CM.mk tM_ok (by decide +kernel) (Nat.le_of_ble_eq_true rfl) (fun G C => ?_)
  show G σ 0 [some (qr 0 0), some (qi w), some (qi i), some (qi f), none] []
  have hr := hi_r hR hA hw hi
  have wl := wl_m hR hA hw
  refine r_aload_n C dX11_lengthAt_0 rfl ?_
  refine r_iload_n C dX11_lengthAt_1 rfl ?_
  refine r_iload_n C dX11_lengthAt_2 rfl ?_
  refine r_cvi (c := 1) C dX11_lengthAt_3 mv_X11_100 (c_X11_leastOf e l _ _ _ A hR hA hw hi) (by decide) rfl rfl rfl rfl (by decide) rfl rfl (Nat.le_of_ble_eq_true rfl) (fun z3 σ3 h3 => ?_)
  obtain ⟨rfl, rfl⟩ := h3
  refine r_istore C dX11_lengthAt_6 rfl rfl (by decide) ?_
  exact lp_X11_lengthAt e l σ w i f A hR hA hw hi hf hT hB hB2 C ⟨_, rfl, rfl, rfl⟩ (hiA A w i + 2 - loA A w i).toNat _ (by omega) (by omega) (by omega) nos_0
