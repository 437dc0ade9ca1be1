/-! the reference's table -/
theorem mnL_none {c : Nat → Int} {lo : Int} : ∀ k : Nat, (k : Int) < lo → mnL c lo k = 1000000
  | 0, _ => rfl
  | k + 1, h => by
    simp only [mnL]
    rw [if_neg (by omega)]
    exact mnL_none k (by omega)
theorem mn_step {c : Nat → Int} {lo nf x v v0 la : Int} (h : min v 1000000 = min v0 (mnL c lo (min (x - 1) nf).toNat)) (hl : lo ≤ x) (hx : 1 ≤ x) (hn : 0 ≤ nf) (hla : la = if nf < x then 1000000 else min (c x.toNat) 1000000) : min (min v la) 1000000 = min v0 (mnL c lo (min x nf).toNat) := by
  by_cases q : nf < x
  · rw [if_pos q] at hla
    rw [show min x nf = min (x - 1) nf by omega, ← h, hla]
    omega
  · rw [if_neg q] at hla
    rw [show (min x nf).toNat = (min (x - 1) nf).toNat + 1 by omega]
    simp only [mnL]
    rw [if_pos (by omega), show (min (x - 1) nf).toNat + 1 = x.toNat by omega]
    have hle := mnL_le c lo (min (x - 1) nf).toNat
    rw [show (min (x - 1) nf).toNat = x.toNat - 1 by omega] at h hle ⊢
    generalize mnL c lo (x.toNat - 1) = u at *
    omega
def cst (A : aSt) (w : Int) (T : Int → Int → Int) (s p : Int) : Nat → Int := fun q => sOc (ocA A w s) p q + T (s + 1) (p + q)
theorem la_of {A : aSt} {w : Int} {T : Int → Int → Int} {i f x : Int} (hx : 0 ≤ x) : laA A w T i f x = if nA A w - f < x then 1000000 else min (cst A w T i f x.toNat) 1000000 := by
  unfold laA cst
  by_cases q : nA A w < f + x
  · rw [if_pos q, if_pos (by omega)]
  · rw [if_neg q, if_neg (by omega), Int.toNat_of_nonneg hx]
def dpv (A : aSt) (w : Int) (T : Int → Int → Int) (s p : Int) : Int := if s = mA A w then (if p = nA A w then 0 else T s (p + 1) + pfA A w p) else if p = nA A w then 1000000 else min (T s (p + 1) + pfA A w p) (mnL (cst A w T s p) (loA A w s) (min (hiA A w s) (nA A w - p)).toNat)
theorem dpv_cg {A : aSt} {w s p : Int} {T T' : Int → Int → Int} (hp : 0 ≤ p ∧ p ≤ nA A w) (h1 : p < nA A w → T' s (p + 1) = T s (p + 1)) (h2 : s ≠ mA A w → ∀ q, p < q → q ≤ nA A w → T' (s + 1) q = T (s + 1) q) : dpv A w T' s p = dpv A w T s p := by
  unfold dpv
  by_cases e : p = nA A w
  · rw [if_pos e, if_pos e, if_pos e, if_pos e]
  · rw [if_neg e, if_neg e, if_neg e, if_neg e, h1 (by omega)]
    by_cases e2 : s = mA A w
    · rw [if_pos e2, if_pos e2]
    · rw [if_neg e2, if_neg e2]
      congr 1
      refine mnL_cg _ (fun j j1 j2 => ?_)
      unfold cst
      rw [h2 e2 (p + j) (by omega) (by omega)]
def rwI (A : aSt) (w : Int) (T : Int → Int → Int) (s p : Int) : Prop := T s p = dpv A w T s p ∧ 0 ≤ T s p ∧ T s p ≤ 1000000 ∧ (s = mA A w → T s p ≤ 2 * (nA A w - p))
def fI (σ : qSt) (A : aSt) (w i f : Int) (σ1 : qSt) : Prop := (∀ (a : Nat) (b c : Int), a ≠ 8 → σ1 a b c = σ a b c) ∧ Bm σ1 ∧ ∀ s p, 0 ≤ p → p ≤ nA A w → (i < s ∧ s ≤ mA A w) ∨ (s = i ∧ f < p) → rwI A w (tM8 σ1) s p
theorem fI_step {σ σ1 : qSt} {A : aSt} {w i f z : Int} (hi : 0 ≤ i ∧ i ≤ mA A w) (hf : 0 ≤ f ∧ f ≤ nA A w) (hm : mA A w ≤ 8) (hn : nA A w ≤ 24) (h : fI σ A w i f σ1) (hz : z = dpv A w (tM8 σ1) i f) : fI σ A w i (f - 1) (qUp σ1 8 0 (25 * i + f) z) := by
  obtain ⟨h1, h2, h3⟩ := h
  have ne : ∀ s p, 0 ≤ p → p ≤ nA A w → ¬ (s = i ∧ p = f) → tM8 (qUp σ1 8 0 (25 * i + f) z) s p = tM8 σ1 s p := fun s p p1 p2 q => by
    show qUp σ1 8 0 (25 * i + f) z 8 0 (25 * s + p) = σ1 8 0 (25 * s + p)
    rw [qUp_ne (by omega)]
  have hzr : 0 ≤ z ∧ z ≤ 1000000 ∧ (i = mA A w → z ≤ 2 * (nA A w - f)) := by
    rw [hz]
    unfold dpv
    have pr := pz_rng (frAt (wLn A w) f)
    have pe : pfA A w f = pz (frAt (wLn A w) f) := rfl
    by_cases e2 : f = nA A w
    · rw [if_pos e2, if_pos e2]
      split <;> omega
    · have r := h3 i (f + 1) (by omega) (by omega) (by omega)
      have r1 := r.2.1
      have r2 := r.2.2.2
      rw [if_neg e2, if_neg e2]
      by_cases e : i = mA A w
      · rw [if_pos e]
        have := r2 e
        omega
      · rw [if_neg e]
        have l1 := mnL_le (cst A w (tM8 σ1) i f) (loA A w i) (min (hiA A w i) (nA A w - f)).toNat
        have l2 := mnL_ge (c := cst A w (tM8 σ1) i f) (lo := loA A w i) (min (hiA A w i) (nA A w - f)).toNat (fun j j1 j2 => by
          have a1 := sOc_rng (oc := ocA A w i) (fun q => ocA_rng A w i q) f j
          have a2 := (h3 (i + 1) (f + j) (by omega) (by omega) (by omega)).2.1
          show 0 ≤ sOc (ocA A w i) f j + tM8 σ1 (i + 1) (f + j)
          omega)
        refine ⟨by omega, by omega, fun q => absurd q e⟩
  refine ⟨fun a b c q => by rw [qUp_ne (by omega)]; exact h1 a b c q, h2.up (by omega), fun s p p1 p2 q => ?_⟩
  by_cases e : s = i ∧ p = f
  · obtain ⟨rfl, rfl⟩ := e
    have et : tM8 (qUp σ1 8 0 (25 * s + p) z) s p = z := qUp_eq _ _ _ _ _
    refine ⟨?_, by rw [et]; exact hzr.1, by rw [et]; exact hzr.2.1, fun u => by rw [et]; exact hzr.2.2 u⟩
    rw [et]
    exact hz.trans (dpv_cg ⟨p1, p2⟩ (fun u => ne s (p + 1) (by omega) (by omega) (by omega)) (fun u v v1 v2 => ne (s + 1) v (by omega) v2 (by omega))).symm
  · have r := h3 s p p1 p2 (by omega)
    have et := ne s p p1 p2 e
    refine ⟨?_, by rw [et]; exact r.2.1, by rw [et]; exact r.2.2.1, fun u => by rw [et]; exact r.2.2.2 u⟩
    rw [et, r.1]
    exact (dpv_cg ⟨p1, p2⟩ (fun u => ne s (p + 1) (by omega) (by omega) (by omega)) (fun u v v1 v2 => ne (s + 1) v (by omega) v2 (by omega))).symm
theorem fI_row {σ σ1 : qSt} {A : aSt} {w i : Int} (h : fI σ A w i (-1) σ1) : fI σ A w (i - 1) (nA A w) σ1 := ⟨h.1, h.2.1, fun s p p1 p2 q => h.2.2 s p p1 p2 (by omega)⟩
theorem fI_dp {σ σ1 : qSt} {A : aSt} {w : Int} (h : fI σ A w (-1) (nA A w) σ1) : DPA A w (tM8 σ1) := by
  have hm0 : 0 ≤ mA A w := Int.natCast_nonneg _
  have hn0 : 0 ≤ nA A w := Int.natCast_nonneg _
  have r : ∀ s p, 0 ≤ s → s ≤ mA A w → 0 ≤ p → p ≤ nA A w → rwI A w (tM8 σ1) s p := fun s p s1 s2 p1 p2 => h.2.2 s p p1 p2 (by omega)
  refine ⟨?_, fun p p1 p2 => ?_, fun p p1 p2 => ?_, fun s s1 s2 => ⟨?_, fun p p1 p2 => ?_, fun p p1 p2 => ?_⟩⟩
  · rw [(r (mA A w) (nA A w) hm0 (Int.le_refl _) hn0 (Int.le_refl _)).1]; unfold dpv; rw [if_pos rfl, if_pos rfl]
  · rw [(r (mA A w) p hm0 (Int.le_refl _) p1 (by omega)).1]; unfold dpv; rw [if_pos rfl, if_neg (by omega)]
  · have q := r (mA A w) p hm0 (Int.le_refl _) p1 p2
    exact ⟨q.2.1, q.2.2.2 rfl⟩
  · rw [(r s (nA A w) s1 (by omega) hn0 (Int.le_refl _)).1]; unfold dpv; rw [if_neg (by omega), if_pos rfl]
  · rw [(r s p s1 (by omega) p1 (by omega)).1]; unfold dpv cst; rw [if_neg (by omega), if_neg (by omega)]
  · have q := r s p s1 (by omega) p1 p2
    exact ⟨q.2.1, q.2.2.1⟩
theorem hi_r {σ : qSt} {A : aSt} (hR : RelM σ A) (hA : AOk A) {w i : Int} (hw : 0 ≤ w ∧ w < nWd A) (hi : 0 ≤ i ∧ i < mA A w) : 1 ≤ loA A w i ∧ loA A w i ≤ hiA A w i ∧ hiA A w i ≤ 6 := by
  have sy := sy_m hR hA hw hi
  have e : loA A w i = (syAt (wdAt A w) i).2.1 := rfl
  unfold hiA
  split <;> omega
set_option maxRecDepth 20000 in
theorem lp_X11_fitL {G : qSt → Nat → List (Option qV) → List qV → Prop} {Ret : Option qV → qSt → Prop} (e : qR) (l : Launch) (σ : qSt) (w i f v0 : Int) (A : aSt) (hR : RelM σ A) (hA : AOk A) (hw : 0 ≤ w ∧ w < nWd A) (hi : 0 ≤ i ∧ i < mA A w) (hf : 0 ≤ f ∧ f ≤ nA A w) (hT : ∀ p, 0 ≤ p → p ≤ nA A w → 0 ≤ σ 8 0 (25 * (i + 1) + p)) (C : Cx (EM e) l RX11 cX11_fit 8 (some .int) 8 Ret G) (hN : ∀ v x, min v 1000000 = min v0 (mnL (cst A w (tM8 σ) i f) (loA A w i) (min (hiA A w i) (nA A w - f)).toNat) → 0 ≤ v ∧ v ≤ 1000002 → G σ 146 [some (qr 0 0), some (qi w), some (qi (nA A w)), some (qi (mA A w)), some (qi i), some (qi f), some (qi v), some (qi x)] []) : ∀ (k : Nat) (x v : Int), x + (k : Int) = hiA A w i + 1 → loA A w i ≤ x → min v 1000000 = min v0 (mnL (cst A w (tM8 σ) i f) (loA A w i) (min (x - 1) (nA A w - f)).toNat) → 0 ≤ v ∧ v ≤ 1000002 → G σ 104 [some (qr 0 0), some (qi w), some (qi (nA A w)), some (qi (mA A w)), some (qi i), some (qi f), some (qi v), some (qi x)] [] := by
  intro k
  induction k with
  | zero =>
    intro x v hm hx hv hvr
    have hr := hi_r hR hA hw hi
    have wl := wl_m hR hA hw
    refine r_iload C dX11_fit_104 rfl ?_
    refine r_iload_n C dX11_fit_106 rfl ?_
    refine r_ic_ge 146 C dX11_fit_107 (by decide) (by omega) (by omega) (fun h107 => ?_) (fun h107 => ?_)
    · exfalso; omega
    · refine r_iload C dX11_fit_110 rfl ?_
      refine r_aload_n C dX11_fit_112 rfl ?_
      refine r_iload_n C dX11_fit_113 rfl ?_
      refine r_iload C dX11_fit_114 rfl ?_
      refine r_cvi (c := 1) C dX11_fit_116 mv_X11_119 (c_X11_mostOf e l _ _ _ A hR hA hw hi) (by decide) rfl rfl rfl rfl (by decide) rfl rfl (Nat.le_of_ble_eq_true rfl) (fun z116 σ116 h116 => ?_)
      obtain ⟨rfl, rfl⟩ := h116
      refine r_ic_gt 146 C dX11_fit_119 (by decide) (by omega) (by omega) (fun h119 => ?_) (fun h119 => ?_)
      · exact hN _ _ (by rw [hv, show x - 1 = hiA A w i by omega]) hvr
      · exfalso; omega
  | succ k ih =>
    intro x v hm hx hv hvr
    have hr := hi_r hR hA hw hi
    have wl := wl_m hR hA hw
    refine r_iload C dX11_fit_104 rfl ?_
    refine r_iload_n C dX11_fit_106 rfl ?_
    refine r_ic_ge 146 C dX11_fit_107 (by decide) (by omega) (by omega) (fun h107 => ?_) (fun h107 => ?_)
    · exfalso; omega
    · refine r_iload C dX11_fit_110 rfl ?_
      refine r_aload_n C dX11_fit_112 rfl ?_
      refine r_iload_n C dX11_fit_113 rfl ?_
      refine r_iload C dX11_fit_114 rfl ?_
      refine r_cvi (c := 1) C dX11_fit_116 mv_X11_119 (c_X11_mostOf e l _ _ _ A hR hA hw hi) (by decide) rfl rfl rfl rfl (by decide) rfl rfl (Nat.le_of_ble_eq_true rfl) (fun z116 σ116 h116 => ?_)
      obtain ⟨rfl, rfl⟩ := h116
      refine r_ic_gt 146 C dX11_fit_119 (by decide) (by omega) (by omega) (fun h119 => ?_) (fun h119 => ?_)
      · exfalso; omega
      · refine r_iload C dX11_fit_122 rfl ?_
        refine r_aload_n C dX11_fit_124 rfl ?_
        refine r_iload_n C dX11_fit_125 rfl ?_
        refine r_iload C dX11_fit_126 rfl ?_
        refine r_iload C dX11_fit_128 rfl ?_
        refine r_iload C dX11_fit_130 rfl ?_
        refine r_cvi (c := 1) C dX11_fit_132 mv_X11_122 (c_X11_laid e l _ _ _ _ _ A hR hA hw hi (by omega) (by omega)) (by decide) rfl rfl rfl rfl (by decide) rfl rfl (Nat.le_of_ble_eq_true rfl) (fun z132 σ132 h132 => ?_)
        obtain ⟨hz132, rfl⟩ := h132
        have lr : 0 ≤ z132 ∧ z132 ≤ 1000000 := by
          rw [hz132]
          unfold laA
          split
          · omega
          · have a1 := sOc_rng (oc := ocA A w i) (fun q => ocA_rng A w i q) f x.toNat
            have a2 := hT (f + x) (by omega) (by omega)
            have a3 : tM8 σ (i + 1) (f + x) = σ 8 0 (25 * (i + 1) + (f + x)) := rfl
            omega
        refine r_csi C dX11_fit_135 ms_X11_111 (c_min (EM e) tM_ok l _ _ _ (by omega) (by omega)) (by decide) rfl rfl (Nat.le_of_ble_eq_true rfl) (fun z135 σ135 h135 => ?_)
        obtain ⟨rfl, rfl⟩ := h135
        refine r_istore C dX11_fit_138 rfl rfl (by decide) ?_
        refine r_iinc C dX11_fit_140 rfl rfl rfl (by decide) ?_
        refine r_goto 104 C dX11_fit_143 (by decide) ?_
        exact ih _ _ (by omega) (by omega) (by rw [show x + 1 - 1 = x by omega]; exact mn_step hv (by omega) (by omega) (by omega) (by rw [hz132]; exact la_of (by omega))) (by omega)
