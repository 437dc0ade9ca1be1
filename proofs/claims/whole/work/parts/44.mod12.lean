/-! the reference's fit, whole -/
theorem TrP.ext {sh : Int → Int → Int} {n i F L u : Int} {b l b' l' : Int → Int} (h : TrP sh n b l i) (hi : 0 ≤ i) (hb : ∀ j, j ≠ i → b' j = b j) (hl : ∀ j, j ≠ i → l' j = l j) (hbi : b' i = F) (hli : l' i = L) (hu : u = stB b l i) (hF : u ≤ F ∧ F < n) (hs : sh i F = L) (hL : 0 < L) (hz : ∀ f, u ≤ f → f < F → sh i f = 0) : TrP sh n b' l' (i + 1) ∧ stB b' l' (i + 1) = F + L := by
  have es : ∀ j, j ≤ i → stB b' l' j = stB b l j := fun j q => by
    unfold stB
    split
    · rfl
    · rw [hb _ (by omega), hl _ (by omega)]
  refine ⟨fun j j1 j2 => ?_, ?_⟩
  · by_cases e : j = i
    · subst e
      rw [es j (Int.le_refl _), hbi, hli, ← hu]
      exact ⟨hF.1, hF.2, hs.symm, hL, hz⟩
    · rw [es j (by omega), hb j e, hl j e]
      exact h j j1 (by omega)
  · unfold stB
    rw [if_neg (by omega), show i + 1 - 1 = i by omega, hbi, hli]
def tqI (σ : qSt) (A : aSt) (w i u : Int) (σ1 : qSt) : Prop := (∀ (a : Nat) (b c : Int), a ≠ 9 → a ≠ 10 → σ1 a b c = σ a b c) ∧ Bm σ1 ∧ TrP (shA A w (tM8 σ)) (nA A w) (σ1 9 0) (σ1 10 0) i ∧ u = stB (σ1 9 0) (σ1 10 0) i ∧ 0 ≤ u ∧ u ≤ nA A w ∧ tM8 σ i u < 1000000
theorem tq_step {σ σ1 : qSt} {A : aSt} {w i u F L : Int} (hD : DPA A w (tM8 σ)) (h : tqI σ A w i u σ1) (hi : 0 ≤ i ∧ i < mA A w) (hb : mA A w ≤ 8 ∧ nA A w ≤ 24) (hF : u ≤ F ∧ F < nA A w) (hs : shA A w (tM8 σ) i F = L) (hL : 0 < L) (hT : tM8 σ i F < 1000000) (hz : ∀ f, u ≤ f → f < F → shA A w (tM8 σ) i f = 0) : tqI σ A w (i + 1) (F + L) (qUp (qUp σ1 9 0 i F) 10 0 i L) := by
  obtain ⟨h1, h2, h3, h4, h5, h6, h7⟩ := h
  obtain ⟨j, d1, d2, d3, d4, d5, d6⟩ := dp_lay (oc := ocA A w) (lo := loA A w) (hi := hiA A w) (n := nA A w) (T := tM8 σ) (s := i) (p := F) (by show shA A w (tM8 σ) i F ≠ 0; omega)
  have d1' : shA A w (tM8 σ) i F = j := d1
  have sr := sOc_rng (oc := ocA A w i) (fun q => ocA_rng A w i q) F j
  obtain ⟨t1, t2⟩ := h3.ext (b' := (qUp (qUp σ1 9 0 i F) 10 0 i L) 9 0) (l' := (qUp (qUp σ1 9 0 i F) 10 0 i L) 10 0) hi.1 (fun j q => by rw [qUp_ne (by omega), qUp_ne (by omega)]) (fun j q => by rw [qUp_ne (by omega), qUp_ne (by omega)]) (by rw [qUp_ne (by omega), qUp_eq]) (by rw [qUp_eq]) h4 hF hs hL hz
  refine ⟨fun a b c q1 q2 => by rw [qUp_ne (by omega), qUp_ne (by omega)]; exact h1 a b c q1 q2, (h2.up (by omega)).up (by omega), t1, t2.symm, by omega, by omega, ?_⟩
  rw [show F + L = F + j by omega]
  omega
theorem dp_b {A : aSt} {w : Int} {T : Int → Int → Int} (hD : DPA A w T) (hn : nA A w ≤ 24) : ∀ s p, 0 ≤ s → s ≤ mA A w → 0 ≤ p → p ≤ nA A w → 0 ≤ T s p ∧ T s p ≤ 1000000 := fun s p s1 s2 p1 p2 => by
  rcases Int.lt_or_eq_of_le s2 with q | q
  · exact (hD.2.2.2 s s1 q).2.2 p p1 p2
  · rw [q]
    have := hD.2.2.1 p p1 p2
    omega
theorem fitBL_tr {A : aSt} {w : Int} {T : Int → Int → Int} {b l : Int → Int} (h : DPA A w T) (hP : TrA A w T b l) : TrA A w (fitT A w) b l := by
  have e : ∀ j f, 0 ≤ j → j < mA A w → 0 ≤ f → f < nA A w → shX (ocA A w) (loA A w) (hiA A w) (nA A w) T j f = shX (ocA A w) (loA A w) (hiA A w) (nA A w) (fitT A w) j f := fun j f a1 a2 a3 a4 => shX.cg ⟨a1, a2⟩ ⟨a3, a4⟩ (fun _ _ _ _ _ _ => rfl) (fun _ _ _ => ⟨rfl, rfl⟩) (fitT_one h)
  exact (TrP.cg (Int.le_refl _) e hP).2
theorem fitBL_ok {A : aSt} {w : Int} {T : Int → Int → Int} {b l : Int → Int} (h : DPA A w T) (hP : TrA A w T b l) : TrA A w (fitT A w) (fitBL A w).1 (fitBL A w).2 := Classical.epsilon_spec (p := fun x : (Int → Int) × (Int → Int) => TrA A w (fitT A w) x.1 x.2) ⟨(b, l), fitBL_tr h hP⟩
def ftM (A : aSt) (w z : Int) (σ1 : qSt) : Prop := RelM σ1 A ∧ z = fitT A w 0 0 ∧ 0 ≤ fitT A w 0 0 ∧ fitT A w 0 0 ≤ 1000000 ∧ (z < 1000000 → TrA A w (fitT A w) (fitBL A w).1 (fitBL A w).2 ∧ ∀ j, 0 ≤ j → j < mA A w → σ1 9 0 j = (fitBL A w).1 j ∧ σ1 10 0 j = (fitBL A w).2 j)
set_option maxRecDepth 20000 in
theorem lp_X11_fitW {G : qSt → Nat → List (Option qV) → List qV → Prop} {Ret : Option qV → qSt → Prop} (e : qR) (l : Launch) (σ : qSt) (w i : Int) (A : aSt) (hR : RelM σ A) (hA : AOk A) (hw : 0 ≤ w ∧ w < nWd A) (hi : 0 ≤ i ∧ i < mA A w) (hD : DPA A w (tM8 σ)) (u : Int) (hu : 0 ≤ u) (o7 : Option qV) (C : Cx (EM e) l RX11 cX11_fit 8 (some .int) 8 Ret G) (hN : ∀ F L, u ≤ F → F < nA A w → shA A w (tM8 σ) i F = L → 0 < L → tM8 σ i F < 1000000 → (∀ f, u ≤ f → f < F → shA A w (tM8 σ) i f = 0) → G σ 237 [some (qr 0 0), some (qi w), some (qi (nA A w)), some (qi (mA A w)), some (qi F), some (qi i), some (qi L), o7] []) : ∀ (k : Nat) (F L : Int), F + (k : Int) = nA A w + 1 → F ≤ nA A w → u ≤ F → tM8 σ i F < 1000000 → (∀ f, u ≤ f → f < F → shA A w (tM8 σ) i f = 0) → L = (if shA A w (tM8 σ) i F = 0 then -1 else shA A w (tM8 σ) i F) → G σ 215 [some (qr 0 0), some (qi w), some (qi (nA A w)), some (qi (mA A w)), some (qi F), some (qi i), some (qi L), o7] [] := by
  intro k
  induction k with
  | zero =>
    intro F L hm hF huF hT hz hL
    exfalso
    omega
  | succ k ih =>
    intro F L hm hF huF hT hz hL
    have wl := wl_m hR hA hw
    have db := dp_b hD (by omega)
    have hen := (hD.2.2.2 i hi.1 hi.2).1
    have hB : ∀ p, 0 ≤ p → p ≤ nA A w → 0 ≤ σ 8 0 (25 * (i + 1) + p) := fun p p1 p2 => (db (i + 1) p (by omega) (by omega) p1 p2).1
    have hFn : F ≠ nA A w := fun q => by rw [q] at hT; omega
    have sr := shF_rng (fun j => decide (loA A w i ≤ (j : Int) ∧ sOc (ocA A w i) F j + tM8 σ (i + 1) (F + j) = tM8 σ i F)) (min (hiA A w i) (nA A w - F)).toNat
    have sr1 : 0 ≤ shA A w (tM8 σ) i F := sr.1
    have sr2 : shA A w (tM8 σ) i F ≤ 24 := by have : shA A w (tM8 σ) i F ≤ ((min (hiA A w i) (nA A w - F)).toNat : Int) := sr.2; omega
    have hLr : -1 ≤ L ∧ L ≤ 24 := by rw [hL]; split <;> omega
    refine r_iload C dX11_fit_215 rfl ?_
    refine r_if_ge 237 C dX11_fit_217 (by decide) (by omega) (fun h217 => ?_) (fun h217 => ?_)
    · have hne : shA A w (tM8 σ) i F ≠ 0 := fun q => by rw [if_pos q] at hL; omega
      rw [if_neg hne] at hL
      exact hN _ _ huF (by omega) hL.symm (by omega) hT hz
    · have hs0 : shA A w (tM8 σ) i F = 0 := by
        by_cases q : shA A w (tM8 σ) i F = 0
        · exact q
        · rw [if_neg q] at hL; omega
      have hps := dp_pause hD hi (p := F) ⟨by omega, by omega⟩ hT hs0
      have hpr := pfA_rng A w F
      have hT2 : tM8 σ i (F + 1) < 1000000 := by omega
      refine r_iinc C dX11_fit_220 rfl rfl rfl (by decide) ?_
      refine r_aload_n C dX11_fit_223 rfl ?_
      refine r_iload_n C dX11_fit_224 rfl ?_
      refine r_iload C dX11_fit_225 rfl ?_
      refine r_iload C dX11_fit_227 rfl ?_
      refine r_cvi (c := 1) C dX11_fit_229 mv_X11_126 (c_X11_lengthAt e l _ _ _ _ A hR hA hw hi (by omega) hT2 hB (db i (F + 1) (by omega) (by omega) (by omega) (by omega)).1) (by decide) rfl rfl rfl rfl (by decide) rfl rfl (Nat.le_of_ble_eq_true rfl) (fun z229 σ229 h229 => ?_)
      obtain ⟨rfl, rfl⟩ := h229
      refine r_istore C dX11_fit_232 rfl rfl (by decide) ?_
      refine r_goto 215 C dX11_fit_234 (by decide) ?_
      exact ih _ _ (by omega) (by omega) (by omega) hT2 (fun f f1 f2 => by by_cases q : f = F; rw [q]; exact hs0; exact hz f f1 (by omega)) rfl
set_option maxRecDepth 20000 in
theorem lp_X11_fitT {G : qSt → Nat → List (Option qV) → List qV → Prop} {Ret : Option qV → qSt → Prop} (e : qR) (l : Launch) (σ : qSt) (w : Int) (A : aSt) (hR : RelM σ A) (hA : AOk A) (hw : 0 ≤ w ∧ w < nWd A) (hD : DPA A w (tM8 σ)) (h0 : tM8 σ 0 0 < 1000000) (C : Cx (EM e) l RX11 cX11_fit 8 (some .int) 8 Ret G) (hN : ∀ σ2 u, tqI σ A w (mA A w) u σ2 → Ret (some (qi (σ2 8 0 0))) σ2) : ∀ (k : Nat) (i u : Int) (σ1 : qSt) (o6 o7 : Option qV), i + (k : Int) = mA A w → 0 ≤ i → tqI σ A w i u σ1 → G σ1 198 [some (qr 0 0), some (qi w), some (qi (nA A w)), some (qi (mA A w)), some (qi u), some (qi i), o6, o7] [] := by
  intro k
  induction k with
  | zero =>
    intro i u σ1 o6 o7 hm hi0 hI
    have hR1 : RelM σ1 A := rel_mscr hR (fun a b c q1 q2 => hI.1 a b c (by omega) (by omega)) hI.2.1
    have wl := wl_m hR hA hw
    have e8 : tM8 σ1 = tM8 σ := by funext s p; exact hI.1 _ _ _ (by omega) (by omega)
    have hD1 : DPA A w (tM8 σ1) := by rw [e8]; exact hD
    have db := dp_b hD1 (by omega)
    have hu0 := hI.2.2.2.2.1
    have hu1 := hI.2.2.2.2.2.1
    have hTu : tM8 σ1 i u < 1000000 := by rw [e8]; exact hI.2.2.2.2.2.2
    refine r_iload C dX11_fit_198 rfl ?_
    refine r_iload_n C dX11_fit_200 rfl ?_
    refine r_ic_ge 268 C dX11_fit_201 (by decide) (by omega) (by omega) (fun h201 => ?_) (fun h201 => ?_)
    · refine r_aload_n C dX11_fit_268 rfl ?_
      refine r_iconst C dX11_fit_269 ?_
      refine r_iconst C dX11_fit_270 ?_
      refine r_cvi (c := 1) C dX11_fit_271 mv_X11_104 (c_X11_leastAt e l _ _ _ (by omega) (by omega)) (by decide) rfl rfl rfl rfl (by decide) rfl rfl (Nat.le_of_ble_eq_true rfl) (fun z271 σ271 h271 => ?_)
      obtain ⟨rfl, rfl⟩ := h271
      refine r_iret C dX11_fit_274 ?_
      rw [show i = mA A w by omega] at hI
      exact hN _ _ hI
    · exfalso; omega
  | succ k ih =>
    intro i u σ1 o6 o7 hm hi0 hI
    have hR1 : RelM σ1 A := rel_mscr hR (fun a b c q1 q2 => hI.1 a b c (by omega) (by omega)) hI.2.1
    have wl := wl_m hR hA hw
    have e8 : tM8 σ1 = tM8 σ := by funext s p; exact hI.1 _ _ _ (by omega) (by omega)
    have hD1 : DPA A w (tM8 σ1) := by rw [e8]; exact hD
    have db := dp_b hD1 (by omega)
    have hu0 := hI.2.2.2.2.1
    have hu1 := hI.2.2.2.2.2.1
    have hTu : tM8 σ1 i u < 1000000 := by rw [e8]; exact hI.2.2.2.2.2.2
    refine r_iload C dX11_fit_198 rfl ?_
    refine r_iload_n C dX11_fit_200 rfl ?_
    refine r_ic_ge 268 C dX11_fit_201 (by decide) (by omega) (by omega) (fun h201 => ?_) (fun h201 => ?_)
    · exfalso; omega
    · refine r_aload_n C dX11_fit_204 rfl ?_
      refine r_iload_n C dX11_fit_205 rfl ?_
      refine r_iload C dX11_fit_206 rfl ?_
      refine r_iload C dX11_fit_208 rfl ?_
      refine r_cvi (c := 1) C dX11_fit_210 mv_X11_126 (c_X11_lengthAt e l _ _ _ _ A hR1 hA hw (by omega) (by omega) hTu (fun p p1 p2 => (db (i + 1) p (by omega) (by omega) p1 p2).1) (db i u (by omega) (by omega) (by omega) (by omega)).1) (by decide) rfl rfl rfl rfl (by decide) rfl rfl (Nat.le_of_ble_eq_true rfl) (fun z210 σ210 h210 => ?_)
      obtain ⟨rfl, rfl⟩ := h210
      refine r_istore C dX11_fit_213 rfl rfl (by decide) ?_
      refine lp_X11_fitW e l σ1 w i A hR1 hA hw (by omega) hD1 u hu0 _ C (fun F L g1 g2 g3 g4 g5 g6 => ?_) (nA A w + 1 - u).toNat _ _ (by omega) (by omega) (by omega) hTu (fun f f1 f2 => by omega) rfl
      have gL : L ≤ 24 := by
        have q := shF_rng (fun j => decide (loA A w i ≤ (j : Int) ∧ sOc (ocA A w i) F j + tM8 σ1 (i + 1) (F + j) = tM8 σ1 i F)) (min (hiA A w i) (nA A w - F)).toNat
        have q2 : shA A w (tM8 σ1) i F ≤ ((min (hiA A w i) (nA A w - F)).toNat : Int) := q.2
        omega
      rw [e8] at g3 g5 g6
      refine r_aload_n C dX11_fit_237 rfl ?_
      refine r_get_r (c := 1) C dX11_fit_238 fl_X11_35 rfl rfl rfl (by decide) rfl ?_
      refine r_iload C dX11_fit_241 rfl ?_
      refine r_iload C dX11_fit_243 rfl ?_
      refine r_iast (c := 1) (N := 8) C dX11_fit_245 rfl rfl (by decide) (by omega) ?_
      refine r_aload_n C dX11_fit_246 rfl ?_
      refine r_get_r (c := 1) C dX11_fit_247 fl_X11_38 rfl rfl rfl (by decide) rfl ?_
      refine r_iload C dX11_fit_250 rfl ?_
      refine r_iload C dX11_fit_252 rfl ?_
      refine r_iast (c := 1) (N := 8) C dX11_fit_254 rfl rfl (by decide) (by omega) ?_
      refine r_iload C dX11_fit_255 rfl ?_
      refine r_iload C dX11_fit_257 rfl ?_
      refine r_iadd C dX11_fit_259 ?_
      refine r_istore C dX11_fit_260 rfl rfl (by decide) ?_
      refine r_iinc C dX11_fit_262 rfl rfl rfl (by decide) ?_
      refine r_goto 198 C dX11_fit_265 (by decide) ?_
      exact ih _ _ _ _ _ (by omega) (by omega) (tq_step hD hI (by omega) (by omega) ⟨g1, g2⟩ g3 g4 g5 g6)
set_option maxRecDepth 20000 in
theorem c_X11_fit (e : qR) (l : Launch) (σ : qSt) (w : Int) (A : aSt) (hR : RelM σ A) (hA : AOk A) (hw : 0 ≤ w ∧ w < nWd A) : CM (EM e) l yX11_fit cX11_fit 8 (some .int) 8 [qr 0 0, qi w] σ (Ri fun z σ' => ftM A w z σ' ∧ σ' 0 0 12 = σ 0 0 12) := by
  refine CM.mk tM_ok (by decide +kernel) (Nat.le_of_ble_eq_true rfl) (fun G C => ?_)
  show G σ 0 [some (qr 0 0), some (qi w), none, none, none, none, none, none] []
  have wl := wl_m hR hA hw
  refine r_aload_n C dX11_fit_0 rfl ?_
  refine r_get_r (c := 1) C dX11_fit_1 fl_X11_9 rfl rfl rfl (by decide) rfl ?_
  refine r_bipush C dX11_fit_4 ?_
  refine r_aload_n C dX11_fit_6 rfl ?_
  refine r_get_r (c := 1) C dX11_fit_7 fl_X11_9 rfl rfl rfl (by decide) rfl ?_
  refine r_bipush C dX11_fit_10 ?_
  refine r_iload_n C dX11_fit_12 rfl ?_
  refine r_iadd C dX11_fit_13 ?_
  refine r_iald (c := 1) (N := 365) C dX11_fit_14 rfl rfl (by decide) (by omega) ?_
  refine r_v (b := (wdAt A w).1) wl.2.1 ?_
  refine r_iadd C dX11_fit_15 ?_
  refine r_iald (c := 1) (N := 365) C dX11_fit_16 rfl rfl (by decide) (by omega) ?_
  refine r_v (b := nA A w) wl.2.2.2.2.2.2.2.2.2.2.1 ?_
  refine r_istore_n C dX11_fit_17 rfl rfl (by decide) ?_
  refine r_aload_n C dX11_fit_18 rfl ?_
  refine r_get_r (c := 1) C dX11_fit_19 fl_X11_9 rfl rfl rfl (by decide) rfl ?_
  refine r_bipush C dX11_fit_22 ?_
  refine r_iload_n C dX11_fit_24 rfl ?_
  refine r_iadd C dX11_fit_25 ?_
  refine r_iald (c := 1) (N := 365) C dX11_fit_26 rfl rfl (by decide) (by omega) ?_
  refine r_v (b := mA A w) wl.2.2.2.1 ?_
  refine r_istore_n C dX11_fit_27 rfl rfl (by decide) ?_
  refine r_iload_n C dX11_fit_28 rfl ?_
  refine r_istore C dX11_fit_29 rfl rfl (by decide) ?_
  refine lp_X11_fitI e l σ w A hR hA hw C (fun σ2 i o5 o6 o7 hI2 => ?_) (mA A w + 1).toNat _ _ _ _ _ (by omega) (by omega) ⟨fun _ _ _ _ => rfl, hR.1, fun s p p1 p2 q => by omega⟩
  have hR2 := fI_rel hR hI2
  have hD2 := fI_dp hI2
  have db := dp_b hD2 (by omega)
  have ft := fitT_one hD2 0 0 (by omega) (by omega) (by omega) (by omega)
  have d00 := db 0 0 (by omega) (by omega) (by omega) (by omega)
  have e00 : tM8 σ2 0 0 = σ2 8 0 0 := rfl
  have e01 : σ2 8 0 (25 * 0 + 0) = σ2 8 0 0 := rfl
  refine r_aload_n C dX11_fit_178 rfl ?_
  refine r_iconst C dX11_fit_179 ?_
  refine r_iconst C dX11_fit_180 ?_
  refine r_cvi (c := 1) C dX11_fit_181 mv_X11_104 (c_X11_leastAt e l _ _ _ (by omega) (by omega)) (by decide) rfl rfl rfl rfl (by decide) rfl rfl (Nat.le_of_ble_eq_true rfl) (fun z181 σ181 h181 => ?_)
  obtain ⟨rfl, rfl⟩ := h181
  refine r_ldc C dX11_fit_184 kc_X11_103 ?_
  refine r_ic_ne 192 C dX11_fit_186 (by decide) (by omega) (by omega) (fun h186 => ?_) (fun h186 => ?_)
  · refine r_iconst C dX11_fit_192 ?_
    refine r_istore C dX11_fit_193 rfl rfl (by decide) ?_
    refine r_iconst C dX11_fit_195 ?_
    refine r_istore C dX11_fit_196 rfl rfl (by decide) ?_
    exact lp_X11_fitT e l σ2 w A hR2 hA hw hD2 (by omega) C (fun σ3 u hI3 => ⟨_, rfl, ⟨rel_mscr hR2 (fun a b c q1 q2 => hI3.1 a b c (by omega) (by omega)) hI3.2.1, by rw [hI3.1 8 0 0 (by omega) (by omega)]; exact ft, by omega, by omega, fun _ => ⟨fitBL_ok hD2 hI3.2.2.1, fitBL_one hD2 hI3.2.2.1⟩⟩, by rw [hI3.1 0 0 12 (by omega) (by omega)]; exact hI2.1 _ _ _ (by omega)⟩) (mA A w).toNat 0 0 _ _ _ (by omega) (by omega) ⟨fun _ _ _ _ _ => rfl, hR2.1, fun j j1 j2 => by omega, rfl, by omega, by omega, by omega⟩
  · refine r_ldc C dX11_fit_189 kc_X11_103 ?_
    refine r_iret C dX11_fit_191 ?_
    exact ⟨_, rfl, ⟨hR2, by omega, by omega, by omega, fun q => by omega⟩, hI2.1 _ _ _ (by omega)⟩
