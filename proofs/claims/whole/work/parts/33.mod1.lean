/-! THE REFERENCE: what its rows hold -/
abbrev Bm (σ : qSt) : Prop := ∀ (k : Nat) (i j : Int), (k ≠ 2 ∧ k ≠ 4 ∧ k ≠ 7 ∧ k ≠ 15) → ¬ (k = 0 ∧ j = 5) → -2000000 ≤ σ k i j ∧ σ k i j ≤ 2000000
def Bl (σ : qSt) : Prop := ∀ (k : Nat) (j : Int), k = 2 ∨ k = 4 → 0 ≤ σ k 0 j ∧ σ k 0 j < 281474976710656
theorem Bm.up {σ : qSt} (h : Bm σ) {k : Nat} {i j z : Int} (hz : -2000000 ≤ z ∧ z ≤ 2000000) : Bm (qUp σ k i j z) := fun a b c q1 q2 => by
  unfold qUp
  split
  · exact hz
  · exact h a b c q1 q2
theorem Bm.ul {σ : qSt} (h : Bm σ) {k : Nat} {i j z : Int} (hk : k = 2 ∨ k = 4 ∨ k = 7 ∨ k = 15 ∨ (k = 0 ∧ j = 5)) : Bm (qUp σ k i j z) := fun a b c q1 q2 => by
  rw [qUp_ne (by omega)]
  exact h a b c q1 q2
theorem Bl.up {σ : qSt} (h : Bl σ) {k : Nat} {i j z : Int} (hk : k ≠ 2 ∧ k ≠ 4) : Bl (qUp σ k i j z) := fun a b q => by
  rw [qUp_ne (by omega)]
  exact h a b q
theorem Bl.ul {σ : qSt} (h : Bl σ) {k : Nat} {i j z : Int} (hz : 0 ≤ z ∧ z < 281474976710656) : Bl (qUp σ k i j z) := fun a b q => by
  unfold qUp
  split
  · exact hz
  · exact h a b q
def RNl (f g : Int → Int) (ls : List aLn) : Prop := f 0 = ls.length ∧ ∀ (i : Nat) (x : aLn), ls[i]? = some x → f (4 + i) = x.1 ∧ f (16 + i) = x.2.length ∧ ∀ (j : Nat) (s : Int), x.2[j]? = some s → dg (g i) j = s
def pkS (s : aSy) : Int := s.1 + 4 * s.2.1 + 32 * s.2.2.1 + 256 * s.2.2.2
def pkT (t : aTx) : Int := t.1 + 4 * t.2.1 + 16 * t.2.2.1 + 512 * t.2.2.2
def RNw (f : Int → Int) (ws : List aWd) : Prop := f 1 = ws.length ∧ ∀ (i : Nat) (x : aWd), ws[i]? = some x → f (28 + i) = x.1 ∧ f (48 + i) = x.2.1 ∧ f (68 + i) = x.2.2.1 ∧ f (88 + i) = x.2.2.2.length ∧ ∀ (j : Nat) (s : aSy), x.2.2.2[j]? = some s → f (108 + 8 * i + j) = pkS s
def RNt (f : Int → Int) (ts : List aTx) : Prop := f 2 = ts.length ∧ ∀ (i : Nat) (x : aTx), ts[i]? = some x → f (268 + i) = pkT x
def RNf (o N : Int) (f h : Int → Int) : Prop := ∀ i, 0 ≤ i → i < N → f (o + i) = h i
def RNo (f : Int → Int) (os : List Int) : Prop := f 3 = os.length ∧ ∀ (i : Nat) (x : Int), os[i]? = some x → f (358 + i) = x
def RN (f g : Int → Int) (c : aCur) : Prop := RNl f g (cL c) ∧ RNw f (cW c) ∧ RNt f (cT c) ∧ RNf 308 32 f (cN c) ∧ RNf 340 6 f (cA c) ∧ RNf 346 8 f (cF c) ∧ RNf 354 4 f (cR c) ∧ RNo f (cO c)
theorem RNl.cg {f g f' g' : Int → Int} {l : List aLn} (hl : l.length ≤ 12) (h : ∀ j, j = 0 ∨ (4 ≤ j ∧ j < 28) → f' j = f j) (hg : ∀ j, 0 ≤ j → j < 12 → g' j = g j) (hR : RNl f g l) : RNl f' g' l := ⟨by rw [h _ (by omega)]; exact hR.1, fun i x hx => by
  have := lt_of_get hx
  rw [h _ (by omega), h _ (by omega), hg _ (by omega) (by omega)]
  exact hR.2 i x hx⟩
theorem RNw.cg {f f' : Int → Int} {n : Nat} {l : List aWd} (hl : GoodW n l) (h : ∀ j, j = 1 ∨ (28 ≤ j ∧ j < 268) → f' j = f j) (hR : RNw f l) : RNw f' l := ⟨by rw [h _ (by omega)]; exact hR.1, fun i x hx => by
  have h1 := lt_of_get hx
  have h2 := hl.1
  have h3 := (hl.2 i x hx).2.2.2.2.2.2.1
  rw [h _ (by omega), h _ (by omega), h _ (by omega), h _ (by omega)]
  obtain ⟨a, b, c, d, e⟩ := hR.2 i x hx
  exact ⟨a, b, c, d, fun j s hs => by have := lt_of_get hs; rw [h _ (by omega)]; exact e j s hs⟩⟩
theorem RNt.cg {f f' : Int → Int} {l : List aTx} (hl : l.length ≤ 40) (h : ∀ j, j = 2 ∨ (268 ≤ j ∧ j < 308) → f' j = f j) (hR : RNt f l) : RNt f' l := ⟨by rw [h _ (by omega)]; exact hR.1, fun i x hx => by
  have := lt_of_get hx
  rw [h _ (by omega)]
  exact hR.2 i x hx⟩
theorem RNf.cg {o N : Int} {f f' k : Int → Int} (h : ∀ j, o ≤ j ∧ j < o + N → f' j = f j) (hR : RNf o N f k) : RNf o N f' k := fun i a b => by rw [h _ (by omega)]; exact hR i a b
theorem RNo.cg {f f' : Int → Int} {l : List Int} (hl : l.length ≤ 7) (h : ∀ j, j = 3 ∨ (358 ≤ j ∧ j < 365) → f' j = f j) (hR : RNo f l) : RNo f' l := ⟨by rw [h _ (by omega)]; exact hR.1, fun i x hx => by
  have := lt_of_get hx
  rw [h _ (by omega)]
  exact hR.2 i x hx⟩
theorem RN.cg {f g f' g' : Int → Int} {c : aCur} (hG : Good c) (h : ∀ j, 0 ≤ j → j < 365 → f' j = f j) (hg : ∀ j, 0 ≤ j → j < 12 → g' j = g j) (hR : RN f g c) : RN f' g' c := by
  obtain ⟨r1, r2, r3, r4, r5, r6, r7, r8⟩ := hR
  obtain ⟨g1, g2, g3, g4, g5, g6, g7, g8⟩ := hG
  exact ⟨r1.cg g1.1 (fun j q => h j (by omega) (by omega)) hg, r2.cg g2 (fun j q => h j (by omega) (by omega)), r3.cg g3.1 (fun j q => h j (by omega) (by omega)), r4.cg (fun j q => h j (by omega) (by omega)), r5.cg (fun j q => h j (by omega) (by omega)), r6.cg (fun j q => h j (by omega) (by omega)), r7.cg (fun j q => h j (by omega) (by omega)), r8.cg g8.1 (fun j q => h j (by omega) (by omega))⟩
def RSm (σ : qSt) (bi sz : Int → Int) (nu : Int → Int → Int) : Prop := ∀ s, 0 ≤ s → s < 4 → σ 5 0 s = bi s ∧ σ 6 0 s = sz s ∧ ∀ j, 0 ≤ j → j < 30 → σ 7 0 (30 * s + j) % 4 = nu s j
def RPa (σ : qSt) (n : Int) (cs : List aCur) : Prop := ∀ (k : Nat) (c : aCur), cs[k]? = some c → RN (fun j => σ 3 0 ((n - 1 - k) * 365 + j)) (fun j => σ 4 0 ((n - 1 - k) * 12 + j)) c
def RelM (σ : qSt) (A : aSt) : Prop := Bm σ ∧ Bl σ ∧ RN (σ 1 0) (σ 2 0) A.1 ∧ σ 0 0 4 = A.2.1.length ∧ RPa σ A.2.1.length (undoN A.1 A.2.1) ∧ RSm σ A.2.2.2.1 A.2.2.2.2.1 A.2.2.2.2.2 ∧ σ 0 0 5 = A.2.2.1
/-! the loops that copy -/
theorem cpy_step {σ : qSt} {k1 k2 : Nat} {i1 sp i2 dp m x v : Int} (hm : 0 ≤ m) (hx : x = dp + m) (hv : v = σ k1 i1 (sp + m)) : qUp (qCpy σ k1 i1 sp k2 i2 dp m) k2 i2 x v = qCpy σ k1 i1 sp k2 i2 dp (m + 1) := by
  subst hx hv
  funext a b c
  unfold qUp qCpy
  by_cases e : a = k2 ∧ b = i2 ∧ c = dp + m
  · obtain ⟨rfl, rfl, rfl⟩ := e
    rw [if_pos ⟨rfl, rfl, rfl⟩, if_pos (by omega)]
    congr 1
    omega
  · rw [if_neg e]
    by_cases e2 : a = k2 ∧ b = i2 ∧ dp ≤ c ∧ c < dp + m
    · rw [if_pos e2, if_pos (by omega)]
    · rw [if_neg e2, if_neg (by omega)]
theorem cpy_0 (σ : qSt) (k1 k2 : Nat) (i1 sp i2 dp : Int) : qCpy σ k1 i1 sp k2 i2 dp 0 = σ := by
  funext a b c
  unfold qCpy
  rw [if_neg (by omega)]
def kp1 (σ : qSt) : qSt := qUp (qCpy (qCpy σ 3 0 365 3 0 0 6935) 4 0 12 4 0 0 228) 0 0 4 (σ 0 0 4 - 1)
def kp2 (σ : qSt) : qSt := qUp (qCpy (qCpy σ 1 0 0 3 0 (σ 0 0 4 * 365) 365) 2 0 0 4 0 (σ 0 0 4 * 12) 12) 0 0 4 (σ 0 0 4 + 1)
def kpS (σ : qSt) : qSt := if σ 0 0 4 = 20 then kp2 (kp1 σ) else kp2 σ
def kpQ (σ τ : qSt) : Prop := (∀ (a : Nat) (b c : Int), a ≠ 3 → a ≠ 4 → ¬ (a = 0 ∧ c = 4) → τ a b c = σ a b c) ∧ τ 0 0 4 = min (σ 0 0 4 + 1) 20 ∧ (∀ j, 0 ≤ j → j < (τ 0 0 4 - 1) * 365 → τ 3 0 j = σ 3 0 (j + (σ 0 0 4 + 1 - τ 0 0 4) * 365)) ∧ (∀ j, 0 ≤ j → j < (τ 0 0 4 - 1) * 12 → τ 4 0 j = σ 4 0 (j + (σ 0 0 4 + 1 - τ 0 0 4) * 12)) ∧ (∀ j, 0 ≤ j → j < 365 → τ 3 0 ((τ 0 0 4 - 1) * 365 + j) = σ 1 0 j) ∧ (∀ j, 0 ≤ j → j < 12 → τ 4 0 ((τ 0 0 4 - 1) * 12 + j) = σ 2 0 j) ∧ (Bm σ → Bm τ) ∧ (Bl σ → Bl τ)
theorem Bm.cpy {σ : qSt} (h : Bm σ) {k1 k2 : Nat} {i1 sp i2 dp m : Int} (hk : k1 ≠ 0 ∧ ((k1 ≠ 2 ∧ k1 ≠ 4 ∧ k1 ≠ 7 ∧ k1 ≠ 15) ∨ k2 = 2 ∨ k2 = 4 ∨ k2 = 7 ∨ k2 = 15)) : Bm (qCpy σ k1 i1 sp k2 i2 dp m) := fun a b c q1 q2 => by
  unfold qCpy
  split
  · exact h _ _ _ (by omega) (by omega)
  · exact h a b c q1 q2
theorem Bl.cpy {σ : qSt} (h : Bl σ) {k1 k2 : Nat} {sp i2 dp m : Int} (hk : k1 = 2 ∨ k1 = 4 ∨ ¬ (k2 = 2 ∨ k2 = 4)) : Bl (qCpy σ k1 0 sp k2 i2 dp m) := fun a b q => by
  unfold qCpy
  split
  · exact h _ _ (by omega)
  · exact h a b q
theorem kp_of {σ : qSt} (hk : 0 ≤ σ 0 0 4 ∧ σ 0 0 4 ≤ 20) : kpQ σ (kpS σ) := by
  unfold kpS
  split
  · next q =>
    have e0 : kp1 σ 0 0 4 = σ 0 0 4 - 1 := by unfold kp1; rw [qUp_eq]
    have e1 : kp2 (kp1 σ) 0 0 4 = 20 := by unfold kp2; rw [qUp_eq, e0]; omega
    refine ⟨fun a b c h1 h2 h3 => ?_, by rw [e1]; omega, fun j j1 j2 => ?_, fun j j1 j2 => ?_, fun j j1 j2 => ?_, fun j j1 j2 => ?_, fun h => ?_, fun h => ?_⟩
    · unfold kp2 kp1
      rw [qUp_ne (by omega)]
      unfold qCpy
      rw [if_neg (by omega), if_neg (by omega), qUp_ne (by omega), if_neg (by omega), if_neg (by omega)]
    · rw [e1] at j2 ⊢
      unfold kp2
      rw [e0, qUp_ne (by omega)]
      unfold qCpy
      rw [if_neg (by omega), if_neg (by omega)]
      unfold kp1
      rw [qUp_ne (by omega)]
      unfold qCpy
      rw [if_neg (by omega), if_pos (by omega)]
      congr 1
      omega
    · rw [e1] at j2 ⊢
      unfold kp2
      rw [e0, qUp_ne (by omega)]
      unfold qCpy
      rw [if_neg (by omega), if_neg (by omega)]
      unfold kp1
      rw [qUp_ne (by omega)]
      unfold qCpy
      rw [if_pos (by omega), if_neg (by omega)]
      congr 1
      omega
    · rw [e1]
      unfold kp2
      rw [e0, qUp_ne (by omega)]
      unfold qCpy
      rw [if_neg (by omega), if_pos (by omega)]
      unfold kp1
      rw [qUp_ne (by omega)]
      unfold qCpy
      rw [if_neg (by omega), if_neg (by omega)]
      congr 1
      omega
    · rw [e1]
      unfold kp2
      rw [e0, qUp_ne (by omega)]
      unfold qCpy
      rw [if_pos (by omega), if_neg (by omega)]
      unfold kp1
      rw [qUp_ne (by omega)]
      unfold qCpy
      rw [if_neg (by omega), if_neg (by omega)]
      congr 1
      omega
    · have h1 : Bm (kp1 σ) := by unfold kp1; exact ((h.cpy (by omega)).cpy (by omega)).up (by omega)
      unfold kp2
      rw [e0]
      exact ((h1.cpy (by omega)).cpy (by omega)).up (by omega)
    · have h1 : Bl (kp1 σ) := by unfold kp1; exact ((h.cpy (by omega)).cpy (by omega)).up (by omega)
      unfold kp2
      exact ((h1.cpy (by omega)).cpy (by omega)).up (by omega)
  · next q =>
    have e1 : kp2 σ 0 0 4 = σ 0 0 4 + 1 := by unfold kp2; rw [qUp_eq]
    refine ⟨fun a b c h1 h2 h3 => ?_, by rw [e1]; omega, fun j j1 j2 => ?_, fun j j1 j2 => ?_, fun j j1 j2 => ?_, fun j j1 j2 => ?_, fun h => ?_, fun h => ?_⟩
    · unfold kp2
      rw [qUp_ne (by omega)]
      unfold qCpy
      rw [if_neg (by omega), if_neg (by omega)]
    · rw [e1] at j2 ⊢
      unfold kp2
      rw [qUp_ne (by omega)]
      unfold qCpy
      rw [if_neg (by omega), if_neg (by omega)]
      congr 1
      omega
    · rw [e1] at j2 ⊢
      unfold kp2
      rw [qUp_ne (by omega)]
      unfold qCpy
      rw [if_neg (by omega), if_neg (by omega)]
      congr 1
      omega
    · rw [e1]
      unfold kp2
      rw [qUp_ne (by omega)]
      unfold qCpy
      rw [if_neg (by omega), if_pos (by omega)]
      congr 1
      omega
    · rw [e1]
      unfold kp2
      rw [qUp_ne (by omega)]
      unfold qCpy
      rw [if_pos (by omega), if_neg (by omega)]
      congr 1
      omega
    · unfold kp2
      exact ((h.cpy (by omega)).cpy (by omega)).up (by omega)
    · unfold kp2
      exact ((h.cpy (by omega)).cpy (by omega)).up (by omega)
set_option maxRecDepth 20000 in
theorem c_X11_within (e : qR) (l : Launch) (σ : qSt) (v lo hi : Int) (hv : InI v) (hlo : InI lo) (hhi : InI hi) : CM (EM e) l yX11_within cX11_within 3 (some .boolean) 2 [qi v, qi lo, qi hi] σ (Ri fun z σ' => z = (if lo ≤ v ∧ v ≤ hi then 1 else 0) ∧ σ = σ') := by
  refine CM.mk tM_ok (by decide +kernel) (Nat.le_of_ble_eq_true rfl) (fun G C => ?_)
  show G σ 0 [some (qi v), some (qi lo), some (qi hi)] []
  refine r_iload_n C dX11_within_0 rfl ?_
  refine r_iload_n C dX11_within_1 rfl ?_
  refine r_ic_lt 14 C dX11_within_2 (by decide) (by omega) (by omega) (fun h2 => ?_) (fun h2 => ?_)
  · refine r_iconst C dX11_within_14 ?_
    refine r_zret C dX11_within_15 (by decide) ?_
    exact ⟨_, rfl, by first | rw [if_pos (by omega)] | rw [if_neg (by omega)], rfl⟩
  · refine r_iload_n C dX11_within_5 rfl ?_
    refine r_iload_n C dX11_within_6 rfl ?_
    refine r_ic_gt 14 C dX11_within_7 (by decide) (by omega) (by omega) (fun h7 => ?_) (fun h7 => ?_)
    · refine r_iconst C dX11_within_14 ?_
      refine r_zret C dX11_within_15 (by decide) ?_
      exact ⟨_, rfl, by first | rw [if_pos (by omega)] | rw [if_neg (by omega)], rfl⟩
    · refine r_iconst C dX11_within_10 ?_
      refine r_goto 15 C dX11_within_11 (by decide) ?_
      refine r_zret C dX11_within_15 (by decide) ?_
      exact ⟨_, rfl, by first | rw [if_pos (by omega)] | rw [if_neg (by omega)], rfl⟩
set_option maxRecDepth 20000 in
theorem c_X11_finding (e : qR) (l : Launch) (σ : qSt) (x : Int) : CM (EM e) l yX11_finding cX11_finding 2 (some .int) 2 [qr 0 0, qi x] σ (Ri fun z σ' => z = x ∧ σ' = qUp σ 0 0 5 (σ 0 0 5 + 1)) := by
  refine CM.mk tM_ok (by decide +kernel) (Nat.le_of_ble_eq_true rfl) (fun G C => ?_)
  show G σ 0 [some (qr 0 0), some (qi x)] []
  refine r_aload_n C dX11_finding_0 rfl ?_
  refine r_dup C dX11_finding_1 ?_
  refine r_get_i (c := 1) 5 C dX11_finding_2 fl_X11_56 rfl rfl rfl rfl (by decide) ?_
  refine r_iconst C dX11_finding_5 ?_
  refine r_iadd C dX11_finding_6 ?_
  refine r_put_i (c := 1) 5 C dX11_finding_7 fw_X11_56 rfl rfl rfl rfl (by decide) rfl rfl ?_
  refine r_iload_n C dX11_finding_10 rfl ?_
  refine r_iret C dX11_finding_11 ?_
  exact ⟨_, rfl, rfl, rfl⟩
set_option maxRecDepth 20000 in
theorem c_X11_isLine (e : qR) (l : Launch) (σ : qSt) (x : Int) (hb : Bm σ) (hv : InI x) : CM (EM e) l yX11_isLine cX11_isLine 2 (some .boolean) 3 [qr 0 0, qi x] σ (Ri fun z σ' => z = (if 0 ≤ x ∧ x < σ 1 0 0 then 1 else 0) ∧ σ = σ') := by
  refine CM.mk tM_ok (by decide +kernel) (Nat.le_of_ble_eq_true rfl) (fun G C => ?_)
  show G σ 0 [some (qr 0 0), some (qi x)] []
  refine r_iload_n C dX11_isLine_0 rfl ?_
  refine r_iconst C dX11_isLine_1 ?_
  refine r_aload_n C dX11_isLine_2 rfl ?_
  refine r_get_r (c := 1) C dX11_isLine_3 fl_X11_9 rfl rfl rfl (by decide) rfl ?_
  refine r_iconst C dX11_isLine_6 ?_
  refine r_iald (c := 1) (N := 365) C dX11_isLine_7 rfl rfl (by decide) (by omega) ?_
  have b7 := hb 1 0 0 (by omega) (by omega)
  refine r_iconst C dX11_isLine_8 ?_
  refine r_isub C dX11_isLine_9 ?_
  refine r_csi C dX11_isLine_10 ms_X11_60 (c_X11_within e l _ _ _ _ (by omega) (by omega) (by omega)) (by decide) rfl rfl (Nat.le_of_ble_eq_true rfl) (fun z10 σ10 h10 => ?_)
  obtain ⟨hz, rfl⟩ := h10
  refine r_zret C dX11_isLine_13 (by rw [hz]; split <;> simp) ?_
  exact ⟨_, rfl, by rw [hz]; by_cases q : 0 ≤ x ∧ x < σ 1 0 0; rw [if_pos q, if_pos (by omega)]; rw [if_neg q, if_neg (by omega)], rfl⟩
set_option maxRecDepth 20000 in
theorem c_X11_isWording (e : qR) (l : Launch) (σ : qSt) (x : Int) (hb : Bm σ) (hv : InI x) : CM (EM e) l yX11_isWording cX11_isWording 2 (some .boolean) 3 [qr 0 0, qi x] σ (Ri fun z σ' => z = (if 0 ≤ x ∧ x < σ 1 0 1 then 1 else 0) ∧ σ = σ') := by
  refine CM.mk tM_ok (by decide +kernel) (Nat.le_of_ble_eq_true rfl) (fun G C => ?_)
  show G σ 0 [some (qr 0 0), some (qi x)] []
  refine r_iload_n C dX11_isWording_0 rfl ?_
  refine r_iconst C dX11_isWording_1 ?_
  refine r_aload_n C dX11_isWording_2 rfl ?_
  refine r_get_r (c := 1) C dX11_isWording_3 fl_X11_9 rfl rfl rfl (by decide) rfl ?_
  refine r_iconst C dX11_isWording_6 ?_
  refine r_iald (c := 1) (N := 365) C dX11_isWording_7 rfl rfl (by decide) (by omega) ?_
  have b7 := hb 1 0 1 (by omega) (by omega)
  refine r_iconst C dX11_isWording_8 ?_
  refine r_isub C dX11_isWording_9 ?_
  refine r_csi C dX11_isWording_10 ms_X11_60 (c_X11_within e l _ _ _ _ (by omega) (by omega) (by omega)) (by decide) rfl rfl (Nat.le_of_ble_eq_true rfl) (fun z10 σ10 h10 => ?_)
  obtain ⟨hz, rfl⟩ := h10
  refine r_zret C dX11_isWording_13 (by rw [hz]; split <;> simp) ?_
  exact ⟨_, rfl, by rw [hz]; by_cases q : 0 ≤ x ∧ x < σ 1 0 1; rw [if_pos q, if_pos (by omega)]; rw [if_neg q, if_neg (by omega)], rfl⟩
set_option maxRecDepth 20000 in
theorem c_X11_isLand (e : qR) (l : Launch) (σ : qSt) (x : Int) (hv : InI x) : CM (EM e) l yX11_isLand cX11_isLand 1 (some .boolean) 3 [qi x] σ (Ri fun z σ' => z = (if 0 ≤ x ∧ x < 3 then 1 else 0) ∧ σ = σ') := by
  refine CM.mk tM_ok (by decide +kernel) (Nat.le_of_ble_eq_true rfl) (fun G C => ?_)
  show G σ 0 [some (qi x)] []
  refine r_iload_n C dX11_isLand_0 rfl ?_
  refine r_iconst C dX11_isLand_1 ?_
  refine r_iconst C dX11_isLand_2 ?_
  refine r_csi C dX11_isLand_3 ms_X11_60 (c_X11_within e l _ _ _ _ (by omega) (by omega) (by omega)) (by decide) rfl rfl (Nat.le_of_ble_eq_true rfl) (fun z3 σ3 h3 => ?_)
  obtain ⟨hz, rfl⟩ := h3
  refine r_zret C dX11_isLand_6 (by rw [hz]; split <;> simp) ?_
  exact ⟨_, rfl, by rw [hz]; by_cases q : 0 ≤ x ∧ x < 3; rw [if_pos q, if_pos (by omega)]; rw [if_neg q, if_neg (by omega)], rfl⟩
set_option maxRecDepth 20000 in
theorem c_X11_isDay (e : qR) (l : Launch) (σ : qSt) (x : Int) (hv : InI x) : CM (EM e) l yX11_isDay cX11_isDay 1 (some .boolean) 3 [qi x] σ (Ri fun z σ' => z = (if 0 ≤ x ∧ x < 1000 then 1 else 0) ∧ σ = σ') := by
  refine CM.mk tM_ok (by decide +kernel) (Nat.le_of_ble_eq_true rfl) (fun G C => ?_)
  show G σ 0 [some (qi x)] []
  refine r_iload_n C dX11_isDay_0 rfl ?_
  refine r_iconst C dX11_isDay_1 ?_
  refine r_sipush C dX11_isDay_2 ?_
  refine r_csi C dX11_isDay_5 ms_X11_60 (c_X11_within e l _ _ _ _ (by omega) (by omega) (by omega)) (by decide) rfl rfl (Nat.le_of_ble_eq_true rfl) (fun z5 σ5 h5 => ?_)
  obtain ⟨hz, rfl⟩ := h5
  refine r_zret C dX11_isDay_8 (by rw [hz]; split <;> simp) ?_
  exact ⟨_, rfl, by rw [hz]; by_cases q : 0 ≤ x ∧ x < 1000; rw [if_pos q, if_pos (by omega)]; rw [if_neg q, if_neg (by omega)], rfl⟩
set_option maxRecDepth 20000 in
theorem c_X11_isWord (e : qR) (l : Launch) (σ : qSt) (x : Int) (hv : InI x) : CM (EM e) l yX11_isWord cX11_isWord 1 (some .boolean) 3 [qi x] σ (Ri fun z σ' => z = (if 0 ≤ x ∧ x < 32 then 1 else 0) ∧ σ = σ') := by
  refine CM.mk tM_ok (by decide +kernel) (Nat.le_of_ble_eq_true rfl) (fun G C => ?_)
  show G σ 0 [some (qi x)] []
  refine r_iload_n C dX11_isWord_0 rfl ?_
  refine r_iconst C dX11_isWord_1 ?_
  refine r_bipush C dX11_isWord_2 ?_
  refine r_csi C dX11_isWord_4 ms_X11_60 (c_X11_within e l _ _ _ _ (by omega) (by omega) (by omega)) (by decide) rfl rfl (Nat.le_of_ble_eq_true rfl) (fun z4 σ4 h4 => ?_)
  obtain ⟨hz, rfl⟩ := h4
  refine r_zret C dX11_isWord_7 (by rw [hz]; split <;> simp) ?_
  exact ⟨_, rfl, by rw [hz]; by_cases q : 0 ≤ x ∧ x < 32; rw [if_pos q, if_pos (by omega)]; rw [if_neg q, if_neg (by omega)], rfl⟩
set_option maxRecDepth 20000 in
theorem c_X11_isSheet (e : qR) (l : Launch) (σ : qSt) (x : Int) (hv : InI x) : CM (EM e) l yX11_isSheet cX11_isSheet 1 (some .boolean) 3 [qi x] σ (Ri fun z σ' => z = (if 0 ≤ x ∧ x < 4 then 1 else 0) ∧ σ = σ') := by
  refine CM.mk tM_ok (by decide +kernel) (Nat.le_of_ble_eq_true rfl) (fun G C => ?_)
  show G σ 0 [some (qi x)] []
  refine r_iload_n C dX11_isSheet_0 rfl ?_
  refine r_iconst C dX11_isSheet_1 ?_
  refine r_iconst C dX11_isSheet_2 ?_
  refine r_csi C dX11_isSheet_3 ms_X11_60 (c_X11_within e l _ _ _ _ (by omega) (by omega) (by omega)) (by decide) rfl rfl (Nat.le_of_ble_eq_true rfl) (fun z3 σ3 h3 => ?_)
  obtain ⟨hz, rfl⟩ := h3
  refine r_zret C dX11_isSheet_6 (by rw [hz]; split <;> simp) ?_
  exact ⟨_, rfl, by rw [hz]; by_cases q : 0 ≤ x ∧ x < 4; rw [if_pos q, if_pos (by omega)]; rw [if_neg q, if_neg (by omega)], rfl⟩
set_option maxRecDepth 20000 in
theorem lp_X11_keep1 {G : qSt → Nat → List (Option qV) → List qV → Prop} {Ret : Option qV → qSt → Prop} (e : qR) (l : Launch) (σ : qSt)  (C : Cx (EM e) l RX11 cX11_keep 2 none 3 Ret G) (hN : ∀ y, G (qCpy σ 3 0 365 3 0 0 6935) 40 [some (qr 0 0), some (qi y)] []) : ∀ (k : Nat) (m : Int) (σ1 : qSt), m + (k : Int) = 6935 → 0 ≤ m → σ1 = qCpy σ 3 0 365 3 0 0 m → G σ1 11 [some (qr 0 0), some (qi m)] [] := by
  intro k
  induction k with
  | zero =>
    intro m σ1 hm hm0 hI
    refine r_iload_n C dX11_keep_11 rfl ?_
    refine r_sipush C dX11_keep_12 ?_
    refine r_ic_ge 40 C dX11_keep_15 (by decide) (by omega) (by omega) (fun h15 => ?_) (fun h15 => ?_)
    · subst hI
      rw [show m = 6935 by omega]
      exact hN _
    · exfalso; omega
  | succ k ih =>
    intro m σ1 hm hm0 hI
    refine r_iload_n C dX11_keep_11 rfl ?_
    refine r_sipush C dX11_keep_12 ?_
    refine r_ic_ge 40 C dX11_keep_15 (by decide) (by omega) (by omega) (fun h15 => ?_) (fun h15 => ?_)
    · exfalso; omega
    · refine r_aload_n C dX11_keep_18 rfl ?_
      refine r_get_r (c := 1) C dX11_keep_19 fl_X11_17 rfl rfl rfl (by decide) rfl ?_
      refine r_iload_n C dX11_keep_22 rfl ?_
      refine r_aload_n C dX11_keep_23 rfl ?_
      refine r_get_r (c := 1) C dX11_keep_24 fl_X11_17 rfl rfl rfl (by decide) rfl ?_
      refine r_iload_n C dX11_keep_27 rfl ?_
      refine r_sipush C dX11_keep_28 ?_
      refine r_iadd C dX11_keep_31 ?_
      refine r_iald (c := 1) (N := 7300) C dX11_keep_32 rfl rfl (by decide) (by omega) ?_
      refine r_iast (c := 1) (N := 7300) C dX11_keep_33 rfl rfl (by decide) (by omega) ?_
      refine r_iinc C dX11_keep_34 rfl rfl rfl (by decide) ?_
      refine r_goto 11 C dX11_keep_37 (by decide) ?_
      exact ih _ _ (by omega) (by omega) (by subst hI; exact cpy_step hm0 (by omega) (by unfold qCpy; rw [if_neg (by omega), Int.add_comm]))
set_option maxRecDepth 20000 in
theorem lp_X11_keep2 {G : qSt → Nat → List (Option qV) → List qV → Prop} {Ret : Option qV → qSt → Prop} (e : qR) (l : Launch) (σ : qSt)  (C : Cx (EM e) l RX11 cX11_keep 2 none 3 Ret G) (hN : ∀ y, G (qCpy σ 4 0 12 4 0 0 228) 70 [some (qr 0 0), some (qi y)] []) : ∀ (k : Nat) (m : Int) (σ1 : qSt), m + (k : Int) = 228 → 0 ≤ m → σ1 = qCpy σ 4 0 12 4 0 0 m → G σ1 42 [some (qr 0 0), some (qi m)] [] := by
  intro k
  induction k with
  | zero =>
    intro m σ1 hm hm0 hI
    refine r_iload_n C dX11_keep_42 rfl ?_
    refine r_sipush C dX11_keep_43 ?_
    refine r_ic_ge 70 C dX11_keep_46 (by decide) (by omega) (by omega) (fun h46 => ?_) (fun h46 => ?_)
    · subst hI
      rw [show m = 228 by omega]
      exact hN _
    · exfalso; omega
  | succ k ih =>
    intro m σ1 hm hm0 hI
    refine r_iload_n C dX11_keep_42 rfl ?_
    refine r_sipush C dX11_keep_43 ?_
    refine r_ic_ge 70 C dX11_keep_46 (by decide) (by omega) (by omega) (fun h46 => ?_) (fun h46 => ?_)
    · exfalso; omega
    · refine r_aload_n C dX11_keep_49 rfl ?_
      refine r_get_r (c := 1) C dX11_keep_50 fl_X11_20 rfl rfl rfl (by decide) rfl ?_
      refine r_iload_n C dX11_keep_53 rfl ?_
      refine r_aload_n C dX11_keep_54 rfl ?_
      refine r_get_r (c := 1) C dX11_keep_55 fl_X11_20 rfl rfl rfl (by decide) rfl ?_
      refine r_iload_n C dX11_keep_58 rfl ?_
      refine r_bipush C dX11_keep_59 ?_
      refine r_iadd C dX11_keep_61 ?_
      refine r_lald (c := 1) (N := 240) C dX11_keep_62 rfl rfl (by decide) (by omega) ?_
      refine r_last (c := 1) (N := 240) C dX11_keep_63 rfl rfl (by decide) (by omega) ?_
      refine r_iinc C dX11_keep_64 rfl rfl rfl (by decide) ?_
      refine r_goto 42 C dX11_keep_67 (by decide) ?_
      exact ih _ _ (by omega) (by omega) (by subst hI; exact cpy_step hm0 (by omega) (by unfold qCpy; rw [if_neg (by omega), Int.add_comm]))
set_option maxRecDepth 20000 in
theorem lp_X11_keep3 {G : qSt → Nat → List (Option qV) → List qV → Prop} {Ret : Option qV → qSt → Prop} (e : qR) (l : Launch) (σ : qSt) (hk : 0 ≤ σ 0 0 4 ∧ σ 0 0 4 < 20) (C : Cx (EM e) l RX11 cX11_keep 2 none 3 Ret G) (hN : ∀ y, G (qCpy σ 1 0 0 3 0 (σ 0 0 4 * 365) 365) 116 [some (qr 0 0), some (qi y)] []) : ∀ (k : Nat) (m : Int) (σ1 : qSt), m + (k : Int) = 365 → 0 ≤ m → σ1 = qCpy σ 1 0 0 3 0 (σ 0 0 4 * 365) m → G σ1 82 [some (qr 0 0), some (qi m)] [] := by
  intro k
  induction k with
  | zero =>
    intro m σ1 hm hm0 hI
    have k0 : σ1 0 0 4 = σ 0 0 4 := by subst hI; unfold qCpy; rw [if_neg (by omega)]
    refine r_iload_n C dX11_keep_82 rfl ?_
    refine r_sipush C dX11_keep_83 ?_
    refine r_ic_ge 116 C dX11_keep_86 (by decide) (by omega) (by omega) (fun h86 => ?_) (fun h86 => ?_)
    · subst hI
      rw [show m = 365 by omega]
      exact hN _
    · exfalso; omega
  | succ k ih =>
    intro m σ1 hm hm0 hI
    have k0 : σ1 0 0 4 = σ 0 0 4 := by subst hI; unfold qCpy; rw [if_neg (by omega)]
    refine r_iload_n C dX11_keep_82 rfl ?_
    refine r_sipush C dX11_keep_83 ?_
    refine r_ic_ge 116 C dX11_keep_86 (by decide) (by omega) (by omega) (fun h86 => ?_) (fun h86 => ?_)
    · exfalso; omega
    · refine r_aload_n C dX11_keep_89 rfl ?_
      refine r_get_r (c := 1) C dX11_keep_90 fl_X11_17 rfl rfl rfl (by decide) rfl ?_
      refine r_aload_n C dX11_keep_93 rfl ?_
      refine r_get_i (c := 1) 4 C dX11_keep_94 fl_X11_64 rfl rfl rfl rfl (by decide) ?_
      refine r_sipush C dX11_keep_97 ?_
      refine r_imul C dX11_keep_100 ?_
      refine r_iload_n C dX11_keep_101 rfl ?_
      refine r_iadd C dX11_keep_102 ?_
      refine r_aload_n C dX11_keep_103 rfl ?_
      refine r_get_r (c := 1) C dX11_keep_104 fl_X11_9 rfl rfl rfl (by decide) rfl ?_
      refine r_iload_n C dX11_keep_107 rfl ?_
      refine r_iald (c := 1) (N := 365) C dX11_keep_108 rfl rfl (by decide) (by omega) ?_
      refine r_iast (c := 1) (N := 7300) C dX11_keep_109 rfl rfl (by decide) (by omega) ?_
      refine r_iinc C dX11_keep_110 rfl rfl rfl (by decide) ?_
      refine r_goto 82 C dX11_keep_113 (by decide) ?_
      exact ih _ _ (by omega) (by omega) (by rw [k0]; subst hI; exact cpy_step hm0 (by omega) (by unfold qCpy; rw [if_neg (by omega), Int.zero_add]))
set_option maxRecDepth 20000 in
theorem lp_X11_keep4 {G : qSt → Nat → List (Option qV) → List qV → Prop} {Ret : Option qV → qSt → Prop} (e : qR) (l : Launch) (σ : qSt) (hk : 0 ≤ σ 0 0 4 ∧ σ 0 0 4 < 20) (C : Cx (EM e) l RX11 cX11_keep 2 none 3 Ret G) (hN : ∀ y, G (qCpy σ 2 0 0 4 0 (σ 0 0 4 * 12) 12) 150 [some (qr 0 0), some (qi y)] []) : ∀ (k : Nat) (m : Int) (σ1 : qSt), m + (k : Int) = 12 → 0 ≤ m → σ1 = qCpy σ 2 0 0 4 0 (σ 0 0 4 * 12) m → G σ1 118 [some (qr 0 0), some (qi m)] [] := by
  intro k
  induction k with
  | zero =>
    intro m σ1 hm hm0 hI
    have k0 : σ1 0 0 4 = σ 0 0 4 := by subst hI; unfold qCpy; rw [if_neg (by omega)]
    refine r_iload_n C dX11_keep_118 rfl ?_
    refine r_bipush C dX11_keep_119 ?_
    refine r_ic_ge 150 C dX11_keep_121 (by decide) (by omega) (by omega) (fun h121 => ?_) (fun h121 => ?_)
    · subst hI
      rw [show m = 12 by omega]
      exact hN _
    · exfalso; omega
  | succ k ih =>
    intro m σ1 hm hm0 hI
    have k0 : σ1 0 0 4 = σ 0 0 4 := by subst hI; unfold qCpy; rw [if_neg (by omega)]
    refine r_iload_n C dX11_keep_118 rfl ?_
    refine r_bipush C dX11_keep_119 ?_
    refine r_ic_ge 150 C dX11_keep_121 (by decide) (by omega) (by omega) (fun h121 => ?_) (fun h121 => ?_)
    · exfalso; omega
    · refine r_aload_n C dX11_keep_124 rfl ?_
      refine r_get_r (c := 1) C dX11_keep_125 fl_X11_20 rfl rfl rfl (by decide) rfl ?_
      refine r_aload_n C dX11_keep_128 rfl ?_
      refine r_get_i (c := 1) 4 C dX11_keep_129 fl_X11_64 rfl rfl rfl rfl (by decide) ?_
      refine r_bipush C dX11_keep_132 ?_
      refine r_imul C dX11_keep_134 ?_
      refine r_iload_n C dX11_keep_135 rfl ?_
      refine r_iadd C dX11_keep_136 ?_
      refine r_aload_n C dX11_keep_137 rfl ?_
      refine r_get_r (c := 1) C dX11_keep_138 fl_X11_13 rfl rfl rfl (by decide) rfl ?_
      refine r_iload_n C dX11_keep_141 rfl ?_
      refine r_lald (c := 1) (N := 12) C dX11_keep_142 rfl rfl (by decide) (by omega) ?_
      refine r_last (c := 1) (N := 240) C dX11_keep_143 rfl rfl (by decide) (by omega) ?_
      refine r_iinc C dX11_keep_144 rfl rfl rfl (by decide) ?_
      refine r_goto 118 C dX11_keep_147 (by decide) ?_
      exact ih _ _ (by omega) (by omega) (by rw [k0]; subst hI; exact cpy_step hm0 (by omega) (by unfold qCpy; rw [if_neg (by omega), Int.zero_add]))
