/-! the reference's calls: undo, sheets -/
theorem rel_mundo {σ : qSt} {A : aSt} {a : aAct} {r : List aAct} (hR : RelM σ A) (hA : AOk A) (hacts : A.2.1 = a :: r) : RelM (qCpy (qCpy (qUp σ 0 0 4 (r.length : Int)) 3 0 ((r.length : Int) * 365) 1 0 0 365) 4 0 ((r.length : Int) * 12) 2 0 0 12) (undoA a A.1, r, A.2.2) := by
  obtain ⟨hb, hl, hN, hk, hP, hS, hf⟩ := hR
  have hch := hA.2.2.1
  have hlen := hA.2.1
  rw [hacts] at hch hlen hP hk
  simp only [List.length_cons] at hlen hk hP
  have e : ∀ (x : Nat) (b c : Int), x ≠ 1 → x ≠ 2 → ¬ (x = 0 ∧ c = 4) → qCpy (qCpy (qUp σ 0 0 4 (r.length : Int)) 3 0 ((r.length : Int) * 365) 1 0 0 365) 4 0 ((r.length : Int) * 12) 2 0 0 12 x b c = σ x b c := fun x b c q1 q2 q3 => by
    unfold qCpy
    rw [if_neg (by omega), if_neg (by omega), qUp_ne (by omega)]
  refine ⟨((hb.up (by omega)).cpy (by omega)).cpy (by omega), ((hl.up (by omega)).cpy (by omega)).cpy (by omega), ?_, ?_, ?_, fun s s1 s2 => ?_, ?_⟩
  · have h0 := hP 0 (undoA a A.1) (by simp [undoN])
    refine RN.cg hch.2.1 (fun j j1 j2 => ?_) (fun j j1 j2 => ?_) h0
    · show qCpy _ _ _ _ _ _ _ _ 1 0 j = σ 3 0 ((((r.length + 1 : Nat) : Int) - 1 - ((0 : Nat) : Int)) * 365 + j)
      unfold qCpy
      rw [if_neg (by omega), if_pos (by omega), qUp_ne (by omega)]
      congr 1
      push_cast
      omega
    · show qCpy _ _ _ _ _ _ _ _ 2 0 j = σ 4 0 ((((r.length + 1 : Nat) : Int) - 1 - ((0 : Nat) : Int)) * 12 + j)
      unfold qCpy
      rw [if_pos (by omega), if_neg (by omega), qUp_ne (by omega)]
      congr 1
      push_cast
      omega
  · show _ = (r.length : Int)
    unfold qCpy
    rw [if_neg (by omega), if_neg (by omega), qUp_eq]
  · intro k d hd
    have := hP (k + 1) d (by simpa [undoN] using hd)
    simp only [fun b c => e 3 b c (by omega) (by omega) (by omega), fun b c => e 4 b c (by omega) (by omega) (by omega)]
    have e1 : (((r.length + 1 : Nat) : Int) - 1 - ((k + 1 : Nat) : Int)) = ((r.length : Int) - 1 - k) := by push_cast; omega
    rw [e1] at this
    exact this
  · rw [e 5 _ _ (by omega) (by omega) (by omega), e 6 _ _ (by omega) (by omega) (by omega)]
    obtain ⟨x, y, z⟩ := hS s s1 s2
    exact ⟨x, y, fun j u v => by rw [e 7 _ _ (by omega) (by omega) (by omega)]; exact z j u v⟩
  · rw [e _ _ _ (by omega) (by omega) (by omega)]
    exact hf
theorem rel_mshs {σ τ : qSt} {A : aSt} {bi sz : Int → Int} {nu : Int → Int → Int} (hR : RelM σ A) (h : ∀ (a : Nat) (b c : Int), a ≠ 5 → a ≠ 6 → a ≠ 7 → a ≠ 15 → τ a b c = σ a b c) (hb : Bm τ) (hS : RSm τ bi sz nu) : RelM τ (shs A bi sz nu) := by
  obtain ⟨-, hl, hN, hk, hP, -, hf⟩ := hR
  have e1 : τ 1 0 = σ 1 0 := by funext j; exact h _ _ _ (by omega) (by omega) (by omega) (by omega)
  have e2 : τ 2 0 = σ 2 0 := by funext j; exact h _ _ _ (by omega) (by omega) (by omega) (by omega)
  refine ⟨hb, fun k j q => by rw [h _ _ _ (by omega) (by omega) (by omega) (by omega)]; exact hl k j q, by rw [e1, e2]; exact hN, by rw [h _ _ _ (by omega) (by omega) (by omega) (by omega)]; exact hk, fun k c hc => ?_, hS, by rw [h _ _ _ (by omega) (by omega) (by omega) (by omega)]; exact hf⟩
  have := hP k c hc
  simp only [fun b c => h 3 b c (by omega) (by omega) (by omega) (by omega), fun b c => h 4 b c (by omega) (by omega) (by omega) (by omega)]
  exact this
theorem sh_m {σ : qSt} {A : aSt} (hR : RelM σ A) (hA : AOk A) {s : Int} (hs : 0 ≤ s ∧ s < 4) : σ 5 0 s = biA A s ∧ σ 6 0 s = szA A s ∧ 0 ≤ szA A s ∧ szA A s ≤ 30 ∧ (biA A s = 0 ∨ biA A s = 8 ∨ biA A s = 16 ∨ biA A s = 32) := by
  obtain ⟨r1, r2, r3⟩ := hR.2.2.2.2.2.1 s hs.1 hs.2
  obtain ⟨g1, g2, g3, g4⟩ := hA.2.2.2 s hs.1 hs.2
  exact ⟨r1, r2, g2, g3, g1⟩
theorem rel_msheet {σ : qSt} {A : aSt} {s b v : Int} (hR : RelM σ A) (hs : 0 ≤ s ∧ s < 4) (hb : -2000000 ≤ b ∧ b ≤ 2000000) (hv : 0 ≤ v ∧ v ≤ 30) : RelM (qFil (qUp (qUp σ 5 0 s b) 6 0 s v) 7 0 (30 * s) (30 * s + 30) 0) (shs A (updF (biA A) s b) (updF (szA A) s v) (fun t => if t = s then fun _ => 0 else nuA A t)) := by
  refine rel_mshs hR (fun a x c q1 q2 q3 q4 => ?_) (fun a x c q1 q2 => ?_) (fun t t1 t2 => ?_)
  · unfold qFil
    rw [if_neg (by omega), qUp_ne (by omega), qUp_ne (by omega)]
  · unfold qFil
    rw [if_neg (by omega)]
    exact ((hR.1.up hb).up (by omega)) a x c q1 q2
  · obtain ⟨r1, r2, r3⟩ := hR.2.2.2.2.2.1 t t1 t2
    refine ⟨?_, ?_, fun j j1 j2 => ?_⟩
    · unfold qFil updF
      rw [if_neg (by omega)]
      by_cases e : t = s
      · rw [if_pos e, e, qUp_ne (by omega), qUp_eq]
      · rw [if_neg e, qUp_ne (by omega), qUp_ne (by omega)]; exact r1
    · unfold qFil updF
      rw [if_neg (by omega)]
      by_cases e : t = s
      · rw [if_pos e, e, qUp_eq]
      · rw [if_neg e, qUp_ne (by omega), qUp_ne (by omega)]; exact r2
    · unfold qFil
      by_cases e : t = s
      · rw [if_pos (by omega), if_pos e]; rfl
      · rw [if_neg (by omega), qUp_ne (by omega), qUp_ne (by omega), if_neg e]
        exact r3 j j1 j2
theorem rel_mput {σ : qSt} {A : aSt} {s i v x : Int} (hR : RelM σ A) (hi : 0 ≤ i ∧ i < 30) (hx : x % 4 = v % 4) : RelM (qUp σ 7 0 (30 * s + i) x) (shs A (biA A) (szA A) (fun t => if t = s then updF (nuA A t) i (v % 4) else nuA A t)) := by
  refine rel_mshs hR (fun a x c q1 q2 q3 q4 => qUp_ne (by omega)) (hR.1.ul (by omega)) (fun t t1 t2 => ?_)
  obtain ⟨r1, r2, r3⟩ := hR.2.2.2.2.2.1 t t1 t2
  refine ⟨by rw [qUp_ne (by omega)]; exact r1, by rw [qUp_ne (by omega)]; exact r2, fun j j1 j2 => ?_⟩
  by_cases e : t = s ∧ j = i
  · obtain ⟨rfl, rfl⟩ := e
    rw [qUp_eq]
    simp [updF, hx]
  · rw [qUp_ne (by omega), r3 j j1 j2]
    by_cases e2 : t = s
    · have : ¬ j = i := fun q => e ⟨e2, q⟩
      simp [updF, e2, this]
    · simp [e2]
theorem rel_mcopy {σ : qSt} {A : aSt} {s f t g n : Int} (hR : RelM σ A) (hs : 0 ≤ s ∧ s < 4) (ht : 0 ≤ t ∧ t < 4) (h1 : 0 ≤ f ∧ f + n ≤ 30) (h2 : 0 ≤ g ∧ g + n ≤ 30) : RelM (qCpy (qCpy σ 7 0 (30 * s + f) 15 0 0 n) 15 0 0 7 0 (30 * t + g) n) (shs A (biA A) (szA A) (fun u => if u = t then fun j => if g ≤ j ∧ j < g + n then nuA A s (f + (j - g)) else nuA A t j else nuA A u)) := by
  refine rel_mshs hR (fun a x c q1 q2 q3 q4 => by unfold qCpy; rw [if_neg (by omega), if_neg (by omega)]) ((hR.1.cpy (by omega)).cpy (by omega)) (fun u t1 t2 => ?_)
  obtain ⟨r1, r2, r3⟩ := hR.2.2.2.2.2.1 u t1 t2
  refine ⟨by unfold qCpy; rw [if_neg (by omega), if_neg (by omega)]; exact r1, by unfold qCpy; rw [if_neg (by omega), if_neg (by omega)]; exact r2, fun j j1 j2 => ?_⟩
  unfold qCpy
  by_cases e : u = t
  · subst e
    by_cases e2 : g ≤ j ∧ j < g + n
    · have := (hR.2.2.2.2.2.1 s hs.1 hs.2).2.2 (f + (j - g)) (by omega) (by omega)
      rw [if_pos (by omega), if_pos (by omega), if_pos rfl, if_pos e2]
      refine Eq.trans ?_ this
      congr 2
      omega
    · rw [if_neg (by omega), if_neg (by omega), r3 j j1 j2, if_pos rfl, if_neg e2]
  · rw [if_neg (by omega), if_neg (by omega), r3 j j1 j2, if_neg e]
theorem z_shlA {a b : Int} (hb : 0 ≤ b ∧ b < 32) : Int32.ofInt a <<< (Int32.ofInt b &&& 31) = Int32.ofInt (a * 2 ^ b.toNat) := by
  have e : Int32.ofInt a = Int32.ofInt (((a % 4294967296).toNat : Nat) : Int) := by
    apply Int32.toBitVec_inj.mp
    apply BitVec.eq_of_toNat_eq
    rw [z_tn, z_tn]
    omega
  rw [e, z_shl hb]
  apply Int32.toBitVec_inj.mp
  apply BitVec.eq_of_toNat_eq
  rw [z_tn, z_tn, Int.natCast_mul, Int.toNat_of_nonneg (by omega)]
  have e2 : ((2 ^ b.toNat : Nat) : Int) = (2 : Int) ^ b.toNat := by norm_cast
  rw [e2, Int.mul_emod, Int.emod_emod_of_dvd _ (Int.dvd_refl _), ← Int.mul_emod]
theorem z_sx (v sh : Int) (h : sh = 0 ∨ sh = 16 ∨ sh = 24) : ∃ w1 w2 : Int, Int32.ofInt v <<< (Int32.ofInt sh &&& 31) = Int32.ofInt w1 ∧ Int32.ofInt w1 >>> (Int32.ofInt sh &&& 31) = Int32.ofInt w2 ∧ w2 % 4 = v % 4 := by
  refine ⟨Int.bmod (v * 2 ^ sh.toNat) 4294967296, Int.bmod (v * 2 ^ sh.toNat) 4294967296 / 2 ^ sh.toNat, ?_, z_shr ?_ (by omega), ?_⟩
  · rw [z_shlA (by omega)]
    apply Int32.toBitVec_inj.mp
    apply BitVec.eq_of_toNat_eq
    rw [z_tn, z_tn]
    congr 1
    have := Int.bmod_emod (x := v * 2 ^ sh.toNat) (m := 4294967296)
    exact this.symm
  · have h1 := Int.le_bmod (x := v * 2 ^ sh.toNat) (m := 4294967296) (by decide)
    have h2 := Int.bmod_lt (x := v * 2 ^ sh.toNat) (m := 4294967296) (by decide)
    constructor <;> omega
  · have h3 : ∃ t : Int, Int.bmod (v * 2 ^ sh.toNat) 4294967296 = v * 2 ^ sh.toNat + 4294967296 * t := by
      have := Int.bmod_emod (x := v * 2 ^ sh.toNat) (m := 4294967296)
      refine ⟨(Int.bmod (v * 2 ^ sh.toNat) 4294967296 - v * 2 ^ sh.toNat) / 4294967296, ?_⟩
      omega
    obtain ⟨t, ht⟩ := h3
    rw [ht]
    rcases h with rfl | rfl | rfl
    · simp; omega
    · show (v * 65536 + 4294967296 * t) / 65536 % 4 = v % 4
      omega
    · show (v * 16777216 + 4294967296 * t) / 16777216 % 4 = v % 4
      omega
set_option maxRecDepth 20000 in
theorem m_undo (e : qR) (l : Launch) (σ : qSt) (A : aSt) (hR : RelM σ A) (hA : AOk A)   : CM (EM e) l yX11_undo cX11_undo 2 (some .int) 20 [qr 0 0] σ (Ri fun z σ' => z = (oUndo A).1 ∧ RelM σ' (oUndo A).2) := by
  refine CM.mk tM_ok (by decide +kernel) (Nat.le_of_ble_eq_true rfl) (fun G C => ?_)
  show G σ 0 [some (qr 0 0), none] []
  obtain ⟨hb, e0, n0, m0, e1w, n1, m1, e2t, n2, m2, e3l, n3, m3, hk0, hk20⟩ := mF hR hA
  refine r_aload_n C dX11_undo_0 rfl ?_
  refine r_get_i (c := 1) 4 C dX11_undo_1 fl_X11_64 rfl rfl rfl rfl (by decide) ?_
  have b1 := hb 0 0 4 (by omega) (by omega)
  refine r_if_ne 14 C dX11_undo_4 (by decide) (by omega) (fun h4 => ?_) (fun h4 => ?_)
  · obtain ⟨a, r, hacts⟩ : ∃ a r, A.2.1 = a :: r := by
      cases hq : A.2.1 with
      | nil => exfalso; have := hR.2.2.2.1; rw [hq] at this; simp at this; omega
      | cons a r => exact ⟨a, r, rfl⟩
    have hrl : σ 0 0 4 - 1 = (r.length : Int) := by have := hR.2.2.2.1; rw [hacts] at this; simp at this; omega
    refine r_aload_n C dX11_undo_14 rfl ?_
    refine r_dup C dX11_undo_15 ?_
    refine r_get_i (c := 1) 4 C dX11_undo_16 fl_X11_64 rfl rfl rfl rfl (by decide) ?_
    have b16 := hb 0 0 4 (by omega) (by omega)
    refine r_iconst C dX11_undo_19 ?_
    refine r_isub C dX11_undo_20 ?_
    refine r_put_i (c := 1) 4 C dX11_undo_21 fw_X11_64 rfl rfl rfl rfl (by decide) rfl rfl ?_
    refine r_iconst C dX11_undo_24 ?_
    refine r_istore_n C dX11_undo_25 rfl rfl (by decide) ?_
    obtain ⟨ρ, hρ⟩ : ∃ s, s = qUp σ 0 0 4 (σ 0 0 4 - 1) := ⟨_, rfl⟩
    rw [← hρ]
    have hr4 : ρ 0 0 4 = σ 0 0 4 - 1 := by rw [hρ, qUp_eq]
    refine lp_X11_undo1 e l ρ (by omega) C (fun y => ?_) 365 0 _ (by omega) (by omega) (cpy_0 _ _ _ _ _ _ _).symm
    obtain ⟨σ2, hσ2⟩ : ∃ s, s = qCpy ρ 3 0 (ρ 0 0 4 * 365) 1 0 0 365 := ⟨_, rfl⟩
    rw [← hσ2]
    have kσ2 : σ2 0 0 4 = ρ 0 0 4 := by rw [hσ2]; unfold qCpy; rw [if_neg (by omega)]
    refine r_iconst C dX11_undo_60 ?_
    refine r_istore_n C dX11_undo_61 rfl rfl (by decide) ?_
    refine lp_X11_undo2 e l σ2 (by omega) C (fun y => ?_) 12 0 _ (by omega) (by omega) (cpy_0 _ _ _ _ _ _ _).symm
    obtain ⟨σ3, hσ3⟩ : ∃ s, s = qCpy σ2 4 0 (σ2 0 0 4 * 12) 2 0 0 12 := ⟨_, rfl⟩
    rw [← hσ3]
    have kσ3 : σ3 0 0 4 = σ2 0 0 4 := by rw [hσ3]; unfold qCpy; rw [if_neg (by omega)]
    refine r_aload_n C dX11_undo_94 rfl ?_
    refine r_get_i (c := 1) 4 C dX11_undo_95 fl_X11_64 rfl rfl rfl rfl (by decide) ?_
    refine r_iret C dX11_undo_98 ?_
    have e1 : oUndo A = ((r.length : Int), undoA a A.1, r, A.2.2) := by unfold oUndo; rw [hacts]
    have hf := rel_mundo hR hA hacts
    rw [← hrl] at hf
    exact ⟨_, rfl, by rw [e1]; show σ3 0 0 4 = (r.length : Int); omega, by rw [e1, hσ3, kσ2, hr4, hσ2, hr4, hρ]; exact hf⟩
  · refine r_aload_n C dX11_undo_7 rfl ?_
    refine r_ldc C dX11_undo_8 kc_X11_67 ?_
    refine r_cvi (c := 1) C dX11_undo_10 mv_X11_68 (c_X11_finding e l _ _) (by decide) rfl rfl rfl rfl (by decide) rfl rfl (Nat.le_of_ble_eq_true rfl) (fun z10 σ10 h10 => ?_)
    obtain ⟨rfl, rfl⟩ := h10
    refine r_iret C dX11_undo_13 ?_
    have e1 : oUndo A = fnd A (-100006) := by
      unfold oUndo
      cases hq : A.2.1 with
      | nil => rfl
      | cons a r => exfalso; have := hR.2.2.2.1; rw [hq] at this; simp at this; omega
    exact ⟨_, rfl, by rw [e1]; rfl, by rw [e1]; exact rel_mfnd hR _⟩
set_option maxRecDepth 20000 in
theorem lp_X11_sheet {G : qSt → Nat → List (Option qV) → List qV → Prop} {Ret : Option qV → qSt → Prop} (e : qR) (l : Launch) (σ : qSt) (s b n : Int) (hs : 0 ≤ s ∧ s < 4) (C : Cx (EM e) l RX11 cX11_sheet 5 (some .int) 20 Ret G) (hN : ∀ y, G (qFil σ 7 0 (30 * s) (30 * s + 30) 0) 111 [some (qr 0 0), some (qi s), some (qi b), some (qi n), some (qi y)] []) : ∀ (k : Nat) (m : Int) (σ1 : qSt), m + (k : Int) = 30 → 0 ≤ m → σ1 = qFil σ 7 0 (30 * s) (30 * s + m) 0 → G σ1 85 [some (qr 0 0), some (qi s), some (qi b), some (qi n), some (qi m)] [] := by
  intro k
  induction k with
  | zero =>
    intro m σ1 hm hm0 hI
    refine r_iload C dX11_sheet_85 rfl ?_
    refine r_bipush C dX11_sheet_87 ?_
    refine r_ic_ge 111 C dX11_sheet_89 (by decide) (by omega) (by omega) (fun h89 => ?_) (fun h89 => ?_)
    · subst hI
      rw [show m = 30 by omega]
      exact hN _
    · exfalso; omega
  | succ k ih =>
    intro m σ1 hm hm0 hI
    refine r_iload C dX11_sheet_85 rfl ?_
    refine r_bipush C dX11_sheet_87 ?_
    refine r_ic_ge 111 C dX11_sheet_89 (by decide) (by omega) (by omega) (fun h89 => ?_) (fun h89 => ?_)
    · exfalso; omega
    · refine r_aload_n C dX11_sheet_92 rfl ?_
      refine r_get_r (c := 1) C dX11_sheet_93 fl_X11_29 rfl rfl rfl (by decide) rfl ?_
      refine r_bipush C dX11_sheet_96 ?_
      refine r_iload_n C dX11_sheet_98 rfl ?_
      refine r_imul C dX11_sheet_99 ?_
      refine r_iload C dX11_sheet_100 rfl ?_
      refine r_iadd C dX11_sheet_102 ?_
      refine r_iconst C dX11_sheet_103 ?_
      refine r_iast (c := 1) (N := 120) C dX11_sheet_104 rfl rfl (by decide) (by omega) ?_
      refine r_iinc C dX11_sheet_105 rfl rfl rfl (by decide) ?_
      refine r_goto 85 C dX11_sheet_108 (by decide) ?_
      exact ih _ _ (by omega) (by omega) (by subst hI; rw [qFil_s _ _ _ _ _ _ (by omega), Int.add_assoc])
set_option maxRecDepth 20000 in
theorem m_sheet (e : qR) (l : Launch) (σ : qSt) (s b n : Int) (A : aSt) (hR : RelM σ A) (hA : AOk A) (h_s : InI s) (h_b : InI b) (h_n : InI n)  : CM (EM e) l yX11_sheet cX11_sheet 5 (some .int) 20 [qr 0 0, qi s, qi b, qi n] σ (Ri fun z σ' => z = (oSheet s b n A).1 ∧ RelM σ' (oSheet s b n A).2) := by
  refine CM.mk tM_ok (by decide +kernel) (Nat.le_of_ble_eq_true rfl) (fun G C => ?_)
  show G σ 0 [some (qr 0 0), some (qi s), some (qi b), some (qi n), none] []
  obtain ⟨hb, e0, n0, m0, e1w, n1, m1, e2t, n2, m2, e3l, n3, m3, hk0, hk20⟩ := mF hR hA
  refine r_iload_n C dX11_sheet_0 rfl ?_
  refine r_csi C dX11_sheet_1 ms_X11_184 (c_X11_isSheet e l _ _ (by omega)) (by decide) rfl rfl (Nat.le_of_ble_eq_true rfl) (fun z1 σ1 h1 => ?_)
  obtain ⟨rfl, rfl⟩ := h1
  refine r_ifb_eq 29 C dX11_sheet_4 (by decide) (fun h4 => ?_) (fun h4 => ?_)
  · refine r_aload_n C dX11_sheet_29 rfl ?_
    refine r_ldc C dX11_sheet_30 kc_X11_72 ?_
    refine r_cvi (c := 1) C dX11_sheet_32 mv_X11_68 (c_X11_finding e l _ _) (by decide) rfl rfl rfl rfl (by decide) rfl rfl (Nat.le_of_ble_eq_true rfl) (fun z32 σ32 h32 => ?_)
    obtain ⟨rfl, rfl⟩ := h32
    refine r_iret C dX11_sheet_35 ?_
    have e1 : oSheet s b n A = fnd A (-100001) := by unfold oSheet; repeat (first | rw [if_pos (by omega)] | rw [if_neg (by omega)])
    exact ⟨_, rfl, by rw [e1]; rfl, by rw [e1]; exact rel_mfnd hR _⟩
  · refine r_iload_n C dX11_sheet_7 rfl ?_
    refine r_if_eq 36 C dX11_sheet_8 (by decide) (by omega) (fun h8 => ?_) (fun h8 => ?_)
    · refine r_iload_n C dX11_sheet_36 rfl ?_
      refine r_if_ge 47 C dX11_sheet_37 (by decide) (by omega) (fun h37 => ?_) (fun h37 => ?_)
      · refine r_iload_n C dX11_sheet_47 rfl ?_
        refine r_bipush C dX11_sheet_48 ?_
        refine r_ic_le 60 C dX11_sheet_50 (by decide) (by omega) (by omega) (fun h50 => ?_) (fun h50 => ?_)
        · refine r_aload_n C dX11_sheet_60 rfl ?_
          refine r_get_r (c := 1) C dX11_sheet_61 fl_X11_23 rfl rfl rfl (by decide) rfl ?_
          refine r_iload_n C dX11_sheet_64 rfl ?_
          refine r_iload_n C dX11_sheet_65 rfl ?_
          refine r_iast (c := 1) (N := 4) C dX11_sheet_66 rfl rfl (by decide) (by omega) ?_
          refine r_aload_n C dX11_sheet_67 rfl ?_
          refine r_get_r (c := 1) C dX11_sheet_68 fl_X11_26 rfl rfl rfl (by decide) rfl ?_
          refine r_iload_n C dX11_sheet_71 rfl ?_
          refine r_iload_n C dX11_sheet_72 rfl ?_
          refine r_if_ne 80 C dX11_sheet_73 (by decide) (by omega) (fun h73 => ?_) (fun h73 => ?_)
          · refine r_iload_n C dX11_sheet_80 rfl ?_
            refine r_iast (c := 1) (N := 4) C dX11_sheet_81 rfl rfl (by decide) (by omega) ?_
            refine r_iconst C dX11_sheet_82 ?_
            refine r_istore C dX11_sheet_83 rfl rfl (by decide) ?_
            have hvv : (if b = 0 then 0 else n) = n := by first | (exfalso; omega) | (rw [if_pos (by omega)]) | (rw [if_neg (by omega)])
            refine lp_X11_sheet e l (qUp (qUp σ 5 0 s b) 6 0 s n) s _ _ (by omega) C (fun y => ?_) 30 0 _ (by omega) (by omega) (by rw [Int.add_zero, qFil_0])
            obtain ⟨σ2, hσ2⟩ : ∃ s2, s2 = qFil (qUp (qUp σ 5 0 s b) 6 0 s n) 7 0 (30 * s) (30 * s + 30) 0 := ⟨_, rfl⟩
            rw [← hσ2]
            have k6 : σ2 6 0 s = n := by rw [hσ2]; unfold qFil; rw [if_neg (by omega), qUp_eq]
            have e1 : oSheet s b n A = (if b = 0 then 0 else n, shs A (updF (biA A) s b) (updF (szA A) s (if b = 0 then 0 else n)) (fun t => if t = s then fun _ => 0 else nuA A t)) := by unfold oSheet; rw [if_neg (by omega), if_neg (by omega), if_neg (by omega)]
            rw [hvv] at e1
            have rr := rel_msheet (A := A) (v := n) hR (s := s) (b := b) (by omega) (by omega) (by omega)
            rw [← hσ2] at rr
            refine r_aload_n C dX11_sheet_111 rfl ?_
            refine r_get_r (c := 1) C dX11_sheet_112 fl_X11_26 rfl rfl rfl (by decide) rfl ?_
            refine r_iload_n C dX11_sheet_115 rfl ?_
            refine r_iald (c := 1) (N := 4) C dX11_sheet_116 rfl rfl (by decide) (by omega) ?_
            refine r_iret C dX11_sheet_117 ?_
            exact ⟨_, rfl, by rw [e1]; exact k6, by rw [e1]; exact rr⟩
          · refine r_iconst C dX11_sheet_76 ?_
            refine r_goto 81 C dX11_sheet_77 (by decide) ?_
            refine r_iast (c := 1) (N := 4) C dX11_sheet_81 rfl rfl (by decide) (by omega) ?_
            refine r_iconst C dX11_sheet_82 ?_
            refine r_istore C dX11_sheet_83 rfl rfl (by decide) ?_
            have hvv : (if b = 0 then 0 else n) = 0 := by first | (exfalso; omega) | (rw [if_pos (by omega)]) | (rw [if_neg (by omega)])
            refine lp_X11_sheet e l (qUp (qUp σ 5 0 s b) 6 0 s 0) s _ _ (by omega) C (fun y => ?_) 30 0 _ (by omega) (by omega) (by rw [Int.add_zero, qFil_0])
            obtain ⟨σ2, hσ2⟩ : ∃ s2, s2 = qFil (qUp (qUp σ 5 0 s b) 6 0 s 0) 7 0 (30 * s) (30 * s + 30) 0 := ⟨_, rfl⟩
            rw [← hσ2]
            have k6 : σ2 6 0 s = 0 := by rw [hσ2]; unfold qFil; rw [if_neg (by omega), qUp_eq]
            have e1 : oSheet s b n A = (if b = 0 then 0 else n, shs A (updF (biA A) s b) (updF (szA A) s (if b = 0 then 0 else n)) (fun t => if t = s then fun _ => 0 else nuA A t)) := by unfold oSheet; rw [if_neg (by omega), if_neg (by omega), if_neg (by omega)]
            rw [hvv] at e1
            have rr := rel_msheet (A := A) (v := 0) hR (s := s) (b := b) (by omega) (by omega) (by omega)
            rw [← hσ2] at rr
            refine r_aload_n C dX11_sheet_111 rfl ?_
            refine r_get_r (c := 1) C dX11_sheet_112 fl_X11_26 rfl rfl rfl (by decide) rfl ?_
            refine r_iload_n C dX11_sheet_115 rfl ?_
            refine r_iald (c := 1) (N := 4) C dX11_sheet_116 rfl rfl (by decide) (by omega) ?_
            refine r_iret C dX11_sheet_117 ?_
            exact ⟨_, rfl, by rw [e1]; exact k6, by rw [e1]; exact rr⟩
        · refine r_aload_n C dX11_sheet_53 rfl ?_
          refine r_ldc C dX11_sheet_54 kc_X11_72 ?_
          refine r_cvi (c := 1) C dX11_sheet_56 mv_X11_68 (c_X11_finding e l _ _) (by decide) rfl rfl rfl rfl (by decide) rfl rfl (Nat.le_of_ble_eq_true rfl) (fun z56 σ56 h56 => ?_)
          obtain ⟨rfl, rfl⟩ := h56
          refine r_iret C dX11_sheet_59 ?_
          have e1 : oSheet s b n A = fnd A (-100001) := by unfold oSheet; repeat (first | rw [if_pos (by omega)] | rw [if_neg (by omega)])
          exact ⟨_, rfl, by rw [e1]; rfl, by rw [e1]; exact rel_mfnd hR _⟩
      · refine r_aload_n C dX11_sheet_40 rfl ?_
        refine r_ldc C dX11_sheet_41 kc_X11_92 ?_
        refine r_cvi (c := 1) C dX11_sheet_43 mv_X11_68 (c_X11_finding e l _ _) (by decide) rfl rfl rfl rfl (by decide) rfl rfl (Nat.le_of_ble_eq_true rfl) (fun z43 σ43 h43 => ?_)
        obtain ⟨rfl, rfl⟩ := h43
        refine r_iret C dX11_sheet_46 ?_
        have e1 : oSheet s b n A = fnd A (-100003) := by unfold oSheet; repeat (first | rw [if_pos (by omega)] | rw [if_neg (by omega)])
        exact ⟨_, rfl, by rw [e1]; rfl, by rw [e1]; exact rel_mfnd hR _⟩
    · refine r_iload_n C dX11_sheet_11 rfl ?_
      refine r_bipush C dX11_sheet_12 ?_
      refine r_ic_eq 36 C dX11_sheet_14 (by decide) (by omega) (by omega) (fun h14 => ?_) (fun h14 => ?_)
      · refine r_iload_n C dX11_sheet_36 rfl ?_
        refine r_if_ge 47 C dX11_sheet_37 (by decide) (by omega) (fun h37 => ?_) (fun h37 => ?_)
        · refine r_iload_n C dX11_sheet_47 rfl ?_
          refine r_bipush C dX11_sheet_48 ?_
          refine r_ic_le 60 C dX11_sheet_50 (by decide) (by omega) (by omega) (fun h50 => ?_) (fun h50 => ?_)
          · refine r_aload_n C dX11_sheet_60 rfl ?_
            refine r_get_r (c := 1) C dX11_sheet_61 fl_X11_23 rfl rfl rfl (by decide) rfl ?_
            refine r_iload_n C dX11_sheet_64 rfl ?_
            refine r_iload_n C dX11_sheet_65 rfl ?_
            refine r_iast (c := 1) (N := 4) C dX11_sheet_66 rfl rfl (by decide) (by omega) ?_
            refine r_aload_n C dX11_sheet_67 rfl ?_
            refine r_get_r (c := 1) C dX11_sheet_68 fl_X11_26 rfl rfl rfl (by decide) rfl ?_
            refine r_iload_n C dX11_sheet_71 rfl ?_
            refine r_iload_n C dX11_sheet_72 rfl ?_
            refine r_if_ne 80 C dX11_sheet_73 (by decide) (by omega) (fun h73 => ?_) (fun h73 => ?_)
            · refine r_iload_n C dX11_sheet_80 rfl ?_
              refine r_iast (c := 1) (N := 4) C dX11_sheet_81 rfl rfl (by decide) (by omega) ?_
              refine r_iconst C dX11_sheet_82 ?_
              refine r_istore C dX11_sheet_83 rfl rfl (by decide) ?_
              have hvv : (if b = 0 then 0 else n) = n := by first | (exfalso; omega) | (rw [if_pos (by omega)]) | (rw [if_neg (by omega)])
              refine lp_X11_sheet e l (qUp (qUp σ 5 0 s b) 6 0 s n) s _ _ (by omega) C (fun y => ?_) 30 0 _ (by omega) (by omega) (by rw [Int.add_zero, qFil_0])
              obtain ⟨σ2, hσ2⟩ : ∃ s2, s2 = qFil (qUp (qUp σ 5 0 s b) 6 0 s n) 7 0 (30 * s) (30 * s + 30) 0 := ⟨_, rfl⟩
              rw [← hσ2]
              have k6 : σ2 6 0 s = n := by rw [hσ2]; unfold qFil; rw [if_neg (by omega), qUp_eq]
              have e1 : oSheet s b n A = (if b = 0 then 0 else n, shs A (updF (biA A) s b) (updF (szA A) s (if b = 0 then 0 else n)) (fun t => if t = s then fun _ => 0 else nuA A t)) := by unfold oSheet; rw [if_neg (by omega), if_neg (by omega), if_neg (by omega)]
              rw [hvv] at e1
              have rr := rel_msheet (A := A) (v := n) hR (s := s) (b := b) (by omega) (by omega) (by omega)
              rw [← hσ2] at rr
              refine r_aload_n C dX11_sheet_111 rfl ?_
              refine r_get_r (c := 1) C dX11_sheet_112 fl_X11_26 rfl rfl rfl (by decide) rfl ?_
              refine r_iload_n C dX11_sheet_115 rfl ?_
              refine r_iald (c := 1) (N := 4) C dX11_sheet_116 rfl rfl (by decide) (by omega) ?_
              refine r_iret C dX11_sheet_117 ?_
              exact ⟨_, rfl, by rw [e1]; exact k6, by rw [e1]; exact rr⟩
            · refine r_iconst C dX11_sheet_76 ?_
              refine r_goto 81 C dX11_sheet_77 (by decide) ?_
              refine r_iast (c := 1) (N := 4) C dX11_sheet_81 rfl rfl (by decide) (by omega) ?_
              refine r_iconst C dX11_sheet_82 ?_
              refine r_istore C dX11_sheet_83 rfl rfl (by decide) ?_
              have hvv : (if b = 0 then 0 else n) = 0 := by first | (exfalso; omega) | (rw [if_pos (by omega)]) | (rw [if_neg (by omega)])
              refine lp_X11_sheet e l (qUp (qUp σ 5 0 s b) 6 0 s 0) s _ _ (by omega) C (fun y => ?_) 30 0 _ (by omega) (by omega) (by rw [Int.add_zero, qFil_0])
              obtain ⟨σ2, hσ2⟩ : ∃ s2, s2 = qFil (qUp (qUp σ 5 0 s b) 6 0 s 0) 7 0 (30 * s) (30 * s + 30) 0 := ⟨_, rfl⟩
              rw [← hσ2]
              have k6 : σ2 6 0 s = 0 := by rw [hσ2]; unfold qFil; rw [if_neg (by omega), qUp_eq]
              have e1 : oSheet s b n A = (if b = 0 then 0 else n, shs A (updF (biA A) s b) (updF (szA A) s (if b = 0 then 0 else n)) (fun t => if t = s then fun _ => 0 else nuA A t)) := by unfold oSheet; rw [if_neg (by omega), if_neg (by omega), if_neg (by omega)]
              rw [hvv] at e1
              have rr := rel_msheet (A := A) (v := 0) hR (s := s) (b := b) (by omega) (by omega) (by omega)
              rw [← hσ2] at rr
              refine r_aload_n C dX11_sheet_111 rfl ?_
              refine r_get_r (c := 1) C dX11_sheet_112 fl_X11_26 rfl rfl rfl (by decide) rfl ?_
              refine r_iload_n C dX11_sheet_115 rfl ?_
              refine r_iald (c := 1) (N := 4) C dX11_sheet_116 rfl rfl (by decide) (by omega) ?_
              refine r_iret C dX11_sheet_117 ?_
              exact ⟨_, rfl, by rw [e1]; exact k6, by rw [e1]; exact rr⟩
          · refine r_aload_n C dX11_sheet_53 rfl ?_
            refine r_ldc C dX11_sheet_54 kc_X11_72 ?_
            refine r_cvi (c := 1) C dX11_sheet_56 mv_X11_68 (c_X11_finding e l _ _) (by decide) rfl rfl rfl rfl (by decide) rfl rfl (Nat.le_of_ble_eq_true rfl) (fun z56 σ56 h56 => ?_)
            obtain ⟨rfl, rfl⟩ := h56
            refine r_iret C dX11_sheet_59 ?_
            have e1 : oSheet s b n A = fnd A (-100001) := by unfold oSheet; repeat (first | rw [if_pos (by omega)] | rw [if_neg (by omega)])
            exact ⟨_, rfl, by rw [e1]; rfl, by rw [e1]; exact rel_mfnd hR _⟩
        · refine r_aload_n C dX11_sheet_40 rfl ?_
          refine r_ldc C dX11_sheet_41 kc_X11_92 ?_
          refine r_cvi (c := 1) C dX11_sheet_43 mv_X11_68 (c_X11_finding e l _ _) (by decide) rfl rfl rfl rfl (by decide) rfl rfl (Nat.le_of_ble_eq_true rfl) (fun z43 σ43 h43 => ?_)
          obtain ⟨rfl, rfl⟩ := h43
          refine r_iret C dX11_sheet_46 ?_
          have e1 : oSheet s b n A = fnd A (-100003) := by unfold oSheet; repeat (first | rw [if_pos (by omega)] | rw [if_neg (by omega)])
          exact ⟨_, rfl, by rw [e1]; rfl, by rw [e1]; exact rel_mfnd hR _⟩
      · refine r_iload_n C dX11_sheet_17 rfl ?_
        refine r_bipush C dX11_sheet_18 ?_
        refine r_ic_eq 36 C dX11_sheet_20 (by decide) (by omega) (by omega) (fun h20 => ?_) (fun h20 => ?_)
        · refine r_iload_n C dX11_sheet_36 rfl ?_
          refine r_if_ge 47 C dX11_sheet_37 (by decide) (by omega) (fun h37 => ?_) (fun h37 => ?_)
          · refine r_iload_n C dX11_sheet_47 rfl ?_
            refine r_bipush C dX11_sheet_48 ?_
            refine r_ic_le 60 C dX11_sheet_50 (by decide) (by omega) (by omega) (fun h50 => ?_) (fun h50 => ?_)
            · refine r_aload_n C dX11_sheet_60 rfl ?_
              refine r_get_r (c := 1) C dX11_sheet_61 fl_X11_23 rfl rfl rfl (by decide) rfl ?_
              refine r_iload_n C dX11_sheet_64 rfl ?_
              refine r_iload_n C dX11_sheet_65 rfl ?_
              refine r_iast (c := 1) (N := 4) C dX11_sheet_66 rfl rfl (by decide) (by omega) ?_
              refine r_aload_n C dX11_sheet_67 rfl ?_
              refine r_get_r (c := 1) C dX11_sheet_68 fl_X11_26 rfl rfl rfl (by decide) rfl ?_
              refine r_iload_n C dX11_sheet_71 rfl ?_
              refine r_iload_n C dX11_sheet_72 rfl ?_
              refine r_if_ne 80 C dX11_sheet_73 (by decide) (by omega) (fun h73 => ?_) (fun h73 => ?_)
              · refine r_iload_n C dX11_sheet_80 rfl ?_
                refine r_iast (c := 1) (N := 4) C dX11_sheet_81 rfl rfl (by decide) (by omega) ?_
                refine r_iconst C dX11_sheet_82 ?_
                refine r_istore C dX11_sheet_83 rfl rfl (by decide) ?_
                have hvv : (if b = 0 then 0 else n) = n := by first | (exfalso; omega) | (rw [if_pos (by omega)]) | (rw [if_neg (by omega)])
                refine lp_X11_sheet e l (qUp (qUp σ 5 0 s b) 6 0 s n) s _ _ (by omega) C (fun y => ?_) 30 0 _ (by omega) (by omega) (by rw [Int.add_zero, qFil_0])
                obtain ⟨σ2, hσ2⟩ : ∃ s2, s2 = qFil (qUp (qUp σ 5 0 s b) 6 0 s n) 7 0 (30 * s) (30 * s + 30) 0 := ⟨_, rfl⟩
                rw [← hσ2]
                have k6 : σ2 6 0 s = n := by rw [hσ2]; unfold qFil; rw [if_neg (by omega), qUp_eq]
                have e1 : oSheet s b n A = (if b = 0 then 0 else n, shs A (updF (biA A) s b) (updF (szA A) s (if b = 0 then 0 else n)) (fun t => if t = s then fun _ => 0 else nuA A t)) := by unfold oSheet; rw [if_neg (by omega), if_neg (by omega), if_neg (by omega)]
                rw [hvv] at e1
                have rr := rel_msheet (A := A) (v := n) hR (s := s) (b := b) (by omega) (by omega) (by omega)
                rw [← hσ2] at rr
                refine r_aload_n C dX11_sheet_111 rfl ?_
                refine r_get_r (c := 1) C dX11_sheet_112 fl_X11_26 rfl rfl rfl (by decide) rfl ?_
                refine r_iload_n C dX11_sheet_115 rfl ?_
                refine r_iald (c := 1) (N := 4) C dX11_sheet_116 rfl rfl (by decide) (by omega) ?_
                refine r_iret C dX11_sheet_117 ?_
                exact ⟨_, rfl, by rw [e1]; exact k6, by rw [e1]; exact rr⟩
              · refine r_iconst C dX11_sheet_76 ?_
                refine r_goto 81 C dX11_sheet_77 (by decide) ?_
                refine r_iast (c := 1) (N := 4) C dX11_sheet_81 rfl rfl (by decide) (by omega) ?_
                refine r_iconst C dX11_sheet_82 ?_
                refine r_istore C dX11_sheet_83 rfl rfl (by decide) ?_
                have hvv : (if b = 0 then 0 else n) = 0 := by first | (exfalso; omega) | (rw [if_pos (by omega)]) | (rw [if_neg (by omega)])
                refine lp_X11_sheet e l (qUp (qUp σ 5 0 s b) 6 0 s 0) s _ _ (by omega) C (fun y => ?_) 30 0 _ (by omega) (by omega) (by rw [Int.add_zero, qFil_0])
                obtain ⟨σ2, hσ2⟩ : ∃ s2, s2 = qFil (qUp (qUp σ 5 0 s b) 6 0 s 0) 7 0 (30 * s) (30 * s + 30) 0 := ⟨_, rfl⟩
                rw [← hσ2]
                have k6 : σ2 6 0 s = 0 := by rw [hσ2]; unfold qFil; rw [if_neg (by omega), qUp_eq]
                have e1 : oSheet s b n A = (if b = 0 then 0 else n, shs A (updF (biA A) s b) (updF (szA A) s (if b = 0 then 0 else n)) (fun t => if t = s then fun _ => 0 else nuA A t)) := by unfold oSheet; rw [if_neg (by omega), if_neg (by omega), if_neg (by omega)]
                rw [hvv] at e1
                have rr := rel_msheet (A := A) (v := 0) hR (s := s) (b := b) (by omega) (by omega) (by omega)
                rw [← hσ2] at rr
                refine r_aload_n C dX11_sheet_111 rfl ?_
                refine r_get_r (c := 1) C dX11_sheet_112 fl_X11_26 rfl rfl rfl (by decide) rfl ?_
                refine r_iload_n C dX11_sheet_115 rfl ?_
                refine r_iald (c := 1) (N := 4) C dX11_sheet_116 rfl rfl (by decide) (by omega) ?_
                refine r_iret C dX11_sheet_117 ?_
                exact ⟨_, rfl, by rw [e1]; exact k6, by rw [e1]; exact rr⟩
            · refine r_aload_n C dX11_sheet_53 rfl ?_
              refine r_ldc C dX11_sheet_54 kc_X11_72 ?_
              refine r_cvi (c := 1) C dX11_sheet_56 mv_X11_68 (c_X11_finding e l _ _) (by decide) rfl rfl rfl rfl (by decide) rfl rfl (Nat.le_of_ble_eq_true rfl) (fun z56 σ56 h56 => ?_)
              obtain ⟨rfl, rfl⟩ := h56
              refine r_iret C dX11_sheet_59 ?_
              have e1 : oSheet s b n A = fnd A (-100001) := by unfold oSheet; repeat (first | rw [if_pos (by omega)] | rw [if_neg (by omega)])
              exact ⟨_, rfl, by rw [e1]; rfl, by rw [e1]; exact rel_mfnd hR _⟩
          · refine r_aload_n C dX11_sheet_40 rfl ?_
            refine r_ldc C dX11_sheet_41 kc_X11_92 ?_
            refine r_cvi (c := 1) C dX11_sheet_43 mv_X11_68 (c_X11_finding e l _ _) (by decide) rfl rfl rfl rfl (by decide) rfl rfl (Nat.le_of_ble_eq_true rfl) (fun z43 σ43 h43 => ?_)
            obtain ⟨rfl, rfl⟩ := h43
            refine r_iret C dX11_sheet_46 ?_
            have e1 : oSheet s b n A = fnd A (-100003) := by unfold oSheet; repeat (first | rw [if_pos (by omega)] | rw [if_neg (by omega)])
            exact ⟨_, rfl, by rw [e1]; rfl, by rw [e1]; exact rel_mfnd hR _⟩
        · refine r_iload_n C dX11_sheet_23 rfl ?_
          refine r_bipush C dX11_sheet_24 ?_
          refine r_ic_eq 36 C dX11_sheet_26 (by decide) (by omega) (by omega) (fun h26 => ?_) (fun h26 => ?_)
          · refine r_iload_n C dX11_sheet_36 rfl ?_
            refine r_if_ge 47 C dX11_sheet_37 (by decide) (by omega) (fun h37 => ?_) (fun h37 => ?_)
            · refine r_iload_n C dX11_sheet_47 rfl ?_
              refine r_bipush C dX11_sheet_48 ?_
              refine r_ic_le 60 C dX11_sheet_50 (by decide) (by omega) (by omega) (fun h50 => ?_) (fun h50 => ?_)
              · refine r_aload_n C dX11_sheet_60 rfl ?_
                refine r_get_r (c := 1) C dX11_sheet_61 fl_X11_23 rfl rfl rfl (by decide) rfl ?_
                refine r_iload_n C dX11_sheet_64 rfl ?_
                refine r_iload_n C dX11_sheet_65 rfl ?_
                refine r_iast (c := 1) (N := 4) C dX11_sheet_66 rfl rfl (by decide) (by omega) ?_
                refine r_aload_n C dX11_sheet_67 rfl ?_
                refine r_get_r (c := 1) C dX11_sheet_68 fl_X11_26 rfl rfl rfl (by decide) rfl ?_
                refine r_iload_n C dX11_sheet_71 rfl ?_
                refine r_iload_n C dX11_sheet_72 rfl ?_
                refine r_if_ne 80 C dX11_sheet_73 (by decide) (by omega) (fun h73 => ?_) (fun h73 => ?_)
                · refine r_iload_n C dX11_sheet_80 rfl ?_
                  refine r_iast (c := 1) (N := 4) C dX11_sheet_81 rfl rfl (by decide) (by omega) ?_
                  refine r_iconst C dX11_sheet_82 ?_
                  refine r_istore C dX11_sheet_83 rfl rfl (by decide) ?_
                  have hvv : (if b = 0 then 0 else n) = n := by first | (exfalso; omega) | (rw [if_pos (by omega)]) | (rw [if_neg (by omega)])
                  refine lp_X11_sheet e l (qUp (qUp σ 5 0 s b) 6 0 s n) s _ _ (by omega) C (fun y => ?_) 30 0 _ (by omega) (by omega) (by rw [Int.add_zero, qFil_0])
                  obtain ⟨σ2, hσ2⟩ : ∃ s2, s2 = qFil (qUp (qUp σ 5 0 s b) 6 0 s n) 7 0 (30 * s) (30 * s + 30) 0 := ⟨_, rfl⟩
                  rw [← hσ2]
                  have k6 : σ2 6 0 s = n := by rw [hσ2]; unfold qFil; rw [if_neg (by omega), qUp_eq]
                  have e1 : oSheet s b n A = (if b = 0 then 0 else n, shs A (updF (biA A) s b) (updF (szA A) s (if b = 0 then 0 else n)) (fun t => if t = s then fun _ => 0 else nuA A t)) := by unfold oSheet; rw [if_neg (by omega), if_neg (by omega), if_neg (by omega)]
                  rw [hvv] at e1
                  have rr := rel_msheet (A := A) (v := n) hR (s := s) (b := b) (by omega) (by omega) (by omega)
                  rw [← hσ2] at rr
                  refine r_aload_n C dX11_sheet_111 rfl ?_
                  refine r_get_r (c := 1) C dX11_sheet_112 fl_X11_26 rfl rfl rfl (by decide) rfl ?_
                  refine r_iload_n C dX11_sheet_115 rfl ?_
                  refine r_iald (c := 1) (N := 4) C dX11_sheet_116 rfl rfl (by decide) (by omega) ?_
                  refine r_iret C dX11_sheet_117 ?_
                  exact ⟨_, rfl, by rw [e1]; exact k6, by rw [e1]; exact rr⟩
                · refine r_iconst C dX11_sheet_76 ?_
                  refine r_goto 81 C dX11_sheet_77 (by decide) ?_
                  refine r_iast (c := 1) (N := 4) C dX11_sheet_81 rfl rfl (by decide) (by omega) ?_
                  refine r_iconst C dX11_sheet_82 ?_
                  refine r_istore C dX11_sheet_83 rfl rfl (by decide) ?_
                  have hvv : (if b = 0 then 0 else n) = 0 := by first | (exfalso; omega) | (rw [if_pos (by omega)]) | (rw [if_neg (by omega)])
                  refine lp_X11_sheet e l (qUp (qUp σ 5 0 s b) 6 0 s 0) s _ _ (by omega) C (fun y => ?_) 30 0 _ (by omega) (by omega) (by rw [Int.add_zero, qFil_0])
                  obtain ⟨σ2, hσ2⟩ : ∃ s2, s2 = qFil (qUp (qUp σ 5 0 s b) 6 0 s 0) 7 0 (30 * s) (30 * s + 30) 0 := ⟨_, rfl⟩
                  rw [← hσ2]
                  have k6 : σ2 6 0 s = 0 := by rw [hσ2]; unfold qFil; rw [if_neg (by omega), qUp_eq]
                  have e1 : oSheet s b n A = (if b = 0 then 0 else n, shs A (updF (biA A) s b) (updF (szA A) s (if b = 0 then 0 else n)) (fun t => if t = s then fun _ => 0 else nuA A t)) := by unfold oSheet; rw [if_neg (by omega), if_neg (by omega), if_neg (by omega)]
                  rw [hvv] at e1
                  have rr := rel_msheet (A := A) (v := 0) hR (s := s) (b := b) (by omega) (by omega) (by omega)
                  rw [← hσ2] at rr
                  refine r_aload_n C dX11_sheet_111 rfl ?_
                  refine r_get_r (c := 1) C dX11_sheet_112 fl_X11_26 rfl rfl rfl (by decide) rfl ?_
                  refine r_iload_n C dX11_sheet_115 rfl ?_
                  refine r_iald (c := 1) (N := 4) C dX11_sheet_116 rfl rfl (by decide) (by omega) ?_
                  refine r_iret C dX11_sheet_117 ?_
                  exact ⟨_, rfl, by rw [e1]; exact k6, by rw [e1]; exact rr⟩
              · refine r_aload_n C dX11_sheet_53 rfl ?_
                refine r_ldc C dX11_sheet_54 kc_X11_72 ?_
                refine r_cvi (c := 1) C dX11_sheet_56 mv_X11_68 (c_X11_finding e l _ _) (by decide) rfl rfl rfl rfl (by decide) rfl rfl (Nat.le_of_ble_eq_true rfl) (fun z56 σ56 h56 => ?_)
                obtain ⟨rfl, rfl⟩ := h56
                refine r_iret C dX11_sheet_59 ?_
                have e1 : oSheet s b n A = fnd A (-100001) := by unfold oSheet; repeat (first | rw [if_pos (by omega)] | rw [if_neg (by omega)])
                exact ⟨_, rfl, by rw [e1]; rfl, by rw [e1]; exact rel_mfnd hR _⟩
            · refine r_aload_n C dX11_sheet_40 rfl ?_
              refine r_ldc C dX11_sheet_41 kc_X11_92 ?_
              refine r_cvi (c := 1) C dX11_sheet_43 mv_X11_68 (c_X11_finding e l _ _) (by decide) rfl rfl rfl rfl (by decide) rfl rfl (Nat.le_of_ble_eq_true rfl) (fun z43 σ43 h43 => ?_)
              obtain ⟨rfl, rfl⟩ := h43
              refine r_iret C dX11_sheet_46 ?_
              have e1 : oSheet s b n A = fnd A (-100003) := by unfold oSheet; repeat (first | rw [if_pos (by omega)] | rw [if_neg (by omega)])
              exact ⟨_, rfl, by rw [e1]; rfl, by rw [e1]; exact rel_mfnd hR _⟩
          · refine r_aload_n C dX11_sheet_29 rfl ?_
            refine r_ldc C dX11_sheet_30 kc_X11_72 ?_
            refine r_cvi (c := 1) C dX11_sheet_32 mv_X11_68 (c_X11_finding e l _ _) (by decide) rfl rfl rfl rfl (by decide) rfl rfl (Nat.le_of_ble_eq_true rfl) (fun z32 σ32 h32 => ?_)
            obtain ⟨rfl, rfl⟩ := h32
            refine r_iret C dX11_sheet_35 ?_
            have e1 : oSheet s b n A = fnd A (-100001) := by unfold oSheet; repeat (first | rw [if_pos (by omega)] | rw [if_neg (by omega)])
            exact ⟨_, rfl, by rw [e1]; rfl, by rw [e1]; exact rel_mfnd hR _⟩
set_option maxRecDepth 20000 in
theorem m_put (e : qR) (l : Launch) (σ : qSt) (s i v : Int) (A : aSt) (hR : RelM σ A) (hA : AOk A) (h_s : InI s) (h_i : InI i) (h_v : InI v)  : CM (EM e) l yX11_put cX11_put 5 (some .int) 20 [qr 0 0, qi s, qi i, qi v] σ (Ri fun z σ' => z = (oPut s i v A).1 ∧ RelM σ' (oPut s i v A).2) := by
  refine CM.mk tM_ok (by decide +kernel) (Nat.le_of_ble_eq_true rfl) (fun G C => ?_)
  show G σ 0 [some (qr 0 0), some (qi s), some (qi i), some (qi v), none] []
  obtain ⟨hb, e0, n0, m0, e1w, n1, m1, e2t, n2, m2, e3l, n3, m3, hk0, hk20⟩ := mF hR hA
  refine r_iload_n C dX11_put_0 rfl ?_
  refine r_csi C dX11_put_1 ms_X11_184 (c_X11_isSheet e l _ _ (by omega)) (by decide) rfl rfl (Nat.le_of_ble_eq_true rfl) (fun z1 σ1 h1 => ?_)
  obtain ⟨rfl, rfl⟩ := h1
  refine r_ifb_ne 14 C dX11_put_4 (by decide) (fun h4 => ?_) (fun h4 => ?_)
  · have sm := sh_m hR hA (s := s) (by omega)
    refine r_aload_n C dX11_put_14 rfl ?_
    refine r_get_r (c := 1) C dX11_put_15 fl_X11_23 rfl rfl rfl (by decide) rfl ?_
    refine r_iload_n C dX11_put_18 rfl ?_
    refine r_iald (c := 1) (N := 4) C dX11_put_19 rfl rfl (by decide) (by omega) ?_
    have b19 := hb 5 0 s (by omega) (by omega)
    refine r_if_ne 30 C dX11_put_20 (by decide) (by omega) (fun h20 => ?_) (fun h20 => ?_)
    · refine r_iload_n C dX11_put_30 rfl ?_
      refine r_iconst C dX11_put_31 ?_
      refine r_aload_n C dX11_put_32 rfl ?_
      refine r_get_r (c := 1) C dX11_put_33 fl_X11_26 rfl rfl rfl (by decide) rfl ?_
      refine r_iload_n C dX11_put_36 rfl ?_
      refine r_iald (c := 1) (N := 4) C dX11_put_37 rfl rfl (by decide) (by omega) ?_
      have b37 := hb 6 0 s (by omega) (by omega)
      refine r_iconst C dX11_put_38 ?_
      refine r_isub C dX11_put_39 ?_
      refine r_csi C dX11_put_40 ms_X11_60 (c_X11_within e l _ _ _ _ (by omega) (by omega) (by omega)) (by decide) rfl rfl (Nat.le_of_ble_eq_true rfl) (fun z40 σ40 h40 => ?_)
      obtain ⟨rfl, rfl⟩ := h40
      refine r_ifb_ne 53 C dX11_put_43 (by decide) (fun h43 => ?_) (fun h43 => ?_)
      · obtain ⟨w1, w2, hw1, hw2, hw3⟩ := z_sx v (32 - σ 5 0 s) (by omega)
        refine r_bipush C dX11_put_53 ?_
        refine r_aload_n C dX11_put_55 rfl ?_
        refine r_get_r (c := 1) C dX11_put_56 fl_X11_23 rfl rfl rfl (by decide) rfl ?_
        refine r_iload_n C dX11_put_59 rfl ?_
        refine r_iald (c := 1) (N := 4) C dX11_put_60 rfl rfl (by decide) (by omega) ?_
        have b60 := hb 5 0 s (by omega) (by omega)
        refine r_isub C dX11_put_61 ?_
        refine r_istore C dX11_put_62 rfl rfl (by decide) ?_
        refine r_aload_n C dX11_put_64 rfl ?_
        refine r_get_r (c := 1) C dX11_put_65 fl_X11_29 rfl rfl rfl (by decide) rfl ?_
        refine r_bipush C dX11_put_68 ?_
        refine r_iload_n C dX11_put_70 rfl ?_
        refine r_imul C dX11_put_71 ?_
        refine r_iload_n C dX11_put_72 rfl ?_
        refine r_iadd C dX11_put_73 ?_
        refine r_iload_n C dX11_put_74 rfl ?_
        refine r_iload C dX11_put_75 rfl ?_
        refine r_ishl w1 C dX11_put_77 hw1 ?_
        refine r_iload C dX11_put_78 rfl ?_
        refine r_ishr w2 C dX11_put_80 hw2 ?_
        refine r_iast (c := 1) (N := 120) C dX11_put_81 rfl rfl (by decide) (by omega) ?_
        refine r_iconst C dX11_put_82 ?_
        refine r_iret C dX11_put_83 ?_
        have e1 : oPut s i v A = (0, shs A (biA A) (szA A) (fun t => if t = s then updF (nuA A t) i (v % 4) else nuA A t)) := by unfold oPut; rw [if_neg (by omega), if_neg (by omega), if_neg (by omega)]
        exact ⟨_, rfl, by rw [e1], by rw [e1]; exact rel_mput hR (by omega) hw3⟩
      · refine r_aload_n C dX11_put_46 rfl ?_
        refine r_ldc C dX11_put_47 kc_X11_72 ?_
        refine r_cvi (c := 1) C dX11_put_49 mv_X11_68 (c_X11_finding e l _ _) (by decide) rfl rfl rfl rfl (by decide) rfl rfl (Nat.le_of_ble_eq_true rfl) (fun z49 σ49 h49 => ?_)
        obtain ⟨rfl, rfl⟩ := h49
        refine r_iret C dX11_put_52 ?_
        have e1 : oPut s i v A = fnd A (-100001) := by unfold oPut; repeat (first | rw [if_pos (by omega)] | rw [if_neg (by omega)])
        exact ⟨_, rfl, by rw [e1]; rfl, by rw [e1]; exact rel_mfnd hR _⟩
    · refine r_aload_n C dX11_put_23 rfl ?_
      refine r_ldc C dX11_put_24 kc_X11_187 ?_
      refine r_cvi (c := 1) C dX11_put_26 mv_X11_68 (c_X11_finding e l _ _) (by decide) rfl rfl rfl rfl (by decide) rfl rfl (Nat.le_of_ble_eq_true rfl) (fun z26 σ26 h26 => ?_)
      obtain ⟨rfl, rfl⟩ := h26
      refine r_iret C dX11_put_29 ?_
      have e1 : oPut s i v A = fnd A (-100002) := by unfold oPut; repeat (first | rw [if_pos (by omega)] | rw [if_neg (by omega)])
      exact ⟨_, rfl, by rw [e1]; rfl, by rw [e1]; exact rel_mfnd hR _⟩
  · refine r_aload_n C dX11_put_7 rfl ?_
    refine r_ldc C dX11_put_8 kc_X11_72 ?_
    refine r_cvi (c := 1) C dX11_put_10 mv_X11_68 (c_X11_finding e l _ _) (by decide) rfl rfl rfl rfl (by decide) rfl rfl (Nat.le_of_ble_eq_true rfl) (fun z10 σ10 h10 => ?_)
    obtain ⟨rfl, rfl⟩ := h10
    refine r_iret C dX11_put_13 ?_
    have e1 : oPut s i v A = fnd A (-100001) := by unfold oPut; repeat (first | rw [if_pos (by omega)] | rw [if_neg (by omega)])
    exact ⟨_, rfl, by rw [e1]; rfl, by rw [e1]; exact rel_mfnd hR _⟩
set_option maxRecDepth 20000 in
theorem lp_X11_copy1 {G : qSt → Nat → List (Option qV) → List qV → Prop} {Ret : Option qV → qSt → Prop} (e : qR) (l : Launch) (σ : qSt) (s f n : Int) (o3 o4 : Int) (hs : 0 ≤ s ∧ s < 4) (hn : 0 ≤ n ∧ n ≤ 30) (hf : 0 ≤ f ∧ f + n ≤ 30) (C : Cx (EM e) l RX11 cX11_copy 7 (some .int) 20 Ret G) (hN : ∀ y, G (qCpy σ 7 0 (30 * s + f) 15 0 0 n) 161 [some (qr 0 0), some (qi s), some (qi f), some (qi o3), some (qi o4), some (qi n), some (qi y)] []) : ∀ (k : Nat) (m : Int) (σ1 : qSt), m + (k : Int) = n → 0 ≤ m → σ1 = qCpy σ 7 0 (30 * s + f) 15 0 0 m → G σ1 127 [some (qr 0 0), some (qi s), some (qi f), some (qi o3), some (qi o4), some (qi n), some (qi m)] [] := by
  intro k
  induction k with
  | zero =>
    intro m σ1 hm hm0 hI
    refine r_iload C dX11_copy_127 rfl ?_
    refine r_iload C dX11_copy_129 rfl ?_
    refine r_ic_ge 161 C dX11_copy_131 (by decide) (by omega) (by omega) (fun h131 => ?_) (fun h131 => ?_)
    · subst hI
      rw [show m = n by omega]
      exact hN _
    · exfalso; omega
  | succ k ih =>
    intro m σ1 hm hm0 hI
    refine r_iload C dX11_copy_127 rfl ?_
    refine r_iload C dX11_copy_129 rfl ?_
    refine r_ic_ge 161 C dX11_copy_131 (by decide) (by omega) (by omega) (fun h131 => ?_) (fun h131 => ?_)
    · exfalso; omega
    · refine r_aload_n C dX11_copy_134 rfl ?_
      refine r_get_r (c := 1) C dX11_copy_135 fl_X11_53 rfl rfl rfl (by decide) rfl ?_
      refine r_iload C dX11_copy_138 rfl ?_
      refine r_aload_n C dX11_copy_140 rfl ?_
      refine r_get_r (c := 1) C dX11_copy_141 fl_X11_29 rfl rfl rfl (by decide) rfl ?_
      refine r_bipush C dX11_copy_144 ?_
      refine r_iload_n C dX11_copy_146 rfl ?_
      refine r_imul C dX11_copy_147 ?_
      refine r_iload_n C dX11_copy_148 rfl ?_
      refine r_iadd C dX11_copy_149 ?_
      refine r_iload C dX11_copy_150 rfl ?_
      refine r_iadd C dX11_copy_152 ?_
      refine r_iald (c := 1) (N := 120) C dX11_copy_153 rfl rfl (by decide) (by omega) ?_
      refine r_iast (c := 1) (N := 30) C dX11_copy_154 rfl rfl (by decide) (by omega) ?_
      refine r_iinc C dX11_copy_155 rfl rfl rfl (by decide) ?_
      refine r_goto 127 C dX11_copy_158 (by decide) ?_
      exact ih _ _ (by omega) (by omega) (by subst hI; exact cpy_step hm0 (by omega) (by unfold qCpy; rw [if_neg (by omega)]))
set_option maxRecDepth 20000 in
theorem lp_X11_copy2 {G : qSt → Nat → List (Option qV) → List qV → Prop} {Ret : Option qV → qSt → Prop} (e : qR) (l : Launch) (σ : qSt) (t g n : Int) (o1 o2 : Int) (hs : 0 ≤ t ∧ t < 4) (hn : 0 ≤ n ∧ n ≤ 30) (hf : 0 ≤ g ∧ g + n ≤ 30) (C : Cx (EM e) l RX11 cX11_copy 7 (some .int) 20 Ret G) (hN : ∀ y, G (qCpy σ 15 0 0 7 0 (30 * t + g) n) 199 [some (qr 0 0), some (qi o1), some (qi o2), some (qi t), some (qi g), some (qi n), some (qi y)] []) : ∀ (k : Nat) (m : Int) (σ1 : qSt), m + (k : Int) = n → 0 ≤ m → σ1 = qCpy σ 15 0 0 7 0 (30 * t + g) m → G σ1 164 [some (qr 0 0), some (qi o1), some (qi o2), some (qi t), some (qi g), some (qi n), some (qi m)] [] := by
  intro k
  induction k with
  | zero =>
    intro m σ1 hm hm0 hI
    refine r_iload C dX11_copy_164 rfl ?_
    refine r_iload C dX11_copy_166 rfl ?_
    refine r_ic_ge 199 C dX11_copy_168 (by decide) (by omega) (by omega) (fun h168 => ?_) (fun h168 => ?_)
    · subst hI
      rw [show m = n by omega]
      exact hN _
    · exfalso; omega
  | succ k ih =>
    intro m σ1 hm hm0 hI
    refine r_iload C dX11_copy_164 rfl ?_
    refine r_iload C dX11_copy_166 rfl ?_
    refine r_ic_ge 199 C dX11_copy_168 (by decide) (by omega) (by omega) (fun h168 => ?_) (fun h168 => ?_)
    · exfalso; omega
    · refine r_aload_n C dX11_copy_171 rfl ?_
      refine r_get_r (c := 1) C dX11_copy_172 fl_X11_29 rfl rfl rfl (by decide) rfl ?_
      refine r_bipush C dX11_copy_175 ?_
      refine r_iload_n C dX11_copy_177 rfl ?_
      refine r_imul C dX11_copy_178 ?_
      refine r_iload C dX11_copy_179 rfl ?_
      refine r_iadd C dX11_copy_181 ?_
      refine r_iload C dX11_copy_182 rfl ?_
      refine r_iadd C dX11_copy_184 ?_
      refine r_aload_n C dX11_copy_185 rfl ?_
      refine r_get_r (c := 1) C dX11_copy_186 fl_X11_53 rfl rfl rfl (by decide) rfl ?_
      refine r_iload C dX11_copy_189 rfl ?_
      refine r_iald (c := 1) (N := 30) C dX11_copy_191 rfl rfl (by decide) (by omega) ?_
      refine r_iast (c := 1) (N := 120) C dX11_copy_192 rfl rfl (by decide) (by omega) ?_
      refine r_iinc C dX11_copy_193 rfl rfl rfl (by decide) ?_
      refine r_goto 164 C dX11_copy_196 (by decide) ?_
      exact ih _ _ (by omega) (by omega) (by subst hI; exact cpy_step hm0 (by omega) (by unfold qCpy; rw [if_neg (by omega), Int.zero_add]))
set_option maxRecDepth 20000 in
theorem m_copy (e : qR) (l : Launch) (σ : qSt) (s f t g n : Int) (A : aSt) (hR : RelM σ A) (hA : AOk A) (h_s : InI s) (h_f : InI f) (h_t : InI t) (h_g : InI g) (h_n : InI n)  : CM (EM e) l yX11_copy cX11_copy 7 (some .int) 20 [qr 0 0, qi s, qi f, qi t, qi g, qi n] σ (Ri fun z σ' => z = (oCopy s f t g n A).1 ∧ RelM σ' (oCopy s f t g n A).2) := by
  refine CM.mk tM_ok (by decide +kernel) (Nat.le_of_ble_eq_true rfl) (fun G C => ?_)
  show G σ 0 [some (qr 0 0), some (qi s), some (qi f), some (qi t), some (qi g), some (qi n), none] []
  obtain ⟨hb, e0, n0, m0, e1w, n1, m1, e2t, n2, m2, e3l, n3, m3, hk0, hk20⟩ := mF hR hA
  refine r_iload_n C dX11_copy_0 rfl ?_
  refine r_csi C dX11_copy_1 ms_X11_184 (c_X11_isSheet e l _ _ (by omega)) (by decide) rfl rfl (Nat.le_of_ble_eq_true rfl) (fun z1 σ1 h1 => ?_)
  obtain ⟨rfl, rfl⟩ := h1
  refine r_ifb_eq 14 C dX11_copy_4 (by decide) (fun h4 => ?_) (fun h4 => ?_)
  · refine r_aload_n C dX11_copy_14 rfl ?_
    refine r_ldc C dX11_copy_15 kc_X11_72 ?_
    refine r_cvi (c := 1) C dX11_copy_17 mv_X11_68 (c_X11_finding e l _ _) (by decide) rfl rfl rfl rfl (by decide) rfl rfl (Nat.le_of_ble_eq_true rfl) (fun z17 σ17 h17 => ?_)
    obtain ⟨rfl, rfl⟩ := h17
    refine r_iret C dX11_copy_20 ?_
    have e1 : oCopy s f t g n A = fnd A (-100001) := by unfold oCopy; repeat (first | rw [if_pos (by omega)] | rw [if_neg (by omega)])
    exact ⟨_, rfl, by rw [e1]; rfl, by rw [e1]; exact rel_mfnd hR _⟩
  · refine r_iload_n C dX11_copy_7 rfl ?_
    refine r_csi C dX11_copy_8 ms_X11_184 (c_X11_isSheet e l _ _ (by omega)) (by decide) rfl rfl (Nat.le_of_ble_eq_true rfl) (fun z8 σ8 h8 => ?_)
    obtain ⟨rfl, rfl⟩ := h8
    refine r_ifb_ne 21 C dX11_copy_11 (by decide) (fun h11 => ?_) (fun h11 => ?_)
    · have sm := sh_m hR hA (s := s) (by omega)
      have tm := sh_m hR hA (s := t) (by omega)
      refine r_aload_n C dX11_copy_21 rfl ?_
      refine r_get_r (c := 1) C dX11_copy_22 fl_X11_23 rfl rfl rfl (by decide) rfl ?_
      refine r_iload_n C dX11_copy_25 rfl ?_
      refine r_iald (c := 1) (N := 4) C dX11_copy_26 rfl rfl (by decide) (by omega) ?_
      have b26 := hb 5 0 s (by omega) (by omega)
      refine r_if_eq 39 C dX11_copy_27 (by decide) (by omega) (fun h27 => ?_) (fun h27 => ?_)
      · refine r_aload_n C dX11_copy_39 rfl ?_
        refine r_ldc C dX11_copy_40 kc_X11_187 ?_
        refine r_cvi (c := 1) C dX11_copy_42 mv_X11_68 (c_X11_finding e l _ _) (by decide) rfl rfl rfl rfl (by decide) rfl rfl (Nat.le_of_ble_eq_true rfl) (fun z42 σ42 h42 => ?_)
        obtain ⟨rfl, rfl⟩ := h42
        refine r_iret C dX11_copy_45 ?_
        have e1 : oCopy s f t g n A = fnd A (-100002) := by unfold oCopy; repeat (first | rw [if_pos (by omega)] | rw [if_neg (by omega)])
        exact ⟨_, rfl, by rw [e1]; rfl, by rw [e1]; exact rel_mfnd hR _⟩
      · refine r_aload_n C dX11_copy_30 rfl ?_
        refine r_get_r (c := 1) C dX11_copy_31 fl_X11_23 rfl rfl rfl (by decide) rfl ?_
        refine r_iload_n C dX11_copy_34 rfl ?_
        refine r_iald (c := 1) (N := 4) C dX11_copy_35 rfl rfl (by decide) (by omega) ?_
        have b35 := hb 5 0 t (by omega) (by omega)
        refine r_if_ne 46 C dX11_copy_36 (by decide) (by omega) (fun h36 => ?_) (fun h36 => ?_)
        · refine r_aload_n C dX11_copy_46 rfl ?_
          refine r_get_r (c := 1) C dX11_copy_47 fl_X11_23 rfl rfl rfl (by decide) rfl ?_
          refine r_iload_n C dX11_copy_50 rfl ?_
          refine r_iald (c := 1) (N := 4) C dX11_copy_51 rfl rfl (by decide) (by omega) ?_
          have b51 := hb 5 0 s (by omega) (by omega)
          refine r_aload_n C dX11_copy_52 rfl ?_
          refine r_get_r (c := 1) C dX11_copy_53 fl_X11_23 rfl rfl rfl (by decide) rfl ?_
          refine r_iload_n C dX11_copy_56 rfl ?_
          refine r_iald (c := 1) (N := 4) C dX11_copy_57 rfl rfl (by decide) (by omega) ?_
          have b57 := hb 5 0 t (by omega) (by omega)
          refine r_ic_eq 68 C dX11_copy_58 (by decide) (by omega) (by omega) (fun h58 => ?_) (fun h58 => ?_)
          · refine r_iload_n C dX11_copy_68 rfl ?_
            refine r_if_lt 117 C dX11_copy_69 (by decide) (by omega) (fun h69 => ?_) (fun h69 => ?_)
            · refine r_aload_n C dX11_copy_117 rfl ?_
              refine r_ldc C dX11_copy_118 kc_X11_72 ?_
              refine r_cvi (c := 1) C dX11_copy_120 mv_X11_68 (c_X11_finding e l _ _) (by decide) rfl rfl rfl rfl (by decide) rfl rfl (Nat.le_of_ble_eq_true rfl) (fun z120 σ120 h120 => ?_)
              obtain ⟨rfl, rfl⟩ := h120
              refine r_iret C dX11_copy_123 ?_
              have e1 : oCopy s f t g n A = fnd A (-100001) := by unfold oCopy; repeat (first | rw [if_pos (by omega)] | rw [if_neg (by omega)])
              exact ⟨_, rfl, by rw [e1]; rfl, by rw [e1]; exact rel_mfnd hR _⟩
            · refine r_iload C dX11_copy_72 rfl ?_
              refine r_if_lt 117 C dX11_copy_74 (by decide) (by omega) (fun h74 => ?_) (fun h74 => ?_)
              · refine r_aload_n C dX11_copy_117 rfl ?_
                refine r_ldc C dX11_copy_118 kc_X11_72 ?_
                refine r_cvi (c := 1) C dX11_copy_120 mv_X11_68 (c_X11_finding e l _ _) (by decide) rfl rfl rfl rfl (by decide) rfl rfl (Nat.le_of_ble_eq_true rfl) (fun z120 σ120 h120 => ?_)
                obtain ⟨rfl, rfl⟩ := h120
                refine r_iret C dX11_copy_123 ?_
                have e1 : oCopy s f t g n A = fnd A (-100001) := by unfold oCopy; repeat (first | rw [if_pos (by omega)] | rw [if_neg (by omega)])
                exact ⟨_, rfl, by rw [e1]; rfl, by rw [e1]; exact rel_mfnd hR _⟩
              · refine r_iload C dX11_copy_77 rfl ?_
                refine r_if_lt 117 C dX11_copy_79 (by decide) (by omega) (fun h79 => ?_) (fun h79 => ?_)
                · refine r_aload_n C dX11_copy_117 rfl ?_
                  refine r_ldc C dX11_copy_118 kc_X11_72 ?_
                  refine r_cvi (c := 1) C dX11_copy_120 mv_X11_68 (c_X11_finding e l _ _) (by decide) rfl rfl rfl rfl (by decide) rfl rfl (Nat.le_of_ble_eq_true rfl) (fun z120 σ120 h120 => ?_)
                  obtain ⟨rfl, rfl⟩ := h120
                  refine r_iret C dX11_copy_123 ?_
                  have e1 : oCopy s f t g n A = fnd A (-100001) := by unfold oCopy; repeat (first | rw [if_pos (by omega)] | rw [if_neg (by omega)])
                  exact ⟨_, rfl, by rw [e1]; rfl, by rw [e1]; exact rel_mfnd hR _⟩
                · refine r_iload_n C dX11_copy_82 rfl ?_
                  refine r_i2l C dX11_copy_83 (by omega) ?_
                  refine r_iload C dX11_copy_84 rfl ?_
                  refine r_i2l C dX11_copy_86 (by omega) ?_
                  refine r_ladd C dX11_copy_87 ?_
                  refine r_aload_n C dX11_copy_88 rfl ?_
                  refine r_get_r (c := 1) C dX11_copy_89 fl_X11_26 rfl rfl rfl (by decide) rfl ?_
                  refine r_iload_n C dX11_copy_92 rfl ?_
                  refine r_iald (c := 1) (N := 4) C dX11_copy_93 rfl rfl (by decide) (by omega) ?_
                  have b93 := hb 6 0 s (by omega) (by omega)
                  refine r_i2l C dX11_copy_94 (by omega) ?_
                  refine r_lcmp C dX11_copy_95 (by omega) (by omega) ?_
                  obtain ⟨q1, hq1⟩ : ∃ q, q = (if σ 6 0 s < f + n then (1 : Int) else if f + n = σ 6 0 s then 0 else -1) := ⟨_, rfl⟩
                  rw [← hq1]
                  have hq1a : (0 < q1 ↔ σ 6 0 s < f + n) ∧ -1 ≤ q1 ∧ q1 ≤ 1 := by rw [hq1]; split <;> (try split) <;> omega
                  refine r_if_gt 117 C dX11_copy_96 (by decide) (by omega) (fun h96 => ?_) (fun h96 => ?_)
                  · refine r_aload_n C dX11_copy_117 rfl ?_
                    refine r_ldc C dX11_copy_118 kc_X11_72 ?_
                    refine r_cvi (c := 1) C dX11_copy_120 mv_X11_68 (c_X11_finding e l _ _) (by decide) rfl rfl rfl rfl (by decide) rfl rfl (Nat.le_of_ble_eq_true rfl) (fun z120 σ120 h120 => ?_)
                    obtain ⟨rfl, rfl⟩ := h120
                    refine r_iret C dX11_copy_123 ?_
                    have e1 : oCopy s f t g n A = fnd A (-100001) := by unfold oCopy; repeat (first | rw [if_pos (by omega)] | rw [if_neg (by omega)])
                    exact ⟨_, rfl, by rw [e1]; rfl, by rw [e1]; exact rel_mfnd hR _⟩
                  · refine r_iload C dX11_copy_99 rfl ?_
                    refine r_i2l C dX11_copy_101 (by omega) ?_
                    refine r_iload C dX11_copy_102 rfl ?_
                    refine r_i2l C dX11_copy_104 (by omega) ?_
                    refine r_ladd C dX11_copy_105 ?_
                    refine r_aload_n C dX11_copy_106 rfl ?_
                    refine r_get_r (c := 1) C dX11_copy_107 fl_X11_26 rfl rfl rfl (by decide) rfl ?_
                    refine r_iload_n C dX11_copy_110 rfl ?_
                    refine r_iald (c := 1) (N := 4) C dX11_copy_111 rfl rfl (by decide) (by omega) ?_
                    have b111 := hb 6 0 t (by omega) (by omega)
                    refine r_i2l C dX11_copy_112 (by omega) ?_
                    refine r_lcmp C dX11_copy_113 (by omega) (by omega) ?_
                    obtain ⟨q2, hq2⟩ : ∃ q, q = (if σ 6 0 t < g + n then (1 : Int) else if g + n = σ 6 0 t then 0 else -1) := ⟨_, rfl⟩
                    rw [← hq2]
                    have hq2a : (0 < q2 ↔ σ 6 0 t < g + n) ∧ -1 ≤ q2 ∧ q2 ≤ 1 := by rw [hq2]; split <;> (try split) <;> omega
                    refine r_if_le 124 C dX11_copy_114 (by decide) (by omega) (fun h114 => ?_) (fun h114 => ?_)
                    · refine r_iconst C dX11_copy_124 ?_
                      refine r_istore C dX11_copy_125 rfl rfl (by decide) ?_
                      refine lp_X11_copy1 e l σ s f n _ _ (by omega) (by omega) (by omega) C (fun y => ?_) n.toNat 0 _ (by omega) (by omega) (cpy_0 _ _ _ _ _ _ _).symm
                      refine r_iconst C dX11_copy_161 ?_
                      refine r_istore C dX11_copy_162 rfl rfl (by decide) ?_
                      refine lp_X11_copy2 e l _ t g n _ _ (by omega) (by omega) (by omega) C (fun y => ?_) n.toNat 0 _ (by omega) (by omega) (cpy_0 _ _ _ _ _ _ _).symm
                      refine r_iload C dX11_copy_199 rfl ?_
                      refine r_iret C dX11_copy_201 ?_
                      have e1 : oCopy s f t g n A = (n, shs A (biA A) (szA A) (fun u => if u = t then fun j => if g ≤ j ∧ j < g + n then nuA A s (f + (j - g)) else nuA A t j else nuA A u)) := by unfold oCopy; rw [if_neg (by omega), if_neg (by omega), if_neg (by omega), if_neg (by omega)]
                      exact ⟨_, rfl, by rw [e1], by rw [e1]; exact rel_mcopy hR (by omega) (by omega) (by omega) (by omega)⟩
                    · refine r_aload_n C dX11_copy_117 rfl ?_
                      refine r_ldc C dX11_copy_118 kc_X11_72 ?_
                      refine r_cvi (c := 1) C dX11_copy_120 mv_X11_68 (c_X11_finding e l _ _) (by decide) rfl rfl rfl rfl (by decide) rfl rfl (Nat.le_of_ble_eq_true rfl) (fun z120 σ120 h120 => ?_)
                      obtain ⟨rfl, rfl⟩ := h120
                      refine r_iret C dX11_copy_123 ?_
                      have e1 : oCopy s f t g n A = fnd A (-100001) := by unfold oCopy; repeat (first | rw [if_pos (by omega)] | rw [if_neg (by omega)])
                      exact ⟨_, rfl, by rw [e1]; rfl, by rw [e1]; exact rel_mfnd hR _⟩
          · refine r_aload_n C dX11_copy_61 rfl ?_
            refine r_ldc C dX11_copy_62 kc_X11_88 ?_
            refine r_cvi (c := 1) C dX11_copy_64 mv_X11_68 (c_X11_finding e l _ _) (by decide) rfl rfl rfl rfl (by decide) rfl rfl (Nat.le_of_ble_eq_true rfl) (fun z64 σ64 h64 => ?_)
            obtain ⟨rfl, rfl⟩ := h64
            refine r_iret C dX11_copy_67 ?_
            have e1 : oCopy s f t g n A = fnd A (-100004) := by unfold oCopy; repeat (first | rw [if_pos (by omega)] | rw [if_neg (by omega)])
            exact ⟨_, rfl, by rw [e1]; rfl, by rw [e1]; exact rel_mfnd hR _⟩
        · refine r_aload_n C dX11_copy_39 rfl ?_
          refine r_ldc C dX11_copy_40 kc_X11_187 ?_
          refine r_cvi (c := 1) C dX11_copy_42 mv_X11_68 (c_X11_finding e l _ _) (by decide) rfl rfl rfl rfl (by decide) rfl rfl (Nat.le_of_ble_eq_true rfl) (fun z42 σ42 h42 => ?_)
          obtain ⟨rfl, rfl⟩ := h42
          refine r_iret C dX11_copy_45 ?_
          have e1 : oCopy s f t g n A = fnd A (-100002) := by unfold oCopy; repeat (first | rw [if_pos (by omega)] | rw [if_neg (by omega)])
          exact ⟨_, rfl, by rw [e1]; rfl, by rw [e1]; exact rel_mfnd hR _⟩
    · refine r_aload_n C dX11_copy_14 rfl ?_
      refine r_ldc C dX11_copy_15 kc_X11_72 ?_
      refine r_cvi (c := 1) C dX11_copy_17 mv_X11_68 (c_X11_finding e l _ _) (by decide) rfl rfl rfl rfl (by decide) rfl rfl (Nat.le_of_ble_eq_true rfl) (fun z17 σ17 h17 => ?_)
      obtain ⟨rfl, rfl⟩ := h17
      refine r_iret C dX11_copy_20 ?_
      have e1 : oCopy s f t g n A = fnd A (-100001) := by unfold oCopy; repeat (first | rw [if_pos (by omega)] | rw [if_neg (by omega)])
      exact ⟨_, rfl, by rw [e1]; rfl, by rw [e1]; exact rel_mfnd hR _⟩
