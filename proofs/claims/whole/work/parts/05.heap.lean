/-! heap rows -/
def qCls (ci : Nat) (C : String) (T : u_T) (N : Nat) : Prop := clz[ci]? = some (C, T, N) ∧ (∀ w ∈ u_ws C T N, w ∈ qTbl) ∧ (∃ ty0 : Nat → FieldType, ∀ k, k < N → parseFieldDescriptor (T k).2.2.1 = some (ty0 k)) ∧ ∀ a, a < N → ∀ b, b < N → a ≠ b → (T a).2.1 ≠ (T b).2.1
def qFl (own : String) (ix ci j : Nat) : Prop := ∃ (C : String) (T : u_T) (N : Nat), qCls ci C T N ∧ j < N ∧ (T j).1 = C ∧ Cond.fieldLink own ix C (T j).2.1 (T j).2.2.1 ∈ qTbl
def qFw (own : String) (ix ci j : Nat) (ty : FieldType) : Prop := ∃ (C : String) (T : u_T) (N : Nat), qCls ci C T N ∧ j < N ∧ (T j).1 = C ∧ Cond.fieldLink own ix C (T j).2.1 (T j).2.2.1 ∈ qTbl ∧ (T j).2.2.2 = false ∧ parseFieldDescriptor (T j).2.2.1 = some ty
theorem qv_r {E : qE} {k m : Nat} (h : k ≠ 99) : qv E (qr k (m : Int)) = .ref (eo E + qad (eT E) k m) := by simp [qv, h]
theorem q_n99 {E : qE} (hT : qTok (eT E)) {k m : Nat} (h : m < qcn (eT E) k) : k ≠ 99 := by
  rintro rfl
  rw [hT.1] at h
  omega
section
variable {E : qE} {l : Launch} {own : String} {cc : ByteArray} {nL : Nat} {rt : Option FieldType} {n : Nat} {Ret : Option qV → qSt → Prop} {G : qSt → Nat → List (Option qV) → List qV → Prop} {σ : qSt} {pc : Nat} {lv : List (Option qV)} {st : List qV}
theorem r_get_i {ix ci j k c : Nat} {fl : List (Option Nat)} {i : Int} (jz : Int) (C : Cx E l own cc nL rt n Ret G) (hd : decode cc pc = .ok (.getfield ix, 3)) (hf : qFl own ix ci j) (hs : qsh (eT E) k = .inl (ci, fl)) (hj : fl[j]? = some none) (hz : (j : Int) = jz) (hc : qcn (eT E) k = c) (hi : 0 ≤ i ∧ i < c) (kk : G σ (pc + 3) lv (qi (σ k i jz) :: st)) : G σ pc lv (qr k i :: st) := by
  obtain ⟨p, e, s, m, args, below, meth, cd, ws, ⟨hx, hb, hml, ho, hw⟩, hin, hlk, hrt, hT, hK, rfl⟩ := C
  intro H locs ls hP hS hl
  obtain ⟨q, rfl⟩ : ∃ q : Nat, i = q := ⟨i.toNat, by omega⟩
  subst hz
  have hlt : q < qcn (eT E) k := by omega
  have hg := qBlk_get (σ := σ) hT hlt
  have hcell : qCell E σ k q = .inr (ci, qFld E (σ k q) q fl 0) := by unfold qCell; rw [hs]; rfl
  rw [hcell] at hg
  have hv := qFld_i E (σ k q) q fl 0 j hj
  obtain ⟨CC, T, N, ⟨h1, h2, h3, h4⟩, h5, h6, h7⟩ := hf
  simp only [List.map_cons, qv_r (q_n99 hT hlt)]
  refine va_get (D := eD E) (cl := clz) (ci := ci) (C := CC) (T := T) (N := N) (ref := CC) hx hb (fun w h => hw w (hin w h)) h2 ho hK.1 hP _ hg h1 j h5 (hw _ (hin _ h7)) (fun x h => by rw [h6] at h; exact h) hv hd ?_
  have := kk H locs ls hP hS hl
  simpa [qv] using this
theorem r_get_r {ix ci j k c k2 : Nat} {fl : List (Option Nat)} {i : Int} (C : Cx E l own cc nL rt n Ret G) (hd : decode cc pc = .ok (.getfield ix, 3)) (hf : qFl own ix ci j) (hs : qsh (eT E) k = .inl (ci, fl)) (hj : fl[j]? = some (some k2)) (hc : qcn (eT E) k = c) (hi : 0 ≤ i ∧ i < c) (h9 : (k2 == 99) = false) (kk : G σ (pc + 3) lv (qr k2 i :: st)) : G σ pc lv (qr k i :: st) := by
  obtain ⟨p, e, s, m, args, below, meth, cd, ws, ⟨hx, hb, hml, ho, hw⟩, hin, hlk, hrt, hT, hK, rfl⟩ := C
  intro H locs ls hP hS hl
  obtain ⟨q, rfl⟩ : ∃ q : Nat, i = q := ⟨i.toNat, by omega⟩
  have hlt : q < qcn (eT E) k := by omega
  have hg := qBlk_get (σ := σ) hT hlt
  have hcell : qCell E σ k q = .inr (ci, qFld E (σ k q) q fl 0) := by unfold qCell; rw [hs]; rfl
  rw [hcell] at hg
  have hv := qFld_r E (σ k q) q fl 0 j hj
  obtain ⟨CC, T, N, ⟨h1, h2, h3, h4⟩, h5, h6, h7⟩ := hf
  simp only [List.map_cons, qv_r (q_n99 hT hlt)]
  refine va_get (D := eD E) (cl := clz) (ci := ci) (C := CC) (T := T) (N := N) (ref := CC) hx hb (fun w h => hw w (hin w h)) h2 ho hK.1 hP _ hg h1 j h5 (hw _ (hin _ h7)) (fun x h => by rw [h6] at h; exact h) hv hd ?_
  have := kk H locs ls hP hS hl
  simp only [List.map_cons, qv_r (E := E) (k := k2) (m := q) (by simpa using h9)] at this
  exact this
theorem r_put_i {ix ci j k c : Nat} {fl : List (Option Nat)} {i z : Int} {ty : FieldType} (jz : Int) (C : Cx E l own cc nL rt n Ret G) (hd : decode cc pc = .ok (.putfield ix, 3)) (hf : qFw own ix ci j ty) (hs : qsh (eT E) k = .inl (ci, fl)) (hj : fl[j]? = some none) (hz : (j : Int) = jz) (hc : qcn (eT E) k = c) (hi : 0 ≤ i ∧ i < c) (hn : narrow ty (.int (Int32.ofInt z)) = .int (Int32.ofInt z)) (hft : fits ty (.int (Int32.ofInt z)) = true) (kk : G (qUp σ k i jz z) (pc + 3) lv st) : G σ pc lv (qi z :: qr k i :: st) := by
  obtain ⟨p, e, s, m, args, below, meth, cd, ws, ⟨hx, hb, hml, ho, hw⟩, hin, hlk, hrt, hT, hK, rfl⟩ := C
  intro H locs ls hP hS hl
  obtain ⟨q, rfl⟩ : ∃ q : Nat, i = q := ⟨i.toNat, by omega⟩
  subst hz
  have hlt : q < qcn (eT E) k := by omega
  have hg := qBlk_get (σ := σ) hT hlt
  have hcell : ∀ σ : qSt, qCell E σ k q = .inr (ci, qFld E (σ k q) q fl 0) := fun σ => by unfold qCell; rw [hs]; rfl
  rw [hcell] at hg
  obtain ⟨CC, T, N, ⟨h1, h2, ⟨ty0, h3⟩, h4⟩, h5, h6, h7, h8, h9⟩ := hf
  have hjl : j < fl.length := (List.getElem?_eq_some_iff.mp hj).1
  simp only [List.map_cons, qv_r (q_n99 hT hlt)]
  refine va_put (D := eD E) (cl := clz) (ci := ci) (C := CC) (T := T) (N := N) (ref := CC) (A := eA E) hx hb (fun w h => hw w (hin w h)) h2 ty0 h3 h4 ho hK.1 hP (qBlk_D E σ) hS _ hg h1 j h5 (hw _ (hin _ h7)) (fun x h => by rw [h6] at h; exact h) h8 h9 hn hft (by rw [qFld_len]; exact hjl) hd (fun H1 locs1 hP1 _ hS1 => ?_)
  refine kk H1 locs1 ls ?_ hS1 hl
  rw [show qv E (qi z) = Value.int (Int32.ofInt z) from rfl, qFld_set E (σ k q) (qUp σ k q j z k q) q z j (by simp [qUp]) (fun c hc => by simp [qUp, hc]) fl 0 j (by omega) hj, ← hcell (qUp σ k q j z)] at hP1
  rwa [qBlk_set hT hlt (fun a b hab c => by simp only [qUp]; rw [if_neg]; rintro ⟨e1, e2, -⟩; exact hab ⟨e1, by exact_mod_cast e2⟩)] at hP1
theorem r_iald {k c N x : Nat} {i z : Int} (C : Cx E l own cc nL rt n Ret G) (hd : decode cc pc = .ok (.iaload, 1)) (hs : qsh (eT E) k = .inr (N, 0, x)) (hc : qcn (eT E) k = c) (hi : 0 ≤ i ∧ i < c) (hz : 0 ≤ z ∧ z < N) (kk : G σ (pc + 1) lv (qi (σ k i z) :: st)) (hN : N < 2147483648 := by decide) : G σ pc lv (qi z :: qr k i :: st) := by
  obtain ⟨p, e, s, m, args, below, meth, cd, ws, ⟨hx, hb, hml, ho, hw⟩, hin, hlk, hrt, hT, hK, rfl⟩ := C
  intro H locs ls hP hS hl
  obtain ⟨q, rfl⟩ : ∃ q : Nat, i = q := ⟨i.toNat, by omega⟩
  have hlt : q < qcn (eT E) k := by omega
  have hg := qBlk_get (σ := σ) hT hlt
  have hcell : qCell E σ k q = .inl (eca E 0, N, .inl fun j => Int32.ofInt (σ k q j)) := by unfold qCell; rw [hs]; rfl
  rw [hcell] at hg
  simp only [List.map_cons, qv_r (q_n99 hT hlt)]
  refine va_iald (D := eD E) (cl := clz) hx hb hK.1 hP _ 0 hg rfl (z_in hz.1 hz.2 hN) hd ?_
  have := kk H locs ls hP hS hl
  rw [z_nat hz.1 (by omega), Int.toNat_of_nonneg hz.1]
  exact this
theorem r_iast {k c N x : Nat} {i z w : Int} (C : Cx E l own cc nL rt n Ret G) (hd : decode cc pc = .ok (.iastore, 1)) (hs : qsh (eT E) k = .inr (N, 0, x)) (hc : qcn (eT E) k = c) (hi : 0 ≤ i ∧ i < c) (hz : 0 ≤ z ∧ z < N) (kk : G (qUp σ k i z w) (pc + 1) lv st) (hN : N < 2147483648 := by decide) : G σ pc lv (qi w :: qi z :: qr k i :: st) := by
  obtain ⟨p, e, s, m, args, below, meth, cd, ws, ⟨hx, hb, hml, ho, hw⟩, hin, hlk, hrt, hT, hK, rfl⟩ := C
  intro H locs ls hP hS hl
  obtain ⟨q, rfl⟩ : ∃ q : Nat, i = q := ⟨i.toNat, by omega⟩
  have hlt : q < qcn (eT E) k := by omega
  have hg := qBlk_get (σ := σ) hT hlt
  have hcell : ∀ σ : qSt, qCell E σ k q = .inl (eca E 0, N, .inl fun j => Int32.ofInt (σ k q j)) := fun σ => by unfold qCell; rw [hs]; rfl
  rw [hcell] at hg
  simp only [List.map_cons, qv_r (q_n99 hT hlt)]
  refine va_iast (D := eD E) (cl := clz) (A := eA E) hx hb hK.1 hP (qBlk_D E σ) hS _ 0 hg rfl (z_in hz.1 hz.2 hN) hd (fun H1 locs1 hP1 _ hS1 => ?_)
  refine kk H1 locs1 ls ?_ hS1 hl
  have e1 : upd (fun j : Nat => Int32.ofInt (σ k q j)) (Int32.ofInt z).toNatClampNeg (Int32.ofInt w) = fun j : Nat => Int32.ofInt (qUp σ k q z w k q j) := by
    funext j
    rw [z_nat hz.1 (by omega)]
    by_cases hj : j = z.toNat
    · have h2 : (j : Int) = z := by omega
      simp [upd, hj, qUp, Int.toNat_of_nonneg hz.1]
    · have h2 : ¬ (j : Int) = z := by omega
      simp [upd, hj, qUp, h2]
  rw [e1, ← hcell (qUp σ k q z w)] at hP1
  rwa [qBlk_set hT hlt (fun a b hab c => by simp only [qUp]; rw [if_neg]; rintro ⟨e1, e2, -⟩; exact hab ⟨e1, by exact_mod_cast e2⟩)] at hP1
theorem r_lald {k c N x : Nat} {i z : Int} (C : Cx E l own cc nL rt n Ret G) (hd : decode cc pc = .ok (.laload, 1)) (hs : qsh (eT E) k = .inr (N, 1, x)) (hc : qcn (eT E) k = c) (hi : 0 ≤ i ∧ i < c) (hz : 0 ≤ z ∧ z < N) (kk : G σ (pc + 1) lv (ql (σ k i z) :: st)) (hN : N < 2147483648 := by decide) : G σ pc lv (qi z :: qr k i :: st) := by
  obtain ⟨p, e, s, m, args, below, meth, cd, ws, ⟨hx, hb, hml, ho, hw⟩, hin, hlk, hrt, hT, hK, rfl⟩ := C
  intro H locs ls hP hS hl
  obtain ⟨q, rfl⟩ : ∃ q : Nat, i = q := ⟨i.toNat, by omega⟩
  have hlt : q < qcn (eT E) k := by omega
  have hg := qBlk_get (σ := σ) hT hlt
  have hcell : qCell E σ k q = .inl (eca E 1, N, .inr (.inl fun j => Int64.ofInt (σ k q j))) := by unfold qCell; rw [hs]; rfl
  rw [hcell] at hg
  simp only [List.map_cons, qv_r (q_n99 hT hlt)]
  refine va_lald (D := eD E) (cl := clz) hx hb hK.1 hP _ 1 hg rfl (z_in hz.1 hz.2 hN) hd ?_
  have := kk H locs ls hP hS hl
  rw [z_nat hz.1 (by omega), Int.toNat_of_nonneg hz.1]
  exact this
theorem r_last {k c N x : Nat} {i z w : Int} (C : Cx E l own cc nL rt n Ret G) (hd : decode cc pc = .ok (.lastore, 1)) (hs : qsh (eT E) k = .inr (N, 1, x)) (hc : qcn (eT E) k = c) (hi : 0 ≤ i ∧ i < c) (hz : 0 ≤ z ∧ z < N) (kk : G (qUp σ k i z w) (pc + 1) lv st) (hN : N < 2147483648 := by decide) : G σ pc lv (ql w :: qi z :: qr k i :: st) := by
  obtain ⟨p, e, s, m, args, below, meth, cd, ws, ⟨hx, hb, hml, ho, hw⟩, hin, hlk, hrt, hT, hK, rfl⟩ := C
  intro H locs ls hP hS hl
  obtain ⟨q, rfl⟩ : ∃ q : Nat, i = q := ⟨i.toNat, by omega⟩
  have hlt : q < qcn (eT E) k := by omega
  have hg := qBlk_get (σ := σ) hT hlt
  have hcell : ∀ σ : qSt, qCell E σ k q = .inl (eca E 1, N, .inr (.inl fun j => Int64.ofInt (σ k q j))) := fun σ => by unfold qCell; rw [hs]; rfl
  rw [hcell] at hg
  simp only [List.map_cons, qv_r (q_n99 hT hlt)]
  refine va_last (D := eD E) (cl := clz) (A := eA E) hx hb hK.1 hP (qBlk_D E σ) hS _ 1 hg rfl (z_in hz.1 hz.2 hN) hd (fun H1 locs1 hP1 _ hS1 => ?_)
  refine kk H1 locs1 ls ?_ hS1 hl
  have e1 : vp_updL (fun j : Nat => Int64.ofInt (σ k q j)) (Int32.ofInt z).toNatClampNeg (Int64.ofInt w) = fun j : Nat => Int64.ofInt (qUp σ k q z w k q j) := by
    funext j
    rw [z_nat hz.1 (by omega)]
    by_cases hj : j = z.toNat
    · have h2 : (j : Int) = z := by omega
      simp [vp_updL, hj, qUp, Int.toNat_of_nonneg hz.1]
    · have h2 : ¬ (j : Int) = z := by omega
      simp [vp_updL, hj, qUp, h2]
  rw [e1, ← hcell (qUp σ k q z w)] at hP1
  rwa [qBlk_set hT hlt (fun a b hab c => by simp only [qUp]; rw [if_neg]; rintro ⟨e1, e2, -⟩; exact hab ⟨e1, by exact_mod_cast e2⟩)] at hP1
theorem q_ty {ca : Nat → ClassId} {ek : Nat} (h : ek < 5) : ∃ ty, (qTys ca)[ek + 2]? = some (ca (ek + 2), ty) ∧ refKind ty = true := by
  rcases (by omega : ek = 0 ∨ ek = 1 ∨ ek = 2 ∨ ek = 3 ∨ ek = 4) with rfl | rfl | rfl | rfl | rfl
  · exact ⟨_, rfl, rfl⟩
  · exact ⟨_, rfl, rfl⟩
  · exact ⟨_, rfl, rfl⟩
  · exact ⟨_, rfl, rfl⟩
  · exact ⟨_, rfl, rfl⟩
theorem r_aald {k c N ek tk : Nat} {i z : Int} (C : Cx E l own cc nL rt n Ret G) (hd : decode cc pc = .ok (.aaload, 1)) (hs : qsh (eT E) k = .inr (N, ek + 2, tk)) (hek : ek < 5) (hc : qcn (eT E) k = c) (hi : 0 ≤ i ∧ i < c) (hz : 0 ≤ z ∧ z < N) (h9 : (tk == 99) = false) (kk : G σ (pc + 1) lv (qr tk z :: st)) (hN : N < 2147483648 := by decide) : G σ pc lv (qi z :: qr k i :: st) := by
  obtain ⟨p, e, s, m, args, below, meth, cd, ws, ⟨hx, hb, hml, ho, hw⟩, hin, hlk, hrt, hT, hK, rfl⟩ := C
  intro H locs ls hP hS hl
  obtain ⟨q, rfl⟩ : ∃ q : Nat, i = q := ⟨i.toNat, by omega⟩
  have hlt : q < qcn (eT E) k := by omega
  have hg := qBlk_get (σ := σ) hT hlt
  have hcell : qCell E σ k q = .inl (eca E (ek + 2), N, .inr (.inr (.inr (.inr fun j => some (eo E + qad (eT E) tk j))))) := by unfold qCell; rw [hs]; rfl
  rw [hcell] at hg
  obtain ⟨ty, ht, hrk⟩ := q_ty (ca := eca E) hek
  simp only [List.map_cons, qv_r (q_n99 hT hlt)]
  have hzn : (Int32.ofInt z).toNatClampNeg = z.toNat := z_nat hz.1 (by omega)
  refine W.aald (v := .ref (eo E + qad (eT E) tk z.toNat)) (ty := ty) hx hb (hP _ _ hg) ((hK.1.2 _ _ ht).1 N (fun j => va_rf (some (eo E + qad (eT E) tk j)))) hrk (fun q => by cases q) (by show ¬ (Int32.ofInt z < 0 ∨ (arrV _ _ _).slots.size ≤ _); rw [arrV_size]; exact z_in hz.1 hz.2 hN) (by show (arrV _ _ _).slots[_]? = _; rw [arrV_read _ _ (show (Int32.ofInt z).toNatClampNeg < N by rw [hzn]; omega), hzn]; rfl) rfl rfl hd ?_
  have := kk H locs ls hP hS hl
  obtain ⟨q2, rfl⟩ : ∃ q : Nat, z = q := ⟨z.toNat, by omega⟩
  simp only [List.map_cons, qv_r (E := E) (k := tk) (m := q2) (by simpa using h9)] at this
  exact this
theorem r_getst (C : Cx E l RX9 cc nL rt n Ret G) (hd : decode cc pc = .ok (.getstatic 37, 3)) (kk : G σ (pc + 3) lv (qr 99 0 :: st)) : G σ pc lv st := by
  obtain ⟨p, e, s, m, args, below, meth, cd, ws, ⟨hx, hb, hml, ho, hw⟩, hin, hlk, hrt, hT, hK, rfl⟩ := C
  intro H locs ls hP hS hl
  refine va_getsN hx hb hK.2.1 hS ho (va_Nw.use rfl hK.2.2.2) (fun x h => h) hd ?_
  exact kk H locs ls hP hS hl
theorem r_uald {z v : Int} (C : Cx E l own cc nL rt n Ret G) (hd : decode cc pc = .ok (.iaload, 1)) (hz : 0 ≤ z ∧ z < 4) (hv : v = if z = 0 then -1 else if z = 3 then 1 else 0) (kk : G σ (pc + 1) lv (qi v :: st)) : G σ pc lv (qi z :: qr 99 0 :: st) := by
  obtain ⟨p, e, s, m, args, below, meth, cd, ws, ⟨hx, hb, hml, ho, hw⟩, hin, hlk, hrt, hT, hK, rfl⟩ := C
  intro H locs ls hP hS hl
  subst hv
  refine va_ti hx hb hK.2.2.1 hS (z_in hz.1 (by omega) (by decide)) (v := qv E (qi (if z = 0 then -1 else if z = 3 then 1 else 0))) ?_ hd (kk H locs ls hP hS hl)
  rw [z_nat hz.1 (by omega)]
  rcases (by omega : z = 0 ∨ z = 1 ∨ z = 2 ∨ z = 3) with rfl | rfl | rfl | rfl <;> rfl
/-! ends -/
theorem r_iret {z : Int} (C : Cx E l own cc nL (some .int) n Ret G) (hd : decode cc pc = .ok (.ireturn, 1)) (h : Ret (some (qi z)) σ) : G σ pc lv [qi z] := by
  obtain ⟨p, e, s, m, args, below, meth, cd, ws, ⟨hx, hb, hml, ho, hw⟩, hin, hlk, hrt, hT, hK, rfl⟩ := C
  intro H locs ls hP hS hl
  exact W.iret hx hb hrt (fun t ht hW => ⟨⟨some (qi z), σ, rfl, h, by rw [ht]; exact hP⟩, hS.F ht⟩) hS.2.2 hd
theorem r_zret {z : Int} (C : Cx E l own cc nL (some .boolean) n Ret G) (hd : decode cc pc = .ok (.ireturn, 1)) (hz : z = 0 ∨ z = 1) (h : Ret (some (qi z)) σ) : G σ pc lv [qi z] := by
  obtain ⟨p, e, s, m, args, below, meth, cd, ws, ⟨hx, hb, hml, ho, hw⟩, hin, hlk, hrt, hT, hK, rfl⟩ := C
  intro H locs ls hP hS hl
  exact W.zret hx hb hrt (by rcases hz with rfl | rfl <;> rfl) (fun t ht hW => ⟨⟨some (qi z), σ, rfl, h, by rw [ht]; exact hP⟩, hS.F ht⟩) hS.2.2 hd
theorem r_vret (C : Cx E l own cc nL none n Ret G) (hd : decode cc pc = .ok (.return_, 1)) (h : Ret none σ) : G σ pc lv [] := by
  obtain ⟨p, e, s, m, args, below, meth, cd, ws, ⟨hx, hb, hml, ho, hw⟩, hin, hlk, hrt, hT, hK, rfl⟩ := C
  intro H locs ls hP hS hl
  exact W.vret hx hb hrt (fun t ht hW => ⟨⟨none, σ, rfl, h, by rw [ht]; exact hP⟩, hS.F ht⟩) hS.2.2 hd
theorem r_aret {D : String} {k : Nat} {i : Int} (C : Cx E l own cc nL (some (.object D)) n Ret G) (hd : decode cc pc = .ok (.areturn, 1)) (h : Ret (some (qr k i)) σ) : G σ pc lv [qr k i] := by
  obtain ⟨p, e, s, m, args, below, meth, cd, ws, ⟨hx, hb, hml, ho, hw⟩, hin, hlk, hrt, hT, hK, rfl⟩ := C
  intro H locs ls hP hS hl
  exact W.aret hx hb hrt (Or.inl ⟨_, rfl⟩) (Or.inr (qv_ref E k i)) (fun t ht hW => ⟨⟨some (qr k i), σ, rfl, h, by rw [ht]; exact hP⟩, hS.F ht⟩) hS.2.2 hd
end
