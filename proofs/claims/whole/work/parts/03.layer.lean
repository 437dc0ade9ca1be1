/-! a layer over the kit: states of whole numbers, references by kind and number, one world a block -/
abbrev qSt : Type := Nat → Int → Int → Int
abbrev qV : Type := Int ⊕ (Int ⊕ (Nat × Int))
abbrev qi (z : Int) : qV := Sum.inl z
abbrev ql (z : Int) : qV := Sum.inr (Sum.inl z)
abbrev qr (k : Nat) (i : Int) : qV := Sum.inr (Sum.inr (k, i))
/-- the shape of a kind: an object (class, its slots: none a number, some k a reference to the one of kind k with the same number), or an array (length; 0 ints, 1 longs, else references; kind of its targets) -/
abbrev qShp : Type := (Nat × List (Option Nat)) ⊕ (Nat × Nat × Nat)
/-- cells, kind and number of a cell, cell of a kind and number, how many of a kind, shape of a kind -/
abbrev qT : Type := Nat × (Nat → Nat × Nat) × (Nat → Nat → Nat) × (Nat → Nat) × (Nat → qShp)
abbrev qE : Type := qT × Nat × Nat × va_G × (Nat → ClassId)
def qN (T : qT) : Nat := T.1
def qkd (T : qT) : Nat → Nat × Nat := T.2.1
def qad (T : qT) : Nat → Nat → Nat := T.2.2.1
def qcn (T : qT) : Nat → Nat := T.2.2.2.1
def qsh (T : qT) : Nat → qShp := T.2.2.2.2
def eT (E : qE) : qT := E.1
def eo (E : qE) : Nat := E.2.1
def eu (E : qE) : Nat := E.2.2.1
def eD (E : qE) : va_G := E.2.2.2.1
def eca (E : qE) : Nat → ClassId := E.2.2.2.2
def eA (E : qE) : Nat → Prop := fun q => eo E ≤ q ∧ q < eo E + qN (eT E)
def clz : List vw_C := [(RX0, TX0, 5), (RX1, TX1, 5), (RX2, TX2, 5), (RX3, TX3, 3), (RX4, TX4, 6), (RX5, TX5, 3), (RX6, TX6, 1), (RX7, TX7, 11), (RX8, TX8, 3), (RX9, TX9, 8), (RX10, TX10, 13), (RX11, TX11, 21)]
def qTys (ca : Nat → ClassId) : List (ClassId × FieldType) := [(ca 0, .int), (ca 1, .long), (ca 2, .object RX5), (ca 3, .object RX9), (ca 4, .object RX8), (ca 5, .object RX0), (ca 6, .array .int)]
def qUp (σ : qSt) (k : Nat) (i j z : Int) : qSt := fun a b c => if a = k ∧ b = i ∧ c = j then z else σ a b c
def qv (E : qE) : qV → Value
  | .inl z => .int (Int32.ofInt z)
  | .inr (.inl z) => .long (Int64.ofInt z)
  | .inr (.inr (k, i)) => if k = 99 then .ref (eu E) else .ref (eo E + qad (eT E) k i.toNat)
def qFld (E : qE) (f : Int → Int) (i : Nat) : List (Option Nat) → Nat → List Value
  | [], _ => []
  | none :: r, j => .int (Int32.ofInt (f j)) :: qFld E f i r (j + 1)
  | some t :: r, j => .ref (eo E + qad (eT E) t i) :: qFld E f i r (j + 1)
def qCellS (E : qE) (f : Int → Int) (i : Nat) : qShp → va_E
  | .inl (ci, fl) => .inr (ci, qFld E f i fl 0)
  | .inr (n, 0, _) => .inl (eca E 0, n, .inl fun j => Int32.ofInt (f j))
  | .inr (n, 1, _) => .inl (eca E 1, n, .inr (.inl fun j => Int64.ofInt (f j)))
  | .inr (n, ek + 2, tk) => .inl (eca E (ek + 2), n, .inr (.inr (.inr (.inr fun j => some (eo E + qad (eT E) tk j)))))
def qCell (E : qE) (σ : qSt) (k i : Nat) : va_E := qCellS E (σ k i) i (qsh (eT E) k)
def qBlk (E : qE) (σ : qSt) : va_W := (List.range (qN (eT E))).map fun q => (eo E + q, qCell E σ (qkd (eT E) q).1 (qkd (eT E) q).2)
def qTok (T : qT) : Prop := qcn T 99 = 0 ∧ (∀ k i, i < qcn T k → qad T k i < qN T ∧ qkd T (qad T k i) = (k, i)) ∧ ∀ q, q < qN T → qad T (qkd T q).1 (qkd T q).2 = q
def qUnd : Nat → Value := fun j => match j with
  | 0 => .int (-1)
  | 1 => .int 0
  | 2 => .int 0
  | _ => .int 1
def qWok (E : qE) (U : State) (H : Heap) : Prop := va_K (eD E) clz (qTys (eca E)) U ∧ va_Z RX10 "UNDER" "[I" (.ref (eu E)) (eA E) U H ∧ va_T .int (eu E) 4 qUnd (eA E) U H ∧ va_Nw (.fieldLinkNest RX9 37 RX10 "UNDER" "[I" RX10) U
/-! cells and blocks -/
theorem qUp_eq (σ : qSt) (k : Nat) (i j z : Int) : qUp σ k i j z k i j = z := by simp [qUp]
theorem qUp_ne {σ : qSt} {k a : Nat} {i j z b c : Int} (h : ¬ (a = k ∧ b = i ∧ c = j)) : qUp σ k i j z a b c = σ a b c := by simp [qUp, h]
theorem qFld_len (E : qE) (f : Int → Int) (i : Nat) : ∀ (fl : List (Option Nat)) (j : Nat), (qFld E f i fl j).length = fl.length
  | [], _ => rfl
  | none :: r, j => by simp [qFld, qFld_len E f i r]
  | some t :: r, j => by simp [qFld, qFld_len E f i r]
theorem qFld_i (E : qE) (f : Int → Int) (i : Nat) : ∀ (fl : List (Option Nat)) (b j : Nat), fl[j]? = some none → (qFld E f i fl b)[j]? = some (.int (Int32.ofInt (f ((b + j : Nat) : Int))))
  | [], _, _, h => by simp at h
  | none :: r, b, 0, h => by simp [qFld]
  | some t :: r, b, 0, h => by simp at h
  | none :: r, b, j + 1, h => by
    have := qFld_i E f i r (b + 1) j (by simpa using h)
    simp only [qFld, List.getElem?_cons_succ, this]
    congr 4
    omega
  | some t :: r, b, j + 1, h => by
    have := qFld_i E f i r (b + 1) j (by simpa using h)
    simp only [qFld, List.getElem?_cons_succ, this]
    congr 4
    omega
theorem qFld_r (E : qE) (f : Int → Int) (i : Nat) {t : Nat} : ∀ (fl : List (Option Nat)) (b j : Nat), fl[j]? = some (some t) → (qFld E f i fl b)[j]? = some (.ref (eo E + qad (eT E) t i))
  | [], _, _, h => by simp at h
  | none :: r, b, 0, h => by simp at h
  | some t' :: r, b, 0, h => by
    simp at h
    subst h
    simp [qFld]
  | none :: r, b, j + 1, h => by
    simp only [qFld, List.getElem?_cons_succ]
    exact qFld_r E f i r (b + 1) j (by simpa using h)
  | some t' :: r, b, j + 1, h => by
    simp only [qFld, List.getElem?_cons_succ]
    exact qFld_r E f i r (b + 1) j (by simpa using h)
theorem qFld_set (E : qE) (f g : Int → Int) (i : Nat) (z : Int) (x : Nat) (hx : g x = z) (hg : ∀ c, c ≠ (x : Int) → g c = f c) : ∀ (fl : List (Option Nat)) (b j : Nat), b + j = x → fl[j]? = some none → (qFld E f i fl b).set j (.int (Int32.ofInt z)) = qFld E g i fl b
  | [], _, _, _, h => by simp at h
  | none :: r, b, 0, e, h => by
    have hr : ∀ (r : List (Option Nat)) (b : Nat), x < b → qFld E f i r b = qFld E g i r b := by
      intro r
      induction r with
      | nil => intro b _; rfl
      | cons a r ih =>
        intro b hb
        cases a with
        | none => simp only [qFld]; rw [ih (b + 1) (by omega), hg b (by omega)]
        | some t => simp only [qFld]; rw [ih (b + 1) (by omega)]
    simp only [qFld, List.set_cons_zero]
    rw [hr r (b + 1) (by omega), show ((b : Nat) : Int) = (x : Int) by omega, hx]
  | some t :: r, b, 0, _, h => by simp at h
  | none :: r, b, j + 1, e, h => by
    simp only [qFld, List.set_cons_succ]
    rw [qFld_set E f g i z x hx hg r (b + 1) j (by omega) (by simpa using h), hg b (by omega)]
  | some t :: r, b, j + 1, e, h => by
    simp only [qFld, List.set_cons_succ]
    rw [qFld_set E f g i z x hx hg r (b + 1) j (by omega) (by simpa using h)]
theorem qBlk_get {E : qE} {σ : qSt} (hT : qTok (eT E)) {k i : Nat} (hi : i < qcn (eT E) k) : (qBlk E σ)[qad (eT E) k i]? = some (eo E + qad (eT E) k i, qCell E σ k i) := by
  obtain ⟨h1, h2⟩ := hT.2.1 k i hi
  simp [qBlk, List.getElem?_range h1, h2]
theorem qBlk_set {E : qE} {σ σ' : qSt} (hT : qTok (eT E)) {k i : Nat} (hi : i < qcn (eT E) k) (ho : ∀ (a b : Nat), ¬ (a = k ∧ b = i) → ∀ c, σ' a b c = σ a b c) : (qBlk E σ).set (qad (eT E) k i) (eo E + qad (eT E) k i, qCell E σ' k i) = qBlk E σ' := by
  obtain ⟨h1, h2⟩ := hT.2.1 k i hi
  apply List.ext_getElem?
  intro q
  by_cases hq : q = qad (eT E) k i
  · subst hq
    rw [List.getElem?_set_self (by simp [qBlk]; exact h1), qBlk_get hT hi]
  · rw [List.getElem?_set_ne (fun h => hq h.symm)]
    by_cases hl : q < qN (eT E)
    · simp only [qBlk, List.getElem?_map, List.getElem?_range hl, Option.map_some]
      congr 2
      unfold qCell
      congr 1
      funext c
      refine (ho _ _ ?_ c).symm
      rintro ⟨e1, e2⟩
      have := hT.2.2 q hl
      rw [e1, e2] at this
      exact hq this.symm
    · rw [List.getElem?_eq_none (by simp [qBlk]; omega), List.getElem?_eq_none (by simp [qBlk]; omega)]
theorem qBlk_D (E : qE) (σ : qSt) : va_D (eA E) (qBlk E σ) := by
  have key : ∀ (k : Nat) (x : Nat × va_E), (qBlk E σ)[k]? = some x → k < qN (eT E) ∧ x.1 = eo E + k := by
    intro k x hx
    have hl : k < qN (eT E) := by
      have := (List.getElem?_eq_some_iff.mp hx).1
      simpa [qBlk] using this
    simp only [qBlk, List.getElem?_map, List.getElem?_range hl, Option.map_some] at hx
    cases hx
    exact ⟨hl, rfl⟩
  refine ⟨fun i j p q hi hj e => ?_, fun k q hk => ?_⟩
  · have a := key i p hi
    have b := key j q hj
    omega
  · have a := key k q hk
    exact ⟨by omega, by omega⟩
theorem qWok.same {E : qE} {u U : State} {H : Heap} (hvm : u.vm = U.vm) (h : qWok E u H) : qWok E U H := by
  have ha : u.vm.Alike U.vm := by rw [hvm]; exact Vm.Alike.refl U.vm
  exact ⟨va_K.moved ha h.1, va_Z.moved ha h.2.1, va_T.moved ha h.2.2.1, va_Nw.same rfl hvm h.2.2.2⟩
theorem qWok.warm {E : qE} {u U : State} {H : Heap} (hW : u.WarmedH U.vm) (h : qWok E u H) : qWok E U H := ⟨va_K.moved hW.alike h.1, va_Z.moved hW.alike h.2.1, va_T.moved hW.alike h.2.2.1, va_Nw.warmF hW h.2.2.2⟩
theorem qWok.kept {E : qE} {U : State} {H H1 : Heap} (h : qWok E U H) (hq : ∀ a : Nat, a < H.size → ¬ eA E a → H1[a]? = H[a]?) : qWok E U H1 := ⟨h.1, va_Z.kept h.2.1 hq, va_T.kept h.2.2.1 hq, h.2.2.2⟩
/-! locals -/
def qAs (E : qE) : List (Option qV) → Nat → List (Nat × Value)
  | [], _ => []
  | none :: r, i => qAs E r (i + 1)
  | some v :: r, i => (i, qv E v) :: qAs E r (i + 1)
theorem qAs_mem (E : qE) : ∀ (lv : List (Option qV)) (b : Nat) (x : Nat × Value), x ∈ qAs E lv b ↔ ∃ j v, lv[j]? = some (some v) ∧ x = (b + j, qv E v)
  | [], b, x => by simp [qAs]
  | none :: r, b, x => by
    simp only [qAs, qAs_mem E r]
    constructor
    · rintro ⟨j, v, h, rfl⟩
      exact ⟨j + 1, v, by simpa using h, by congr 1; omega⟩
    · rintro ⟨j, v, h, rfl⟩
      cases j with
      | zero => simp at h
      | succ j => exact ⟨j, v, by simpa using h, by congr 1; omega⟩
  | some w :: r, b, x => by
    simp only [qAs, List.mem_cons, qAs_mem E r]
    constructor
    · rintro (rfl | ⟨j, v, h, rfl⟩)
      · exact ⟨0, w, by simp, by simp⟩
      · exact ⟨j + 1, v, by simpa using h, by congr 1; omega⟩
    · rintro ⟨j, v, h, rfl⟩
      cases j with
      | zero =>
        simp at h
        left
        rw [h]
        rfl
      | succ j => exact Or.inr ⟨j, v, by simpa using h, by congr 1; omega⟩
def qLs (E : qE) (ls : Array Slot) (nL : Nat) (lv : List (Option qV)) : Prop := lv_has ls nL (qAs E lv 0)
theorem qLs.at {E : qE} {ls : Array Slot} {nL : Nat} {lv : List (Option qV)} (h : qLs E ls nL lv) {k : Nat} {v : qV} (hk : lv[k]? = some (some v)) : ls[k]? = some (.val (qv E v)) := h.2.2 (k, qv E v) ((qAs_mem E lv 0 _).mpr ⟨k, v, hk, by simp⟩)
def qSet : List (Option qV) → Nat → Option qV → Option (List (Option qV))
  | [], _, _ => none
  | _ :: r, 0, v => some (v :: r)
  | x :: r, k + 1, v => match qSet r k v with
    | some r' => some (x :: r')
    | none => none
theorem qSet_get : ∀ (lv : List (Option qV)) (k : Nat) (v : Option qV) (lv' : List (Option qV)), qSet lv k v = some lv' → ∀ j : Nat, lv'[j]? = if j = k then some v else lv[j]?
  | [], _, _, _, h => by simp [qSet] at h
  | x :: r, 0, v, lv', h => by
    simp only [qSet, Option.some.injEq] at h
    subst h
    intro j
    cases j <;> simp
  | x :: r, k + 1, v, lv', h => by
    simp only [qSet] at h
    split at h
    · next r' hr =>
      simp only [Option.some.injEq] at h
      subst h
      intro j
      cases j with
      | zero => simp
      | succ j =>
        have := qSet_get r k v r' hr j
        simpa using this
    · cases h
def qOk (lv : List (Option qV)) (k : Nat) : Bool := match k with
  | 0 => true
  | j + 1 => match lv[j]? with
    | some (some (.inr (.inl _))) => false
    | _ => true
theorem qv_cat (E : qE) (v : qV) (h : ∀ z, v ≠ ql z) : (qv E v).category = 1 := by
  match v, h with
  | .inl z, _ => rfl
  | .inr (.inl z), h => exact absurd rfl (h z)
  | .inr (.inr (k, i)), _ =>
    simp only [qv]
    split <;> rfl
theorem qLs.set1 {E : qE} {ls' : Array Slot} {nL k : Nat} {lv lv' : List (Option qV)} {v : qV} (hs : qSet lv k (some v) = some lv') (ho : qOk lv k = true) (h : lv_has ls' nL ((k, qv E v) :: (qAs E lv 0).filter (fun q => !(q.1 == k) && !(q.1 + 1 == k && q.2.category == 2)))) : qLs E ls' nL lv' := by
  refine ⟨h.1, h.2.1, fun x hx => h.2.2 x ?_⟩
  obtain ⟨j, w, hj, rfl⟩ := (qAs_mem E lv' 0 x).mp hx
  rw [qSet_get lv k _ lv' hs j] at hj
  simp only [Nat.zero_add]
  by_cases e : j = k
  · subst e
    simp at hj
    subst hj
    exact List.mem_cons_self
  · rw [if_neg e] at hj
    refine List.mem_cons_of_mem _ (List.mem_filter.mpr ⟨(qAs_mem E lv 0 _).mpr ⟨j, w, hj, by simp⟩, ?_⟩)
    simp only [Bool.and_eq_true, Bool.not_eq_true', beq_eq_false_iff_ne, ne_eq, Bool.and_eq_false_iff]
    refine ⟨e, ?_⟩
    by_cases e2 : j + 1 = k
    · right
      subst e2
      have h1 : (qv E w).category = 1 := qv_cat E w (fun z hz => by
        subst hz
        simp [qOk, hj] at ho)
      omega
    · exact Or.inl e2
theorem qLs.set2 {E : qE} {ls' : Array Slot} {nL k : Nat} {lv lv1 lv' : List (Option qV)} {v : qV} (hs : qSet lv k (some v) = some lv1) (hs2 : qSet lv1 (k + 1) none = some lv') (ho : qOk lv k = true) (h : lv_has ls' nL ((k, qv E v) :: (qAs E lv 0).filter (fun q => !(q.1 == k) && (!(q.1 == k + 1) && !(q.1 + 1 == k && q.2.category == 2))))) : qLs E ls' nL lv' := by
  refine ⟨h.1, h.2.1, fun x hx => h.2.2 x ?_⟩
  obtain ⟨j, w, hj, rfl⟩ := (qAs_mem E lv' 0 x).mp hx
  rw [qSet_get lv1 (k + 1) _ lv' hs2 j] at hj
  by_cases e1 : j = k + 1
  · rw [if_pos e1] at hj
    cases hj
  rw [if_neg e1, qSet_get lv k _ lv1 hs j] at hj
  simp only [Nat.zero_add]
  by_cases e : j = k
  · subst e
    simp at hj
    subst hj
    exact List.mem_cons_self
  · rw [if_neg e] at hj
    refine List.mem_cons_of_mem _ (List.mem_filter.mpr ⟨(qAs_mem E lv 0 _).mpr ⟨j, w, hj, by simp⟩, ?_⟩)
    simp only [Bool.and_eq_true, Bool.not_eq_true', beq_eq_false_iff_ne, ne_eq, Bool.and_eq_false_iff]
    refine ⟨e, e1, ?_⟩
    by_cases e2 : j + 1 = k
    · right
      subst e2
      have h1 : (qv E w).category = 1 := qv_cat E w (fun z hz => by
        subst hz
        simp [qOk, hj] at ho)
      omega
    · exact Or.inl e2
