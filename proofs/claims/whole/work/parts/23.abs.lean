/-! THE DESK, as a mathematical state -/
abbrev aLn : Type := Int × List Int
abbrev aSy : Type := Int × Int × Int × Int
abbrev aWd : Type := Int × Int × Int × List aSy
abbrev aTx : Type := Int × Int × Int × Int
/-- lines, wordings, texts, names, actors of parts, free days, rooms, loops -/
abbrev aCur : Type := List aLn × List aWd × List aTx × (Int → Int) × (Int → Int) × (Int → Int) × (Int → Int) × List Int
/-- an act: deed, which, was, a row -/
abbrev aAct : Type := Int × Int × Int × List Int
/-- the present, the acts (latest first), findings, sheets: bits, sizes, numbers modulo 4 -/
abbrev aSt : Type := aCur × List aAct × Int × (Int → Int) × (Int → Int) × (Int → Int → Int)
abbrev cL (c : aCur) : List aLn := c.1
abbrev cW (c : aCur) : List aWd := c.2.1
abbrev cT (c : aCur) : List aTx := c.2.2.1
abbrev cN (c : aCur) : Int → Int := c.2.2.2.1
abbrev cA (c : aCur) : Int → Int := c.2.2.2.2.1
abbrev cF (c : aCur) : Int → Int := c.2.2.2.2.2.1
abbrev cR (c : aCur) : Int → Int := c.2.2.2.2.2.2.1
abbrev cO (c : aCur) : List Int := c.2.2.2.2.2.2.2
abbrev sL (c : aCur) (x : List aLn) : aCur := (x, c.2)
abbrev sW (c : aCur) (x : List aWd) : aCur := (c.1, x, c.2.2)
abbrev sT (c : aCur) (x : List aTx) : aCur := (c.1, c.2.1, x, c.2.2.2)
abbrev sN (c : aCur) (x : Int → Int) : aCur := (c.1, c.2.1, c.2.2.1, x, c.2.2.2.2)
abbrev sA (c : aCur) (x : Int → Int) : aCur := (c.1, c.2.1, c.2.2.1, c.2.2.2.1, x, c.2.2.2.2.2)
abbrev sF (c : aCur) (x : Int → Int) : aCur := (c.1, c.2.1, c.2.2.1, c.2.2.2.1, c.2.2.2.2.1, x, c.2.2.2.2.2.2)
abbrev sR (c : aCur) (x : Int → Int) : aCur := (c.1, c.2.1, c.2.2.1, c.2.2.2.1, c.2.2.2.2.1, c.2.2.2.2.2.1, x, c.2.2.2.2.2.2.2)
abbrev sO (c : aCur) (x : List Int) : aCur := (c.1, c.2.1, c.2.2.1, c.2.2.2.1, c.2.2.2.2.1, c.2.2.2.2.2.1, c.2.2.2.2.2.2.1, x)
/-! lists -/
def mdf {α : Type} (f : α → α) : List α → Nat → List α
  | [], _ => []
  | x :: r, 0 => f x :: r
  | x :: r, i + 1 => x :: mdf f r i
theorem mdf_len {α : Type} (f : α → α) : ∀ (l : List α) (i : Nat), (mdf f l i).length = l.length
  | [], _ => rfl
  | x :: r, 0 => rfl
  | x :: r, i + 1 => by simp [mdf, mdf_len f r i]
theorem mdf_get {α : Type} (f : α → α) : ∀ (l : List α) (i j : Nat), (mdf f l i)[j]? = if j = i then l[j]?.map f else l[j]?
  | [], i, j => by simp [mdf]
  | x :: r, 0, 0 => by simp [mdf]
  | x :: r, 0, j + 1 => by simp [mdf]
  | x :: r, i + 1, 0 => by simp [mdf]
  | x :: r, i + 1, j + 1 => by simp [mdf, mdf_get f r i j]
theorem mdf_mdf {α : Type} (f g : α → α) : ∀ (l : List α) (i : Nat), mdf g (mdf f l i) i = mdf (fun x => g (f x)) l i
  | [], _ => rfl
  | x :: r, 0 => rfl
  | x :: r, i + 1 => by simp [mdf, mdf_mdf f g r i]
theorem mdf_id {α : Type} (f : α → α) : ∀ (l : List α) (i : Nat), (∀ x, l[i]? = some x → f x = x) → mdf f l i = l
  | [], _, _ => rfl
  | x :: r, 0, h => by simp [mdf, h x rfl]
  | x :: r, i + 1, h => by simp [mdf, mdf_id f r i (fun y hy => h y (by simpa using hy))]
theorem mdf_cg {α : Type} {f g : α → α} : ∀ (l : List α) (i : Nat), (∀ x, l[i]? = some x → f x = g x) → mdf f l i = mdf g l i
  | [], _, _ => rfl
  | x :: r, 0, h => by simp [mdf, h x rfl]
  | x :: r, i + 1, h => by simp [mdf, mdf_cg r i (fun y hy => h y (by simpa using hy))]
/-- what an act's undoing makes of the present -/
def undoA (a : aAct) (c : aCur) : aCur :=
  if a.1 = 0 then sL c (cL c).dropLast
  else if a.1 = 1 then sL c (mdf (fun x => (x.1, x.2.dropLast)) (cL c) a.2.1.toNat)
  else if a.1 = 2 then sW c (cW c).dropLast
  else if a.1 = 3 then sW c (mdf (fun x => (x.1, x.2.1, x.2.2.1, x.2.2.2.dropLast)) (cW c) a.2.1.toNat)
  else if a.1 = 4 then sW c (mdf (fun x => (x.1, x.2.1, x.2.2.1, x.2.2.2 ++ [(a.2.2.2.getD 0 0, a.2.2.2.getD 1 0, a.2.2.2.getD 2 0, a.2.2.2.getD 3 0)])) (cW c) a.2.1.toNat)
  else if a.1 = 5 then sN c (updF (cN c) a.2.1 a.2.2.1)
  else if a.1 = 6 then sT c (cT c).dropLast
  else if a.1 = 7 then sA c (updF (cA c) a.2.1 a.2.2.1)
  else if a.1 = 8 then sF c (updF (cF c) a.2.1 a.2.2.1)
  else if a.1 = 9 then sR c (updF (cR c) a.2.1 a.2.2.1)
  else if a.1 = 10 then sO c (cO c).dropLast
  else if a.1 = 11 then sO c (cO c ++ [a.2.2.1])
  else sL c (mdf (fun x => (x.1, a.2.2.2)) (cL c) a.2.1.toNat)
/-- the states behind one undoing, two, .. -/
def undoN (c : aCur) : List aAct → List aCur
  | [] => []
  | a :: r => undoA a c :: undoN (undoA a c) r
/-! what holds of every present -/
def GoodL (l : List aLn) : Prop := l.length ≤ 12 ∧ ∀ (i : Nat) (x : aLn), l[i]? = some x → 0 ≤ x.1 ∧ x.1 < 6 ∧ x.2.length ≤ 24 ∧ ∀ (j : Nat) (s : Int), x.2[j]? = some s → 0 ≤ s ∧ s < 4
def GoodW (n : Nat) (l : List aWd) : Prop := l.length ≤ 20 ∧ ∀ (i : Nat) (x : aWd), l[i]? = some x → 0 ≤ x.1 ∧ x.1 < n ∧ 0 ≤ x.2.1 ∧ x.2.1 < 4 ∧ 0 ≤ x.2.2.1 ∧ x.2.2.1 ≤ 100 ∧ x.2.2.2.length ≤ 8 ∧ ∀ (j : Nat) (s : aSy), x.2.2.2[j]? = some s → 0 ≤ s.1 ∧ s.1 < 4 ∧ 1 ≤ s.2.1 ∧ s.2.1 ≤ 6 ∧ s.2.1 ≤ s.2.2.1 ∧ s.2.2.1 ≤ 6 ∧ 0 ≤ s.2.2.2 ∧ s.2.2.2 < 32
def GoodT (l : List aTx) : Prop := l.length ≤ 40 ∧ ∀ (i : Nat) (x : aTx), l[i]? = some x → 0 ≤ x.1 ∧ x.1 < 3 ∧ 0 ≤ x.2.1 ∧ x.2.1 < 3 ∧ 0 ≤ x.2.2.1 ∧ x.2.2.1 < 32 ∧ 0 ≤ x.2.2.2 ∧ x.2.2.2 < 1000
def GoodO (n : Nat) (l : List Int) : Prop := l.length ≤ 7 ∧ ∀ (i : Nat) (x : Int), l[i]? = some x → 0 < x ∧ x < 2 ^ n
def GoodF (N lo hi : Int) (f : Int → Int) : Prop := ∀ i, 0 ≤ i → i < N → lo ≤ f i ∧ f i ≤ hi
def Good (c : aCur) : Prop := GoodL (cL c) ∧ GoodW (cL c).length (cW c) ∧ GoodT (cT c) ∧ GoodF 32 (-1) 7 (cN c) ∧ GoodF 6 (-1) 7 (cA c) ∧ GoodF 8 0 15 (cF c) ∧ GoodF 4 0 100 (cR c) ∧ GoodO (cL c).length (cO c)
def ActOk (a : aAct) (c : aCur) : Prop :=
  0 ≤ a.1 ∧ a.1 ≤ 12 ∧ (a.1 = 0 → (cL c).length ≠ 0) ∧ (a.1 = 1 → 0 ≤ a.2.1 ∧ ∃ x, (cL c)[a.2.1.toNat]? = some x ∧ x.2.length ≠ 0) ∧ (a.1 = 2 → (cW c).length ≠ 0) ∧ (a.1 = 3 → 0 ≤ a.2.1 ∧ ∃ x, (cW c)[a.2.1.toNat]? = some x ∧ x.2.2.2.length ≠ 0) ∧
  (a.1 = 4 → 0 ≤ a.2.1 ∧ (∃ x, (cW c)[a.2.1.toNat]? = some x ∧ x.2.2.2.length < 8) ∧ a.2.2.2.length = 4) ∧ (a.1 = 5 → 0 ≤ a.2.1 ∧ a.2.1 < 32) ∧ (a.1 = 6 → (cT c).length ≠ 0) ∧ (a.1 = 7 → 0 ≤ a.2.1 ∧ a.2.1 < 6) ∧ (a.1 = 8 → 0 ≤ a.2.1 ∧ a.2.1 < 8) ∧ (a.1 = 9 → 0 ≤ a.2.1 ∧ a.2.1 < 4) ∧ (a.1 = 10 → (cO c).length ≠ 0) ∧ (a.1 = 11 → (cO c).length < 7) ∧
  (a.1 = 12 → 0 ≤ a.2.1 ∧ (∃ x, (cL c)[a.2.1.toNat]? = some x) ∧ a.2.2.2.length ≤ 24)
def Chain (c : aCur) : List aAct → Prop
  | [] => True
  | a :: r => ActOk a c ∧ Good (undoA a c) ∧ Chain (undoA a c) r
theorem Chain.take {c : aCur} : ∀ {l : List aAct} (n : Nat), Chain c l → Chain c (l.take n)
  | [], n, _ => by simp [Chain]
  | a :: r, 0, _ => by simp [Chain]
  | a :: r, n + 1, h => by
    simp only [List.take_succ_cons, Chain] at h ⊢
    exact ⟨h.1, h.2.1, Chain.take n h.2.2⟩
theorem undoN_take (n : Nat) : ∀ (c : aCur) (l : List aAct), undoN c (l.take n) = (undoN c l).take n := by
  induction n with
  | zero => intro c l; simp [undoN]
  | succ n ih =>
    intro c l
    cases l with
    | nil => simp [undoN]
    | cons a r => simp [undoN, ih]
theorem undoN_len (c : aCur) : ∀ (l : List aAct), (undoN c l).length = l.length := by
  intro l
  induction l generalizing c with
  | nil => rfl
  | cons a r ih => simp [undoN, ih]
def GoodS (bi sz : Int → Int) (nu : Int → Int → Int) : Prop := ∀ s, 0 ≤ s → s < 4 → (bi s = 0 ∨ bi s = 8 ∨ bi s = 16 ∨ bi s = 32) ∧ 0 ≤ sz s ∧ sz s ≤ 30 ∧ ∀ j, 0 ≤ nu s j ∧ nu s j < 4
def AOk (A : aSt) : Prop := Good A.1 ∧ A.2.1.length ≤ 20 ∧ Chain A.1 A.2.1 ∧ GoodS A.2.2.2.1 A.2.2.2.2.1 A.2.2.2.2.2
/-! the class holds the state -/
def RLn (σ : qSt) (ls : List aLn) : Prop := σ 0 0 10 = ls.length ∧ ∀ (i : Nat) (x : aLn), ls[i]? = some x → σ 81 i 1 = x.1 ∧ σ 81 i 2 = x.2.length ∧ ∀ (j : Nat) (s : Int), x.2[j]? = some s → σ 82 i j = s
def RW (σ : qSt) (ws : List aWd) : Prop := σ 0 0 11 = ws.length ∧ ∀ (i : Nat) (x : aWd), ws[i]? = some x → σ 105 i 4 = x.1 ∧ σ 105 i 5 = x.2.1 ∧ σ 105 i 6 = x.2.2.1 ∧ σ 105 i 7 = x.2.2.2.length ∧ ∀ (j : Nat) (s : aSy), x.2.2.2[j]? = some s → σ 106 i j = s.1 ∧ σ 107 i j = s.2.1 ∧ σ 108 i j = s.2.2.1 ∧ σ 109 i j = s.2.2.2
def RT (σ : qSt) (ts : List aTx) : Prop := σ 4 0 5 = ts.length ∧ ∀ (i : Nat) (x : aTx), ts[i]? = some x → σ 6 0 i = x.1 ∧ σ 7 0 i = x.2.1 ∧ σ 8 0 i = x.2.2.1 ∧ σ 9 0 i = x.2.2.2
def RF (k : Nat) (N : Int) (σ : qSt) (f : Int → Int) : Prop := ∀ i, 0 ≤ i → i < N → σ k 0 i = f i
def RO (σ : qSt) (os : List Int) : Prop := σ 10 0 4 = os.length ∧ ∀ (i : Nat) (x : Int), os[i]? = some x → σ 14 0 i = x
def RCur (σ : qSt) (c : aCur) : Prop := RLn σ (cL c) ∧ RW σ (cW c) ∧ RT σ (cT c) ∧ RF 5 32 σ (cN c) ∧ RF 11 6 σ (cA c) ∧ RF 12 8 σ (cF c) ∧ RF 13 4 σ (cR c) ∧ RO σ (cO c)
def RAct (σ : qSt) (p : Int) (a : aAct) : Prop := σ 40 p 2 = a.1 ∧ σ 40 p 3 = a.2.1 ∧ σ 40 p 4 = a.2.2.1 ∧ (a.1 = 12 → σ 40 p 1 = a.2.2.2.length) ∧ (a.1 = 12 ∨ a.1 = 4 → ∀ (j : Nat) (s : Int), a.2.2.2[j]? = some s → σ 41 p j = s)
def RH (σ : qSt) (as : List aAct) : Prop := 0 ≤ σ 38 0 1 ∧ σ 38 0 1 < 20 ∧ σ 38 0 2 = as.length ∧ as.length ≤ 20 ∧ ∀ (k : Nat) (a : aAct), as[k]? = some a → RAct σ ((σ 38 0 1 - 1 - k) % 20) a
def RS (σ : qSt) (bi sz : Int → Int) (nu : Int → Int → Int) : Prop := ∀ s, 0 ≤ s → s < 4 → σ 205 s 1 = bi s ∧ σ 205 s 2 = sz s ∧ ∀ j, 0 ≤ j → j < 30 → σ 206 s j % 4 = nu s j
def Iv0 (σ : qSt) : Prop := Bd σ ∧ PlR σ ∧ (∀ l, 0 ≤ l → l < 12 → 0 ≤ σ 81 l 1 ∧ σ 81 l 1 < 6) ∧ (∀ k, 0 ≤ k → k < 7 → 0 ≤ σ 14 0 k ∧ σ 14 0 k < 4096) ∧ (∀ w s, 0 ≤ w → w < 20 → 0 ≤ s → s < 8 → 0 ≤ σ 107 w s ∧ σ 107 w s ≤ 6 ∧ 0 ≤ σ 108 w s ∧ σ 108 w s ≤ 6 ∧ 0 ≤ σ 109 w s ∧ σ 109 w s < 32) ∧ ∀ t, 0 ≤ t → t < 40 → 0 ≤ σ 8 0 t ∧ σ 8 0 t < 32
def RelD (σ : qSt) (A : aSt) : Prop := Iv0 σ ∧ plKn σ σ ∧ RCur σ A.1 ∧ RH σ A.2.1 ∧ RS σ A.2.2.2.1 A.2.2.2.2.1 A.2.2.2.2.2 ∧ σ 0 0 12 = A.2.2.1
/-! what the relation depends on -/
theorem RLn.cg {σ τ : qSt} {l : List aLn} (h0 : τ 0 0 10 = σ 0 0 10) (h1 : ∀ b c, τ 81 b c = σ 81 b c) (h2 : ∀ b c, τ 82 b c = σ 82 b c) (h : RLn σ l) : RLn τ l := ⟨by rw [h0]; exact h.1, fun i x hx => by rw [h1, h1]; obtain ⟨a, b, d⟩ := h.2 i x hx; exact ⟨a, b, fun j s hs => by rw [h2]; exact d j s hs⟩⟩
theorem RW.cg {σ τ : qSt} {l : List aWd} (h0 : τ 0 0 11 = σ 0 0 11) (h1 : ∀ (a : Nat) (b c : Int), 105 ≤ a → a ≤ 109 → τ a b c = σ a b c) (h : RW σ l) : RW τ l := ⟨by rw [h0]; exact h.1, fun i x hx => by
  rw [h1 105 _ _ (by decide) (by decide), h1 105 _ _ (by decide) (by decide), h1 105 _ _ (by decide) (by decide), h1 105 _ _ (by decide) (by decide)]
  obtain ⟨a, b, d, e, f⟩ := h.2 i x hx
  exact ⟨a, b, d, e, fun j s hs => by rw [h1 106 _ _ (by decide) (by decide), h1 107 _ _ (by decide) (by decide), h1 108 _ _ (by decide) (by decide), h1 109 _ _ (by decide) (by decide)]; exact f j s hs⟩⟩
theorem RT.cg {σ τ : qSt} {l : List aTx} (h0 : τ 4 0 5 = σ 4 0 5) (h1 : ∀ (a : Nat) (c : Int), 6 ≤ a → a ≤ 9 → τ a 0 c = σ a 0 c) (h : RT σ l) : RT τ l := ⟨by rw [h0]; exact h.1, fun i x hx => by
  rw [h1 6 _ (by decide) (by decide), h1 7 _ (by decide) (by decide), h1 8 _ (by decide) (by decide), h1 9 _ (by decide) (by decide)]
  exact h.2 i x hx⟩
theorem RF.cg {k : Nat} {N : Int} {σ τ : qSt} {f : Int → Int} (h1 : ∀ c, τ k 0 c = σ k 0 c) (h : RF k N σ f) : RF k N τ f := fun i a b => by rw [h1]; exact h i a b
theorem RO.cg {σ τ : qSt} {l : List Int} (h0 : τ 10 0 4 = σ 10 0 4) (h1 : ∀ c, τ 14 0 c = σ 14 0 c) (h : RO σ l) : RO τ l := ⟨by rw [h0]; exact h.1, fun i x hx => by rw [h1]; exact h.2 i x hx⟩
theorem RAct.cg {σ τ : qSt} {p : Int} {a : aAct} (h1 : ∀ c, τ 40 p c = σ 40 p c) (h2 : ∀ c, τ 41 p c = σ 41 p c) (h : RAct σ p a) : RAct τ p a := by
  obtain ⟨q1, q2, q3, q4, q5⟩ := h
  exact ⟨by rw [h1]; exact q1, by rw [h1]; exact q2, by rw [h1]; exact q3, fun q => by rw [h1]; exact q4 q, fun q j s hs => by rw [h2]; exact q5 q j s hs⟩
theorem RH.cg {σ τ : qSt} {l : List aAct} (h0 : ∀ c, τ 38 0 c = σ 38 0 c) (h1 : ∀ b c, τ 40 b c = σ 40 b c) (h2 : ∀ b c, τ 41 b c = σ 41 b c) (h : RH σ l) : RH τ l := by
  obtain ⟨q1, q2, q3, q4, q5⟩ := h
  exact ⟨by rw [h0]; exact q1, by rw [h0]; exact q2, by rw [h0]; exact q3, q4, fun k a ha => by rw [h0]; exact (q5 k a ha).cg (h1 _) (h2 _)⟩
theorem RS.cg {σ τ : qSt} {bi sz : Int → Int} {nu : Int → Int → Int} (h1 : ∀ b c, τ 205 b c = σ 205 b c) (h2 : ∀ b c, τ 206 b c = σ 206 b c) (h : RS σ bi sz nu) : RS τ bi sz nu := fun s a b => by rw [h1, h1]; obtain ⟨x, y, z⟩ := h s a b; exact ⟨x, y, fun j u v => by rw [h2]; exact z j u v⟩
/-- a new act -/
theorem RH.push {σ τ : qSt} {as : List aAct} {a : aAct} (h : RH σ as) (h1 : τ 38 0 1 = if σ 38 0 1 + 1 < 20 then σ 38 0 1 + 1 else 0) (h2 : τ 38 0 2 = min (σ 38 0 2 + 1) 20) (hn : RAct τ (σ 38 0 1) a) (ho : ∀ p, p ≠ σ 38 0 1 → (∀ c, τ 40 p c = σ 40 p c) ∧ ∀ c, τ 41 p c = σ 41 p c) : RH τ ((a :: as).take 20) := by
  obtain ⟨q1, q2, q3, q4, q5⟩ := h
  have hl : ((a :: as).take 20).length = min 20 (as.length + 1) := by rw [List.length_take, List.length_cons]
  refine ⟨by rw [h1]; split <;> omega, by rw [h1]; split <;> omega, by rw [h2, hl, q3]; omega, by rw [hl]; omega, fun k b hb => ?_⟩
  have hk : k < 20 := by
    have := (List.getElem?_eq_some_iff.mp hb).1
    rw [hl] at this
    omega
  rw [List.getElem?_take_of_lt hk] at hb
  cases k with
  | zero =>
    simp at hb
    subst hb
    have e : (τ 38 0 1 - 1 - ((0 : Nat) : Int)) % 20 = σ 38 0 1 := by rw [h1]; split <;> omega
    rw [e]
    exact hn
  | succ k =>
    have hb' : as[k]? = some b := by simpa using hb
    have e : (τ 38 0 1 - 1 - ((k + 1 : Nat) : Int)) % 20 = (σ 38 0 1 - 1 - (k : Int)) % 20 := by rw [h1]; split <;> omega
    rw [e]
    have hne : (σ 38 0 1 - 1 - (k : Int)) % 20 ≠ σ 38 0 1 := by omega
    exact (q5 k b hb').cg (ho _ hne).1 (ho _ hne).2
/-- the latest act goes -/
theorem RH.pop {σ τ : qSt} {as : List aAct} {a : aAct} (h : RH σ (a :: as)) (h1 : τ 38 0 1 = if 0 < σ 38 0 1 then σ 38 0 1 - 1 else 19) (h2 : τ 38 0 2 = σ 38 0 2 - 1) (ho : ∀ p c, τ 40 p c = σ 40 p c ∧ τ 41 p c = σ 41 p c) : RH τ as ∧ RAct σ (if 0 < σ 38 0 1 then σ 38 0 1 - 1 else 19) a := by
  obtain ⟨q1, q2, q3, q4, q5⟩ := h
  simp only [List.length_cons] at q3 q4
  refine ⟨⟨by rw [h1]; split <;> omega, by rw [h1]; split <;> omega, by rw [h2, q3]; push_cast; omega, by omega, fun k b hb => ?_⟩, ?_⟩
  · have := q5 (k + 1) b (by simpa using hb)
    have e : (τ 38 0 1 - 1 - (k : Int)) % 20 = (σ 38 0 1 - 1 - ((k + 1 : Nat) : Int)) % 20 := by rw [h1]; split <;> omega
    rw [e]
    exact this.cg (fun c => (ho _ c).1) (fun c => (ho _ c).2)
  · have := q5 0 a (by simp)
    have e : (σ 38 0 1 - 1 - ((0 : Nat) : Int)) % 20 = if 0 < σ 38 0 1 then σ 38 0 1 - 1 else 19 := by split <;> omega
    rw [e] at this
    exact this
