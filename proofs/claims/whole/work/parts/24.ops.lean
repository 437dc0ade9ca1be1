/-! THE CALLS, on the mathematical state -/
abbrev lnAt (A : aSt) (x : Int) : aLn := (cL A.1).getD x.toNat (0, [])
abbrev wdAt (A : aSt) (x : Int) : aWd := (cW A.1).getD x.toNat (0, 0, 0, [])
abbrev txAt (A : aSt) (x : Int) : aTx := (cT A.1).getD x.toNat (0, 0, 0, 0)
abbrev frAt (l : aLn) (q : Int) : Int := l.2.getD q.toNat 0
abbrev syAt (w : aWd) (s : Int) : aSy := w.2.2.2.getD s.toNat (0, 0, 0, 0)
abbrev nLn (A : aSt) : Int := ((cL A.1).length : Int)
abbrev nWd (A : aSt) : Int := ((cW A.1).length : Int)
abbrev nTx (A : aSt) : Int := ((cT A.1).length : Int)
abbrev nLp (A : aSt) : Int := ((cO A.1).length : Int)
def fnd (A : aSt) (z : Int) : Int × aSt := (z, A.1, A.2.1, A.2.2.1 + 1, A.2.2.2)
def psh (A : aSt) (a : aAct) (c : aCur) : aSt := (c, (a :: A.2.1).take 20, A.2.2)
def oLine (p : Int) (A : aSt) : Int × aSt := if ¬ (0 ≤ p ∧ p < 6) then fnd A (-100001) else if ¬ nLn A < 12 then fnd A (-100005) else (nLn A, psh A (0, 0, 0, []) (sL A.1 (cL A.1 ++ [(p, [])])))
def oFrame (x s : Int) (A : aSt) : Int × aSt := if ¬ ((0 ≤ x ∧ x < nLn A) ∧ 0 ≤ s ∧ s < 4) then fnd A (-100001) else if ¬ ((lnAt A x).2.length : Int) < 24 then fnd A (-100005) else (((lnAt A x).2.length : Int) + 1, psh A (1, x, 0, []) (sL A.1 (mdf (fun y => (y.1, y.2 ++ [s])) (cL A.1) x.toNat)))
def oWording (x k s : Int) (A : aSt) : Int × aSt := if ¬ ((0 ≤ x ∧ x < nLn A) ∧ (0 ≤ k ∧ k < 4) ∧ 0 ≤ s ∧ s < 101) then fnd A (-100001) else if ¬ nWd A < 20 then fnd A (-100005) else (nWd A, psh A (2, 0, 0, []) (sW A.1 (cW A.1 ++ [(x, k, s, [])])))
def oAs (w k : Int) (A : aSt) : Int × aSt := if ¬ ((0 ≤ w ∧ w < nWd A) ∧ 0 ≤ k ∧ k < 4) then fnd A (-100001) else if ¬ (k = 0 ∨ (wdAt A w).2.1 = k ∨ (k = 1 ∧ (wdAt A w).2.1 = 3)) then fnd A (-100004) else (w, A)
def oSyllable (w s0 s1 s2 s3 : Int) (A : aSt) : Int × aSt := if ¬ ((0 ≤ w ∧ w < nWd A) ∧ (0 ≤ s0 ∧ s0 < 4) ∧ (1 ≤ s1 ∧ s1 ≤ 6) ∧ (1 ≤ s2 ∧ s2 ≤ 6) ∧ 0 ≤ s3 ∧ s3 < 32) then fnd A (-100001) else if s2 < s1 then fnd A (-100003) else if ¬ ((wdAt A w).2.2.2.length : Int) < 8 then fnd A (-100005) else (((wdAt A w).2.2.2.length : Int) + 1, psh A (3, w, 0, []) (sW A.1 (mdf (fun y => (y.1, y.2.1, y.2.2.1, y.2.2.2 ++ [(s0, s1, s2, s3)])) (cW A.1) w.toNat)))
abbrev lastSy (w : aWd) : List Int := [(syAt w ((w.2.2.2.length : Int) - 1)).1, (syAt w ((w.2.2.2.length : Int) - 1)).2.1, (syAt w ((w.2.2.2.length : Int) - 1)).2.2.1, (syAt w ((w.2.2.2.length : Int) - 1)).2.2.2]
def oCut (w : Int) (A : aSt) : Int × aSt := if ¬ (0 ≤ w ∧ w < nWd A) then fnd A (-100001) else if ((wdAt A w).2.2.2.length : Int) ≤ 0 then fnd A (-100006) else (((wdAt A w).2.2.2.length : Int) - 1, psh A (4, w, 0, lastSy (wdAt A w)) (sW A.1 (mdf (fun y => (y.1, y.2.1, y.2.2.1, y.2.2.2.dropLast)) (cW A.1) w.toNat)))
def oOf (w k : Int) (A : aSt) : Int × aSt := if ¬ (0 ≤ w ∧ w < nWd A) then fnd A (-100001) else if k = 0 then ((wdAt A w).1, A) else if k = 1 then ((wdAt A w).2.1, A) else if k = 2 then ((wdAt A w).2.2.1, A) else if k = 3 then (((wdAt A w).2.2.2.length : Int), A) else fnd A (-100001)
def oTold (x k : Int) (A : aSt) : Int × aSt := if ¬ (0 ≤ x ∧ x < nLn A) then fnd A (-100001) else if k = 0 then ((lnAt A x).1, A) else if k = 1 then (((lnAt A x).2.length : Int), A) else if k = 2 then (cntE (fun i => (wdAt A i).1) x (cW A.1).length, A) else fnd A (-100001)
def oShape (x i : Int) (A : aSt) : Int × aSt := if ¬ ((0 ≤ x ∧ x < nLn A) ∧ 0 ≤ i ∧ i < ((lnAt A x).2.length : Int)) then fnd A (-100001) else (frAt (lnAt A x) i, A)
/-! THE FIT -/
abbrev wLn (A : aSt) (w : Int) : aLn := lnAt A (wdAt A w).1
def ocA (A : aSt) (w : Int) : Int → Int → Int := fun s q => cOv (syAt (wdAt A w) s).1 (frAt (wLn A w) q) (wdAt A w).2.1
def pfA (A : aSt) (w : Int) : Int → Int := fun p => pz (frAt (wLn A w) p)
def loA (A : aSt) (w : Int) : Int → Int := fun s => (syAt (wdAt A w) s).2.1
def hiA (A : aSt) (w : Int) : Int → Int := fun s => if (wdAt A w).2.1 = 1 ∨ (wdAt A w).2.1 = 3 then (syAt (wdAt A w) s).2.1 else (syAt (wdAt A w) s).2.2.1
abbrev nA (A : aSt) (w : Int) : Int := ((wLn A w).2.length : Int)
abbrev mA (A : aSt) (w : Int) : Int := ((wdAt A w).2.2.2.length : Int)
def DPA (A : aSt) (w : Int) (T : Int → Int → Int) : Prop := IsDP (ocA A w) (pfA A w) (loA A w) (hiA A w) (nA A w) (mA A w) 0 T
noncomputable def fitT (A : aSt) (w : Int) : Int → Int → Int := Classical.epsilon (fun T => DPA A w T)
def TrA (A : aSt) (w : Int) (T : Int → Int → Int) (b l : Int → Int) : Prop := TrP (shX (ocA A w) (loA A w) (hiA A w) (nA A w) T) (nA A w) b l (mA A w)
noncomputable def fitBL (A : aSt) (w : Int) : (Int → Int) × (Int → Int) := Classical.epsilon (fun x : (Int → Int) × (Int → Int) => TrA A w (fitT A w) x.1 x.2)
noncomputable def oCost (w : Int) (A : aSt) : Int × aSt := if ¬ (0 ≤ w ∧ w < nWd A) then fnd A (-100001) else if ¬ fitT A w 0 0 < 1000000 then fnd A (-100006) else (fitT A w 0 0, A)
noncomputable def oPlace (w i k : Int) (A : aSt) : Int × aSt := if ¬ ((0 ≤ w ∧ w < nWd A) ∧ 0 ≤ i ∧ i < mA A w) then fnd A (-100001) else if ¬ fitT A w 0 0 < 1000000 then fnd A (-100006) else (if k = 0 then (fitBL A w).1 i else (fitBL A w).2 i, A)
noncomputable def oOn (w i : Int) (A : aSt) : Int × aSt := if ¬ ((0 ≤ w ∧ w < nWd A) ∧ 0 ≤ i ∧ i < nA A w) then fnd A (-100001) else if ¬ fitT A w 0 0 < 1000000 then fnd A (-100006) else (onF (fitBL A w).1 (fitBL A w).2 i (wdAt A w).2.2.2.length, A)
/-! texts -/
def oName (x n : Int) (A : aSt) : Int × aSt := if ¬ ((0 ≤ x ∧ x < 32) ∧ (n = -1 ∨ (0 ≤ n ∧ n < 8))) then fnd A (-100001) else (cN A.1 x, psh A (5, x, cN A.1 x, []) (sN A.1 (updF (cN A.1) x n)))
def oText (a b x d : Int) (A : aSt) : Int × aSt := if ¬ ((0 ≤ a ∧ a < 3) ∧ (0 ≤ b ∧ b < 3) ∧ (0 ≤ x ∧ x < 32) ∧ 0 ≤ d ∧ d < 1000) then fnd A (-100001) else if ¬ nTx A < 40 then fnd A (-100005) else (nTx A + 1, psh A (6, 0, 0, []) (sT A.1 (cT A.1 ++ [(a, b, x, d)])))
abbrev ldA (A : aSt) : Int → Int := fun t => (txAt A t).1
abbrev soA (A : aSt) : Int → Int := fun t => (txAt A t).2.1
abbrev woA (A : aSt) : Int → Int := fun t => (txAt A t).2.2.1
abbrev dyA (A : aSt) : Int → Int := fun t => (txAt A t).2.2.2
def barA (A : aSt) (land word day : Int) : Bool := barB (ldA A) (soA A) (woA A) (dyA A) (cT A.1).length land word day
def choA (A : aSt) (land name day : Int) : Int := choF (ldA A) (soA A) (woA A) (dyA A) (cN A.1) (cT A.1).length land name day
def lawA (A : aSt) (w land day : Int) : Bool := allW (fun i => okW (ldA A) (soA A) (woA A) (dyA A) (cN A.1) (cT A.1).length land day (syAt (wdAt A w) i).2.2.2) (wdAt A w).2.2.2.length
def oBarred (land word day : Int) (A : aSt) : Int × aSt := if ¬ ((0 ≤ land ∧ land < 3) ∧ (0 ≤ word ∧ word < 32) ∧ 0 ≤ day ∧ day < 1000) then fnd A (-100001) else (if barA A land word day = true then 1 else 0, A)
def oChosen (land name day : Int) (A : aSt) : Int × aSt := if ¬ ((0 ≤ land ∧ land < 3) ∧ (0 ≤ name ∧ name < 8) ∧ 0 ≤ day ∧ day < 1000) then fnd A (-100001) else if choA A land name day < 0 then fnd A (-100006) else (choA A land name day, A)
def oLawful (w land day : Int) (A : aSt) : Int × aSt := if ¬ ((0 ≤ w ∧ w < nWd A) ∧ (0 ≤ land ∧ land < 3) ∧ 0 ≤ day ∧ day < 1000) then fnd A (-100001) else (if lawA A w land day = true then 1 else 0, A)
/-- THE BEST among the first n wordings (-1: none), and its worth -/
noncomputable def bstA (A : aSt) (x land day : Int) : Nat → Int × Int
  | 0 => (-1, 0)
  | n + 1 => if (wdAt A n).1 = x ∧ lawA A n land day = true ∧ fitT A n 0 0 < 1000000 ∧ ((bstA A x land day n).1 < 0 ∨ (bstA A x land day n).2 < (wdAt A n).2.2.1 - fitT A n 0 0) then ((n : Int), (wdAt A n).2.2.1 - fitT A n 0 0) else bstA A x land day n
noncomputable def oBest (x land day : Int) (A : aSt) : Int × aSt := if ¬ ((0 ≤ x ∧ x < nLn A) ∧ (0 ≤ land ∧ land < 3) ∧ 0 ≤ day ∧ day < 1000) then fnd A (-100001) else if (bstA A x land day (cW A.1).length).1 < 0 then fnd A (-100006) else ((bstA A x land day (cW A.1).length).1, A)
noncomputable def wthA (A : aSt) (land day : Int) : Nat → Int
  | 0 => 0
  | n + 1 => wthA A land day n + (if (bstA A n land day (cW A.1).length).1 < 0 then 0 else (bstA A n land day (cW A.1).length).2)
noncomputable def oWorth (land day : Int) (A : aSt) : Int × aSt := if ¬ ((0 ≤ land ∧ land < 3) ∧ 0 ≤ day ∧ day < 1000) then fnd A (-100001) else (wthA A land day (cL A.1).length, A)
/-! actors, loops -/
def oActor (x n : Int) (A : aSt) : Int × aSt := if ¬ ((0 ≤ x ∧ x < 6) ∧ (n = -1 ∨ (0 ≤ n ∧ n < 8))) then fnd A (-100001) else (cA A.1 x, psh A (7, x, cA A.1 x, []) (sA A.1 (updF (cA A.1) x n)))
def oFree (x n : Int) (A : aSt) : Int × aSt := if ¬ ((0 ≤ x ∧ x < 8) ∧ 0 ≤ n ∧ n < 16) then fnd A (-100001) else (cF A.1 x, psh A (8, x, cF A.1 x, []) (sF A.1 (updF (cF A.1) x n)))
def oRoom (x n : Int) (A : aSt) : Int × aSt := if ¬ ((0 ≤ x ∧ x < 4) ∧ 0 ≤ n ∧ n < 101) then fnd A (-100001) else (cR A.1 x, psh A (9, x, cR A.1 x, []) (sR A.1 (updF (cR A.1) x n)))
def oLoop (x : Int) (A : aSt) : Int × aSt := if ¬ (0 ≤ x ∧ x < 2 ^ (cL A.1).length) then fnd A (-100001) else if x = 0 then fnd A (-100003) else if ¬ nLp A < 7 then fnd A (-100005) else (nLp A, psh A (10, 0, 0, []) (sO A.1 (cO A.1 ++ [x])))
def oUnloop (A : aSt) : Int × aSt := if nLp A ≤ 0 then fnd A (-100006) else (nLp A - 1, psh A (11, 0, (cO A.1).getD ((cO A.1).length - 1) 0, []) (sO A.1 (cO A.1).dropLast))
def plAA (A : aSt) : Int → Int := fun k => aol ((cO A.1).getD k.toNat 0) (fun l => cA A.1 (lnAt A l).1) (cL A.1).length
def plOA (A : aSt) : Int → Int := fun k => doa (plAA A k) (cF A.1) 8
def plMA (A : aSt) : Int → Int := fun k => 5 * pop12 ((cO A.1).getD k.toNat 0)
def plRA (A : aSt) : plS := gd (plAA A) (plOA A) (plMA A) (nLp A) (cO A.1).length (fun _ => 0) (cR A.1) 0 (fun _ => 0) (1000000, 0, fun _ => 0)
def oPlan (A : aSt) : Int × aSt := if (plRA A).2.1 = 0 then fnd A (-100006) else ((plRA A).1, A)
def oPlanned (k : Int) (A : aSt) : Int × aSt := if ¬ (0 ≤ k ∧ k < nLp A) then fnd A (-100001) else if (plRA A).2.1 = 0 then fnd A (-100006) else ((plRA A).2.2 k, A)
def oPlans (A : aSt) : Int × aSt := ((plRA A).2.1, A)
/-! pictures, sheets, the whole -/
abbrev biA (A : aSt) : Int → Int := A.2.2.2.1
abbrev szA (A : aSt) : Int → Int := A.2.2.2.2.1
abbrev nuA (A : aSt) : Int → Int → Int := A.2.2.2.2.2
def rowA (A : aSt) (s : Int) : List Int := (List.range (szA A s).toNat).map (fun j : Nat => nuA A s j)
def oChange (x s : Int) (A : aSt) : Int × aSt := if ¬ ((0 ≤ x ∧ x < nLn A) ∧ 0 ≤ s ∧ s < 4) then fnd A (-100001) else if biA A s = 0 then fnd A (-100002) else if 24 < szA A s then fnd A (-100003) else (lcs (frAt (lnAt A x)) (nuA A s) (lnAt A x).2.length (szA A s).toNat, psh A (12, x, 0, (lnAt A x).2) (sL A.1 (mdf (fun y => (y.1, rowA A s)) (cL A.1) x.toNat)))
def oKept (x y : Int) (A : aSt) : Int × aSt := if ¬ ((0 ≤ x ∧ x < nLn A) ∧ 0 ≤ y ∧ y < nLn A) then fnd A (-100001) else (lcs (frAt (lnAt A x)) (frAt (lnAt A y)) (lnAt A x).2.length (lnAt A y).2.length, A)
def shs (A : aSt) (bi sz : Int → Int) (nu : Int → Int → Int) : aSt := (A.1, A.2.1, A.2.2.1, bi, sz, nu)
def oSheet (s b n : Int) (A : aSt) : Int × aSt := if ¬ ((0 ≤ s ∧ s < 4) ∧ (b = 0 ∨ b = 8 ∨ b = 16 ∨ b = 32)) then fnd A (-100001) else if n < 0 then fnd A (-100003) else if 30 < n then fnd A (-100001) else (if b = 0 then 0 else n, shs A (updF (biA A) s b) (updF (szA A) s (if b = 0 then 0 else n)) (fun t => if t = s then fun _ => 0 else nuA A t))
def oPut (s i v : Int) (A : aSt) : Int × aSt := if ¬ (0 ≤ s ∧ s < 4) then fnd A (-100001) else if biA A s = 0 then fnd A (-100002) else if ¬ (0 ≤ i ∧ i < szA A s) then fnd A (-100001) else (0, shs A (biA A) (szA A) (fun t => if t = s then updF (nuA A t) i (v % 4) else nuA A t))
def oCopy (s f t g n : Int) (A : aSt) : Int × aSt := if ¬ ((0 ≤ s ∧ s < 4) ∧ 0 ≤ t ∧ t < 4) then fnd A (-100001) else if biA A s = 0 ∨ biA A t = 0 then fnd A (-100002) else if ¬ biA A s = biA A t then fnd A (-100004) else if ¬ (0 ≤ f ∧ 0 ≤ g ∧ 0 ≤ n ∧ f + n ≤ szA A s ∧ g + n ≤ szA A t) then fnd A (-100001) else (n, shs A (biA A) (szA A) (fun u => if u = t then fun j => if g ≤ j ∧ j < g + n then nuA A s (f + (j - g)) else nuA A t j else nuA A u))
def oUndo (A : aSt) : Int × aSt := match A.2.1 with
  | [] => fnd A (-100006)
  | a :: r => ((r.length : Int), undoA a A.1, r, A.2.2)
def oAll (k : Int) (A : aSt) : Int × aSt := if k = 0 then (nLn A, A) else if k = 1 then (nWd A, A) else if k = 2 then (nTx A, A) else if k = 3 then (nLp A, A) else if k = 4 then (A.2.2.1, A) else fnd A (-100001)
/-! congruences -/
theorem cntE_cg {f g : Int → Int} {x : Int} : ∀ n : Nat, (∀ i : Nat, i < n → f i = g i) → cntE f x n = cntE g x n
  | 0, _ => rfl
  | n + 1, h => by simp only [cntE]; rw [cntE_cg n (fun i q => h i (by omega)), h n (by omega)]
theorem inF_cg {ld dy ld' dy' : Int → Int} {q q' : Int → Bool} {land day : Int} : ∀ n : Nat, (∀ i : Nat, i < n → ld i = ld' i ∧ dy i = dy' i ∧ q i = q' i) → inF ld dy q land day n = inF ld' dy' q' land day n
  | 0, _ => rfl
  | n + 1, h => by
    have ih := inF_cg (land := land) (day := day) n (fun i z => h i (by omega))
    have hl := inF_lt ld dy q land day n
    obtain ⟨h1, h2, h3⟩ := h n (by omega)
    simp only [inF]
    rw [← ih, ← h1, ← h2, ← h3]
    by_cases e : inF ld dy q land day n < 0
    · simp only [e, true_or]
    · have h4 := h (inF ld dy q land day n).toNat (by omega)
      rw [Int.toNat_of_nonneg (by omega)] at h4
      rw [← h4.2.1]
theorem barB_cg {ld so wo dy ld' so' wo' dy' : Int → Int} {land word day : Int} {n : Nat} (h : ∀ i : Nat, i < n → ld i = ld' i ∧ so i = so' i ∧ wo i = wo' i ∧ dy i = dy' i) : barB ld so wo dy n land word day = barB ld' so' wo' dy' n land word day := by
  have e := inF_cg (q := qBar so wo word) (q' := qBar so' wo' word) (land := land) (day := day) n (fun i z => ⟨(h i z).1, (h i z).2.2.2, by simp only [qBar]; rw [(h i z).2.1, (h i z).2.2.1]⟩)
  have hl := inF_lt ld dy (qBar so wo word) land day n
  unfold barB
  rw [← e]
  by_cases q : 0 ≤ inF ld dy (qBar so wo word) land day n
  · have h4 := (h (inF ld dy (qBar so wo word) land day n).toNat (by omega)).2.1
    rw [Int.toNat_of_nonneg q] at h4
    rw [h4]
  · simp [q]
theorem choF_cg {ld so wo dy nm ld' so' wo' dy' nm' : Int → Int} {land name day : Int} {n : Nat} (h : ∀ i : Nat, i < n → ld i = ld' i ∧ so i = so' i ∧ wo i = wo' i ∧ dy i = dy' i ∧ nm (wo i) = nm' (wo i)) : choF ld so wo dy nm n land name day = choF ld' so' wo' dy' nm' n land name day := by
  have e := inF_cg (q := qCho so wo nm name) (q' := qCho so' wo' nm' name) (land := land) (day := day) n (fun i z => ⟨(h i z).1, (h i z).2.2.2.1, by simp only [qCho]; rw [(h i z).2.1, ← (h i z).2.2.1, (h i z).2.2.2.2]⟩)
  have hl := inF_lt ld dy (qCho so wo nm name) land day n
  unfold choF
  rw [← e]
  split
  · rfl
  · next q =>
    have h4 := (h (inF ld dy (qCho so wo nm name) land day n).toNat (by omega)).2.2.1
    rwa [Int.toNat_of_nonneg (by omega)] at h4
theorem okW_cg {ld so wo dy nm ld' so' wo' dy' nm' : Int → Int} {land day word : Int} {n : Nat} (h : ∀ i : Nat, i < n → ld i = ld' i ∧ so i = so' i ∧ wo i = wo' i ∧ dy i = dy' i ∧ nm (wo i) = nm' (wo i)) (hn : nm word = nm' word) : okW ld so wo dy nm n land day word = okW ld' so' wo' dy' nm' n land day word := by
  unfold okW
  rw [barB_cg (fun i z => ⟨(h i z).1, (h i z).2.1, (h i z).2.2.1, (h i z).2.2.2.1⟩), choF_cg h, hn]
theorem allW_cg {f g : Int → Bool} : ∀ n : Nat, (∀ i : Nat, i < n → f i = g i) → allW f n = allW g n
  | 0, _ => rfl
  | n + 1, h => by simp only [allW]; rw [allW_cg n (fun i q => h i (by omega)), h n (by omega)]
theorem lcs_cg {o f o' f' : Int → Int} {n m : Nat} (ho : ∀ i : Nat, i < n → o i = o' i) (hf : ∀ j : Nat, j < m → f j = f' j) : ∀ (k i j : Nat), i + j ≤ k → i ≤ n → j ≤ m → lcs o f i j = lcs o' f' i j := by
  intro k
  induction k with
  | zero =>
    intro i j h _ _
    rw [show i = 0 by omega, lcs_0, lcs_0]
  | succ k ih =>
    intro i j h h1 h2
    cases i with
    | zero => rw [lcs_0, lcs_0]
    | succ i =>
      cases j with
      | zero => rw [lcs_z, lcs_z]
      | succ j => rw [lcs_s, lcs_s, ih i j (by omega) (by omega) (by omega), ih i (j + 1) (by omega) (by omega) (by omega), ih (i + 1) j (by omega) (by omega) (by omega), ho i (by omega), hf j (by omega)]
theorem sOc_cg {oc oc' : Int → Int} {p n : Int} : ∀ k : Nat, 0 ≤ p → p + k ≤ n → (∀ q, 0 ≤ q → q < n → oc q = oc' q) → sOc oc p k = sOc oc' p k
  | 0, _, _, _ => rfl
  | k + 1, h0, h1, h => by
    simp only [sOc]
    rw [sOc_cg k h0 (by omega) h, h (p + k) (by omega) (by omega)]
theorem mnL_cg {c c' : Nat → Int} {lo : Int} : ∀ k : Nat, (∀ j, 1 ≤ j → j ≤ k → c j = c' j) → mnL c lo k = mnL c' lo k
  | 0, _ => rfl
  | k + 1, h => by
    simp only [mnL]
    rw [mnL_cg k (fun j a b => h j a (by omega)), h (k + 1) (by omega) (by omega)]
theorem shF_cg {c c' : Nat → Bool} : ∀ k : Nat, (∀ j, 1 ≤ j → j ≤ k → c j = c' j) → shF c k = shF c' k
  | 0, _ => rfl
  | k + 1, h => by
    simp only [shF]
    rw [shF_cg k (fun j a b => h j a (by omega)), h (k + 1) (by omega) (by omega)]
theorem IsDP.cg {oc oc' : Int → Int → Int} {pf lo hi pf' lo' hi' : Int → Int} {n m : Int} {T : Int → Int → Int} (ho : ∀ s q, 0 ≤ s → s < m → 0 ≤ q → q < n → oc s q = oc' s q) (hp : ∀ p, 0 ≤ p → p < n → pf p = pf' p) (hl : ∀ s, 0 ≤ s → s < m → lo s = lo' s ∧ hi s = hi' s) (h : IsDP oc pf lo hi n m 0 T) : IsDP oc' pf' lo' hi' n m 0 T := by
  obtain ⟨h1, h2, h3, h4⟩ := h
  refine ⟨h1, fun p a b => by rw [← hp p a b]; exact h2 p a b, h3, fun s a b => ?_⟩
  obtain ⟨g1, g2, g3⟩ := h4 s a b
  refine ⟨g1, fun p q1 q2 => ?_, g3⟩
  rw [g2 p q1 q2, ← hp p q1 q2, ← (hl s a b).1, ← (hl s a b).2]
  congr 1
  refine mnL_cg _ (fun j z1 z2 => ?_)
  rw [sOc_cg (n := n) j q1 (by omega) (fun q w1 w2 => ho s q a b w1 w2)]
theorem shX.cg {oc oc' : Int → Int → Int} {lo hi lo' hi' : Int → Int} {n : Int} {T T' : Int → Int → Int} {m s p : Int} (hs : 0 ≤ s ∧ s < m) (hp : 0 ≤ p ∧ p < n) (ho : ∀ s q, 0 ≤ s → s < m → 0 ≤ q → q < n → oc s q = oc' s q) (hl : ∀ s, 0 ≤ s → s < m → lo s = lo' s ∧ hi s = hi' s) (hT : ∀ s p, 0 ≤ s → s ≤ m → 0 ≤ p → p ≤ n → T s p = T' s p) : shX oc lo hi n T s p = shX oc' lo' hi' n T' s p := by
  unfold shX
  rw [← (hl s hs.1 hs.2).1, ← (hl s hs.1 hs.2).2]
  refine shF_cg _ (fun j z1 z2 => ?_)
  rw [sOc_cg (n := n) j hp.1 (by omega) (fun q w1 w2 => ho s q hs.1 hs.2 w1 w2), hT (s + 1) (p + j) (by omega) (by omega) (by omega) (by omega), hT s p hs.1 (by omega) hp.1 (by omega)]
/-! the table is one, and so is the walk -/
theorem IsDP.one {oc : Int → Int → Int} {pf lo hi : Int → Int} {n m : Int} {T T' : Int → Int → Int} (hn : 0 ≤ n) (hm : 0 ≤ m) (h : IsDP oc pf lo hi n m 0 T) (h' : IsDP oc pf lo hi n m 0 T') : ∀ s p, 0 ≤ s → s ≤ m → 0 ≤ p → p ≤ n → T s p = T' s p := by
  obtain ⟨h1, h2, h3, h4⟩ := h
  obtain ⟨g1, g2, g3, g4⟩ := h'
  have base : ∀ (k : Nat) (p : Int), p + k = n → 0 ≤ p → T m p = T' m p := by
    intro k
    induction k with
    | zero => intro p e _; rw [show p = n by omega, h1, g1]
    | succ k ih => intro p e hp; rw [h2 p hp (by omega), g2 p hp (by omega), ih (p + 1) (by omega) (by omega)]
  have step : ∀ (r : Nat) (s : Int), s + r = m → 0 ≤ s → ∀ p, 0 ≤ p → p ≤ n → T s p = T' s p := by
    intro r
    induction r with
    | zero =>
      intro s e hs p p1 p2
      rw [show s = m by omega]
      exact base (n - p).toNat p (by omega) p1
    | succ r ih =>
      intro s e hs
      obtain ⟨a1, a2, a3⟩ := h4 s hs (by omega)
      obtain ⟨b1, b2, b3⟩ := g4 s hs (by omega)
      have nx := ih (s + 1) (by omega) (by omega)
      have inner : ∀ (k : Nat) (p : Int), p + k = n → 0 ≤ p → T s p = T' s p := by
        intro k
        induction k with
        | zero => intro p e _; rw [show p = n by omega, a1, b1]
        | succ k ihk =>
          intro p e hp
          rw [a2 p hp (by omega), b2 p hp (by omega), ihk (p + 1) (by omega) (by omega)]
          congr 1
          refine mnL_cg _ (fun j z1 z2 => ?_)
          rw [nx (p + j) (by omega) (by omega)]
      intro p p1 p2
      exact inner (n - p).toNat p (by omega) p1
  intro s p s1 s2 p1 p2
  exact step (m - s).toNat s (by omega) s1 p p1 p2
theorem TrP.one {sh sh' : Int → Int → Int} {n m : Int} {b l b' l' : Int → Int} (hsh : ∀ j f, 0 ≤ j → j < m → 0 ≤ f → f < n → sh j f = sh' j f) (h : TrP sh n b l m) (h' : TrP sh' n b' l' m) : ∀ j, 0 ≤ j → j < m → b j = b' j ∧ l j = l' j := by
  have key : ∀ (k : Nat), (k : Int) ≤ m → (0 ≤ stB b l k ∧ stB b l k = stB b' l' k) ∧ ∀ j : Int, 0 ≤ j → j < (k : Int) → b j = b' j ∧ l j = l' j := by
    intro k
    induction k with
    | zero => intro _; exact ⟨by simp [stB], fun j a b => by omega⟩
    | succ k ih =>
      intro hk
      obtain ⟨⟨i0, i1⟩, i2⟩ := ih (by omega)
      obtain ⟨a1, a2, a3, a4, a5⟩ := h k (by omega) (by omega)
      obtain ⟨c1, c2, c3, c4, c5⟩ := h' k (by omega) (by omega)
      have eb : b k = b' k := by
        rcases Int.lt_trichotomy (b k) (b' k) with q | q | q
        · have := c5 (b k) (by omega) q
          rw [← hsh k (b k) (by omega) (by omega) (by omega) (by omega)] at this
          omega
        · exact q
        · have := a5 (b' k) (by omega) q
          rw [hsh k (b' k) (by omega) (by omega) (by omega) (by omega)] at this
          omega
      have el : l k = l' k := by rw [a3, c3, ← eb]; exact hsh k (b k) (by omega) (by omega) (by omega) (by omega)
      refine ⟨?_, fun j q1 q2 => ?_⟩
      · have e1 : stB b l ((k + 1 : Nat) : Int) = b k + l k := by unfold stB; rw [if_neg (by omega), show ((k + 1 : Nat) : Int) - 1 = (k : Int) by omega]
        have e2 : stB b' l' ((k + 1 : Nat) : Int) = b' k + l' k := by unfold stB; rw [if_neg (by omega), show ((k + 1 : Nat) : Int) - 1 = (k : Int) by omega]
        rw [e1, e2, eb, el]
        omega
      · by_cases e : j = k
        · rw [e]; exact ⟨eb, el⟩
        · exact i2 j q1 (by omega)
  intro j h1 h2
  exact (key m.toNat (by omega)).2 j h1 (by omega)
theorem mnL_at {c : Nat → Int} {lo : Int} : ∀ k : Nat, mnL c lo k < 1000000 → ∃ j : Nat, 1 ≤ j ∧ j ≤ k ∧ lo ≤ j ∧ c j = mnL c lo k
  | 0, h => by simp [mnL] at h
  | k + 1, h => by
    simp only [mnL] at h ⊢
    split at h
    · next q =>
      rw [if_pos q]
      by_cases e : mnL c lo k ≤ c (k + 1)
      · rw [show min (mnL c lo k) (c (k + 1)) = mnL c lo k by omega] at h ⊢
        obtain ⟨j, a, b, d, f⟩ := mnL_at k h
        exact ⟨j, a, by omega, d, f⟩
      · exact ⟨k + 1, by omega, by omega, q, by omega⟩
    · next q =>
      rw [if_neg q]
      obtain ⟨j, a, b, d, f⟩ := mnL_at k h
      exact ⟨j, a, by omega, d, f⟩
theorem shF_no {c : Nat → Bool} : ∀ k : Nat, shF c k = 0 → ∀ j, 1 ≤ j → j ≤ k → c j = false
  | 0, _, j, a, b => by omega
  | k + 1, h, j, a, b => by
    simp only [shF] at h
    split at h
    · next q => exact absurd h q
    · next q =>
      split at h
      · omega
      · next q2 =>
        by_cases e : j = k + 1
        · rw [e]; simpa using q2
        · exact shF_no k (by omega) j a (by omega)
theorem shF_yes {c : Nat → Bool} : ∀ k : Nat, shF c k ≠ 0 → ∃ j : Nat, 1 ≤ j ∧ j ≤ k ∧ shF c k = j ∧ c j = true ∧ ∀ i, 1 ≤ i → i < j → c i = false
  | 0, h => by simp [shF] at h
  | k + 1, h => by
    by_cases q : shF c k = 0
    · have e : shF c (k + 1) = if c (k + 1) = true then ((k + 1 : Nat) : Int) else 0 := by simp only [shF]; rw [if_neg (by omega)]
      rw [e] at h ⊢
      by_cases q2 : c (k + 1) = true
      · rw [if_pos q2]
        exact ⟨k + 1, by omega, by omega, rfl, q2, fun i a b => shF_no k q i a (by omega)⟩
      · rw [if_neg q2] at h
        exact absurd rfl h
    · have e : shF c (k + 1) = shF c k := by simp only [shF]; rw [if_pos q]
      rw [e]
      obtain ⟨j, a, b, d, f, g⟩ := shF_yes k q
      exact ⟨j, a, by omega, d, f, g⟩
/-- where no length reaches the least cost, the frame is a pause -/
theorem dp_pause {oc : Int → Int → Int} {pf lo hi : Int → Int} {n m : Int} {T : Int → Int → Int} (h : IsDP oc pf lo hi n m 0 T) {s p : Int} (hs : 0 ≤ s ∧ s < m) (hp : 0 ≤ p ∧ p < n) (hf : T s p < 1000000) (hz : shX oc lo hi n T s p = 0) : T s p = T s (p + 1) + pf p := by
  obtain ⟨g1, g2, g3⟩ := h.2.2.2 s hs.1 hs.2
  have e := g2 p hp.1 hp.2
  by_cases q : T s (p + 1) + pf p ≤ mnL (fun q => sOc (oc s) p q + T (s + 1) (p + q)) (lo s) (min (hi s) (n - p)).toNat
  · omega
  · exfalso
    obtain ⟨j, a, b, d, f⟩ := mnL_at (c := fun q => sOc (oc s) p q + T (s + 1) (p + q)) (lo := lo s) (min (hi s) (n - p)).toNat (by omega)
    have := shF_no _ hz j a b
    simp only [decide_eq_false_iff_not] at this
    apply this
    refine ⟨d, ?_⟩
    have f' : sOc (oc s) p j + T (s + 1) (p + j) = mnL (fun q => sOc (oc s) p q + T (s + 1) (p + q)) (lo s) (min (hi s) (n - p)).toNat := f
    omega
theorem dp_lay {oc : Int → Int → Int} {lo hi : Int → Int} {n : Int} {T : Int → Int → Int} {s p : Int} (hz : shX oc lo hi n T s p ≠ 0) : ∃ j : Nat, shX oc lo hi n T s p = j ∧ 1 ≤ j ∧ (j : Int) ≤ n - p ∧ (j : Int) ≤ hi s ∧ lo s ≤ j ∧ sOc (oc s) p j + T (s + 1) (p + j) = T s p := by
  obtain ⟨j, a, b, d, f, g⟩ := shF_yes _ hz
  simp only [decide_eq_true_eq] at f
  exact ⟨j, d, a, by omega, by omega, f.1, f.2⟩
/-- the walk along a table whose first cell is a cost: it stays on costs -/
theorem tr_low {oc : Int → Int → Int} {pf lo hi : Int → Int} {n m : Int} {T : Int → Int → Int} (hoc : ∀ s q, 0 ≤ oc s q ∧ oc s q ≤ 3) (hpf : ∀ p, 0 ≤ pf p) (h : IsDP oc pf lo hi n m 0 T) {s u : Int} (hs : 0 ≤ s ∧ s < m) (hu : 0 ≤ u) (hT : T s u < 1000000) : ∀ (k : Nat), u + k ≤ n → (∀ f, u ≤ f → f < u + k → shX oc lo hi n T s f = 0) → T s (u + k) < 1000000
  | 0, _, _ => by simpa using hT
  | k + 1, hk, hz => by
    have ih := tr_low hoc hpf h hs hu hT k (by omega) (fun f a b => hz f a (by omega))
    have e := dp_pause h hs (p := u + k) ⟨by omega, by omega⟩ ih (hz (u + k) (by omega) (by omega))
    have := hpf (u + k)
    rw [show u + ((k + 1 : Nat) : Int) = u + k + 1 by omega]
    omega
theorem tr_all {oc : Int → Int → Int} {pf lo hi : Int → Int} {n m t : Int} {T : Int → Int → Int} {b l : Int → Int} (hoc : ∀ s q, 0 ≤ oc s q ∧ oc s q ≤ 3) (hpf : ∀ p, 0 ≤ pf p) (hn : 0 ≤ n) (h : IsDP oc pf lo hi n m 0 T) (h0 : T 0 0 < 1000000) (ht : 0 ≤ t ∧ t ≤ m) (hP : TrP (shX oc lo hi n T) n b l t) : ∀ (k : Nat), (k : Int) ≤ t → 0 ≤ stB b l k ∧ stB b l k ≤ n ∧ T k (stB b l k) < 1000000
  | 0, _ => by simp [stB, h0, hn]
  | k + 1, hk => by
    obtain ⟨i1, i2, i3⟩ := tr_all hoc hpf hn h h0 ht hP k (by omega)
    obtain ⟨a1, a2, a3, a4, a5⟩ := hP k (by omega) (by omega)
    have e1 := tr_low hoc hpf h (s := k) (u := stB b l k) ⟨by omega, by omega⟩ i1 i3 (b k - stB b l k).toNat (by omega) (fun f q1 q2 => a5 f q1 (by omega))
    rw [show stB b l k + ((b k - stB b l k).toNat : Int) = b k by omega] at e1
    obtain ⟨j, d1, d2, d3, d4, d5, d6⟩ := dp_lay (oc := oc) (lo := lo) (hi := hi) (n := n) (T := T) (s := k) (p := b k) (by rw [← a3]; omega)
    have hsr := sOc_rng (oc := oc k) (fun q => hoc k q) (b k) j
    have e2 : stB b l ((k + 1 : Nat) : Int) = b k + l k := by unfold stB; rw [if_neg (by omega), show ((k + 1 : Nat) : Int) - 1 = (k : Int) by omega]
    rw [e2, a3, d1, show ((k + 1 : Nat) : Int) = (k : Int) + 1 by omega]
    refine ⟨by omega, by omega, by omega⟩
theorem tr_done {oc : Int → Int → Int} {pf lo hi : Int → Int} {n m t : Int} {T : Int → Int → Int} {b l : Int → Int} (hoc : ∀ s q, 0 ≤ oc s q ∧ oc s q ≤ 3) (hpf : ∀ p, 0 ≤ pf p) (hn : 0 ≤ n) (h : IsDP oc pf lo hi n m 0 T) (h0 : T 0 0 < 1000000) (ht : 0 ≤ t ∧ t ≤ m) (hP : TrP (shX oc lo hi n T) n b l t) (he : t = m ∨ ∀ f, stB b l t ≤ f → f < n → shX oc lo hi n T t f = 0) : t = m := by
  rcases he with e | e
  · exact e
  · rcases Int.lt_or_eq_of_le ht.2 with q | q
    · exfalso
      obtain ⟨i1, i2, i3⟩ := tr_all hoc hpf hn h h0 ht hP t.toNat (by omega)
      rw [show ((t.toNat : Nat) : Int) = t by omega] at i1 i2 i3
      have e1 := tr_low hoc hpf h (s := t) (u := stB b l t) ⟨by omega, q⟩ i1 i3 (n - stB b l t).toNat (by omega) (fun f q1 q2 => e f q1 (by omega))
      rw [show stB b l t + ((n - stB b l t).toNat : Int) = n by omega] at e1
      have := (h.2.2.2 t ht.1 q).1
      omega
    · exact q
theorem ocA_rng (A : aSt) (w s q : Int) : 0 ≤ ocA A w s q ∧ ocA A w s q ≤ 3 := cOv_rng _ _ _
theorem pfA_rng (A : aSt) (w p : Int) : 0 ≤ pfA A w p := (pz_rng _).1
theorem fitT_one {A : aSt} {w : Int} {T : Int → Int → Int} (h : DPA A w T) : ∀ s p, 0 ≤ s → s ≤ mA A w → 0 ≤ p → p ≤ nA A w → T s p = fitT A w s p :=
  IsDP.one (Int.natCast_nonneg _) (Int.natCast_nonneg _) h (Classical.epsilon_spec (p := fun T => DPA A w T) ⟨T, h⟩)
theorem fitT_dp {A : aSt} {w : Int} {T : Int → Int → Int} (h : DPA A w T) : DPA A w (fitT A w) := Classical.epsilon_spec (p := fun T => DPA A w T) ⟨T, h⟩
theorem fitBL_one {A : aSt} {w : Int} {T : Int → Int → Int} {b l : Int → Int} (h : DPA A w T) (hP : TrA A w T b l) : ∀ j, 0 ≤ j → j < mA A w → b j = (fitBL A w).1 j ∧ l j = (fitBL A w).2 j := by
  have e : ∀ j f, 0 ≤ j → j < mA A w → 0 ≤ f → f < nA A w → shX (ocA A w) (loA A w) (hiA A w) (nA A w) T j f = shX (ocA A w) (loA A w) (hiA A w) (nA A w) (fitT A w) j f := fun j f a1 a2 a3 a4 => shX.cg ⟨a1, a2⟩ ⟨a3, a4⟩ (fun _ _ _ _ _ _ => rfl) (fun _ _ _ => ⟨rfl, rfl⟩) (fitT_one h)
  have hP2 : TrA A w (fitT A w) b l := by
    have key : ∀ (k : Nat), (k : Int) ≤ mA A w → 0 ≤ stB b l k := by
      intro k
      induction k with
      | zero => intro _; simp [stB]
      | succ k ih =>
        intro hk
        obtain ⟨a1, a2, a3, a4, a5⟩ := hP k (by omega) (by omega)
        have := ih (by omega)
        unfold stB
        rw [if_neg (by omega), show ((k + 1 : Nat) : Int) - 1 = (k : Int) by omega]
        omega
    intro j q1 q2
    have k0 := key j.toNat (by omega)
    rw [show ((j.toNat : Nat) : Int) = j by omega] at k0
    obtain ⟨a1, a2, a3, a4, a5⟩ := hP j q1 q2
    refine ⟨a1, a2, ?_, a4, fun f z1 z2 => ?_⟩
    · rw [← e j (b j) q1 q2 (by omega) a2]; exact a3
    · rw [← e j f q1 q2 (by omega) (by omega)]; exact a5 f z1 z2
  exact TrP.one (fun _ _ _ _ _ _ => rfl) hP2 (Classical.epsilon_spec (p := fun x : (Int → Int) × (Int → Int) => TrA A w (fitT A w) x.1 x.2) ⟨(b, l), hP2⟩)
