/-! the reference's plan: the calls of one plan -/
def dPl (n P k : Int) : Int := P / 2 ^ (2 * (n - 1 - k)).toNat % 4
def clK (N O Mi dd : Int → Int) (d : Int) : Nat → Bool × Int × Int
  | 0 => (true, 0, 0)
  | k + 1 => if dd k = d then ((clK N O Mi dd d k).1 && decide (O k / 2 ^ d.toNat % 2 ≠ 0), bor (clK N O Mi dd d k).2.1 (N k), (clK N O Mi dd d k).2.2 + Mi k) else clK N O Mi dd d k
theorem clK_no {N O Mi dd : Int → Int} {d : Int} {m : Nat} (h : (clK N O Mi dd d m).1 = false) : ∀ n : Nat, m ≤ n → (clK N O Mi dd d n).1 = false
  | 0, hn => by rw [show m = 0 by omega] at h; exact h
  | n + 1, hn => by
    by_cases e : m = n + 1
    · rw [e] at h; exact h
    · have ih := clK_no h n (by omega)
      simp only [clK]
      split
      · simp [ih]
      · exact ih
def clS (N O Mi R dd : Int → Int) (n : Nat) : Nat → Int
  | 0 => 0
  | d + 1 => if clS N O Mi R dd n d < 0 then -1 else if (clK N O Mi dd d n).1 = true ∧ (clK N O Mi dd d n).2.2 ≤ R d then clS N O Mi R dd n d + pop12 (clK N O Mi dd d n).2.1 else -1
theorem clS_no {N O Mi R dd : Int → Int} {n m : Nat} (h : clS N O Mi R dd n m < 0) : ∀ k : Nat, m ≤ k → clS N O Mi R dd n k < 0
  | 0, hk => by rw [show m = 0 by omega] at h; exact h
  | k + 1, hk => by
    by_cases e : m = k + 1
    · rw [e] at h; exact h
    · have ih := clS_no h k (by omega)
      simp only [clS]
      rw [if_pos ih]
      decide
theorem clS_m1 {N O Mi R dd : Int → Int} {n : Nat} : ∀ k : Nat, clS N O Mi R dd n k < 0 → clS N O Mi R dd n k = -1
  | 0, h => by simp [clS] at h
  | k + 1, h => by
    simp only [clS] at h ⊢
    split
    · rfl
    · next q =>
      rw [if_neg q] at h
      split
      · next u =>
        rw [if_pos u] at h
        exfalso
        have : 0 ≤ pop12 (clK N O Mi dd k n).2.1 := by unfold pop12; omega
        omega
      · rfl
