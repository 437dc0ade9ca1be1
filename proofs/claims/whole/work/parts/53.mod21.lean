/-! the reference's plan: every plan in turn -/
def fpF (cal : Int → Int) (f0 : Int) : Nat → Int × Int × Int
  | 0 => (-1, 0, f0)
  | P + 1 => if cal P < 0 ∨ (0 ≤ (fpF cal f0 P).1 ∧ (fpF cal f0 P).1 < cal P) then fpF cal f0 P else if (fpF cal f0 P).1 < 0 ∨ cal P < (fpF cal f0 P).1 then (cal P, 1, (P : Int)) else ((fpF cal f0 P).1, (fpF cal f0 P).2.1 + 1, (fpF cal f0 P).2.2)
theorem fpF_r {cal : Int → Int} {f0 : Int} (hc : ∀ P, -1 ≤ cal P ∧ cal P ≤ 48) : ∀ P : Nat, -1 ≤ (fpF cal f0 P).1 ∧ (fpF cal f0 P).1 ≤ 48 ∧ 0 ≤ (fpF cal f0 P).2.1 ∧ (fpF cal f0 P).2.1 ≤ P ∧ ((fpF cal f0 P).2.2 = f0 ∨ (0 ≤ (fpF cal f0 P).2.2 ∧ (fpF cal f0 P).2.2 < P))
  | 0 => by simp [fpF]
  | P + 1 => by
    have ih := fpF_r (f0 := f0) hc P
    have h := hc P
    simp only [fpF]
    push_cast
    split
    · omega
    · split
      · simp only; omega
      · simp only; omega
