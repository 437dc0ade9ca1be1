/-! the first state -/
def A0 : aSt := (([], [], [], fun _ => -1, fun _ => -1, fun _ => 15, fun _ => 60, []), [], 0, fun _ => 0, fun _ => 0, fun _ _ => 0)
theorem nl_f {α : Type} {i : Nat} {x : α} (h : ([] : List α)[i]? = some x) : False := by simp at h
theorem A0_ok : AOk A0 := by
  refine ⟨⟨⟨Nat.zero_le _, fun i x h => (nl_f h).elim⟩, ⟨Nat.zero_le _, fun i x h => (nl_f h).elim⟩, ⟨Nat.zero_le _, fun i x h => (nl_f h).elim⟩, fun i _ _ => ?_, fun i _ _ => ?_, fun i _ _ => ?_, fun i _ _ => ?_, ⟨Nat.zero_le _, fun i x h => (nl_f h).elim⟩⟩, Nat.zero_le _, trivial, fun s _ _ => ?_⟩
  · show -1 ≤ (-1 : Int) ∧ (-1 : Int) ≤ 7; omega
  · show -1 ≤ (-1 : Int) ∧ (-1 : Int) ≤ 7; omega
  · show 0 ≤ (15 : Int) ∧ (15 : Int) ≤ 15; omega
  · show 0 ≤ (60 : Int) ∧ (60 : Int) ≤ 100; omega
  · refine ⟨Or.inl rfl, ?_, ?_, fun j => ?_⟩
    · show (0 : Int) ≤ 0; omega
    · show (0 : Int) ≤ 30; omega
    · show (0 : Int) ≤ 0 ∧ (0 : Int) < 4; omega
theorem s0D_r (k : Nat) (i j : Int) : -1 ≤ s0D k i j ∧ s0D k i j ≤ 60 := by
  unfold s0D
  repeat (split <;> try omega)
theorem s0M_r (k : Nat) (i j : Int) : -1 ≤ s0M k i j ∧ s0M k i j ≤ 60 := by
  unfold s0M
  repeat (split <;> try omega)
theorem A0_D : RelD s0D A0 := by
  refine ⟨⟨fun k i j _ _ => by have := s0D_r k i j; omega, fun j _ _ => ?_, fun l _ _ => ?_, fun k _ _ => ?_, fun w s _ _ _ _ => ?_, fun t _ _ => ?_⟩, Or.inl rfl, ⟨⟨rfl, fun i x h => (nl_f h).elim⟩, ⟨rfl, fun i x h => (nl_f h).elim⟩, ⟨rfl, fun i x h => (nl_f h).elim⟩, fun i _ _ => rfl, fun i _ _ => rfl, fun i _ _ => rfl, fun i _ _ => rfl, ⟨rfl, fun i x h => (nl_f h).elim⟩⟩, ⟨?_, ?_, rfl, Nat.zero_le _, fun k a h => (nl_f h).elim⟩, fun s _ _ => ⟨rfl, rfl, fun j _ _ => rfl⟩, rfl⟩
  · show 0 ≤ (0 : Int) ∧ (0 : Int) < 256 ∧ 0 ≤ (0 : Int) ∧ (0 : Int) < 16 ∧ 0 ≤ (0 : Int) ∧ (0 : Int) ≤ 60; omega
  · show 0 ≤ (0 : Int) ∧ (0 : Int) < 6; omega
  · show 0 ≤ (0 : Int) ∧ (0 : Int) < 4096; omega
  · show 0 ≤ (0 : Int) ∧ (0 : Int) ≤ 6 ∧ 0 ≤ (0 : Int) ∧ (0 : Int) ≤ 6 ∧ 0 ≤ (0 : Int) ∧ (0 : Int) < 32; omega
  · show 0 ≤ (0 : Int) ∧ (0 : Int) < 32; omega
  · show (0 : Int) ≤ 0; omega
  · show (0 : Int) < 20; omega
theorem s0M_at {i v lo n : Int} (h : lo ≤ i ∧ i < lo + n) (hv : (308 ≤ lo ∧ lo + n ≤ 346 ∧ v = -1) ∨ (346 ≤ lo ∧ lo + n ≤ 354 ∧ v = 15) ∨ (354 ≤ lo ∧ lo + n ≤ 358 ∧ v = 60)) : s0M 1 0 i = v := by
  unfold s0M
  rw [if_pos rfl]
  repeat (split <;> try omega)
theorem A0_M : RelM s0M A0 := by
  refine ⟨fun k i j _ _ => by have := s0M_r k i j; omega, fun k j h => ?_, ⟨⟨rfl, fun i x h => (nl_f h).elim⟩, ⟨rfl, fun i x h => (nl_f h).elim⟩, ⟨rfl, fun i x h => (nl_f h).elim⟩, fun i a b => s0M_at (v := -1) (lo := 308) (n := 32) (by omega) (by omega), fun i a b => s0M_at (v := -1) (lo := 340) (n := 6) (by omega) (by omega), fun i a b => s0M_at (v := 15) (lo := 346) (n := 8) (by omega) (by omega), fun i a b => s0M_at (v := 60) (lo := 354) (n := 4) (by omega) (by omega), ⟨rfl, fun i x h => (nl_f h).elim⟩⟩, rfl, fun k c h => (nl_f h).elim, fun s _ _ => ⟨rfl, rfl, fun j _ _ => rfl⟩, rfl⟩
  rcases h with rfl | rfl
  · show 0 ≤ (0 : Int) ∧ (0 : Int) < 281474976710656; omega
  · show 0 ≤ (0 : Int) ∧ (0 : Int) < 281474976710656; omega
