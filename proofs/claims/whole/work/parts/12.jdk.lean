section
variable {E : qE} {l : Launch} {own : String} {cc : ByteArray} {nL : Nat} {rt : Option FieldType} {n : Nat} {Ret : Option qV → qSt → Prop} {G : qSt → Nat → List (Option qV) → List qV → Prop} {σ : qSt} {pc : Nat} {lv : List (Option qV)} {st : List qV}
theorem r_w {a : Int} (b : Int) (C : Cx E l own cc nL rt n Ret G) (h : Int32.ofInt a = Int32.ofInt b) (k : G σ pc lv (qi b :: st)) : G σ pc lv (qi a :: st) := C.go (fun _ _ _ _ _ _ _ _ _ _ _ _ _ _ _ _ _ _ k => by
  simp only [List.map_cons, qv] at k ⊢
  rw [h]
  exact k) k
end
theorem c_min (E : qE) (hT : qTok (eT E)) (l : Launch) (σ : qSt) (a b : Int) (ha : InI a) (hb : InI b) : CM E l yJ9_min_7cf53 cJ9_min_7cf53 2 (some .int) 1 [qi a, qi b] σ (Ri fun z σ' => z = min a b ∧ σ = σ') := by
  refine CM.mkF hT (by decide +kernel) (Nat.le_of_ble_eq_true rfl) (fun G C => ?_)
  show G σ 0 [some (qi a), some (qi b)] []
  refine r_iload_n C dJ9_min_7cf53_0 rfl ?_
  refine r_iload_n C dJ9_min_7cf53_1 rfl ?_
  refine r_ic_gt 9 C dJ9_min_7cf53_2 (by decide) (by omega) (by omega) (fun h2 => ?_) (fun h2 => ?_)
  · refine r_iload_n C dJ9_min_7cf53_9 rfl ?_
    refine r_iret C dJ9_min_7cf53_10 ⟨_, rfl, by omega, rfl⟩
  · refine r_iload_n C dJ9_min_7cf53_5 rfl ?_
    refine r_goto 10 C dJ9_min_7cf53_6 (by decide) ?_
    refine r_iret C dJ9_min_7cf53_10 ⟨_, rfl, by omega, rfl⟩
theorem c_max (E : qE) (hT : qTok (eT E)) (l : Launch) (σ : qSt) (a b : Int) (ha : InI a) (hb : InI b) : CM E l yJ9_max_7cf53 cJ9_max_7cf53 2 (some .int) 1 [qi a, qi b] σ (Ri fun z σ' => z = max a b ∧ σ = σ') := by
  refine CM.mkF hT (by decide +kernel) (Nat.le_of_ble_eq_true rfl) (fun G C => ?_)
  show G σ 0 [some (qi a), some (qi b)] []
  refine r_iload_n C dJ9_max_7cf53_0 rfl ?_
  refine r_iload_n C dJ9_max_7cf53_1 rfl ?_
  refine r_ic_lt 9 C dJ9_max_7cf53_2 (by decide) (by omega) (by omega) (fun h2 => ?_) (fun h2 => ?_)
  · refine r_iload_n C dJ9_max_7cf53_9 rfl ?_
    refine r_iret C dJ9_max_7cf53_10 ⟨_, rfl, by omega, rfl⟩
  · refine r_iload_n C dJ9_max_7cf53_5 rfl ?_
    refine r_goto 10 C dJ9_max_7cf53_6 (by decide) ?_
    refine r_iret C dJ9_max_7cf53_10 ⟨_, rfl, by omega, rfl⟩
/-- how many of the lowest twelve bits are set -/
def pop12 (z : Int) : Int := z % 2 + z / 2 % 2 + z / 4 % 2 + z / 8 % 2 + z / 16 % 2 + z / 32 % 2 + z / 64 % 2 + z / 128 % 2 + z / 256 % 2 + z / 512 % 2 + z / 1024 % 2 + z / 2048 % 2
def bcU (x y : Int32) : Int32 := (x.toUInt32 >>> (y.toUInt32 &&& Int32.toUInt32 31)).toInt32
def bc0 (x : Int32) : Int32 :=
  let a := x - (bcU x (Int32.ofInt 1) &&& Int32.ofInt 1431655765)
  let b := (a &&& Int32.ofInt 858993459) + (bcU a (Int32.ofInt 2) &&& Int32.ofInt 858993459)
  let c := (b + bcU b (Int32.ofInt 4)) &&& Int32.ofInt 252645135
  let d := c + bcU c (Int32.ofInt 8)
  let f := d + bcU d (Int32.ofInt 16)
  f &&& Int32.ofInt 63
theorem bc0_64 : ∀ i, i < 64 → ∀ j, j < 64 → bc0 (Int32.ofInt ((64 * i + j : Nat) : Int)) = Int32.ofInt (pop12 ((64 * i + j : Nat) : Int)) := by decide +kernel
theorem bc0_eq {a : Int} (h : 0 ≤ a ∧ a < 4096) : bc0 (Int32.ofInt a) = Int32.ofInt (pop12 a) := by
  have := bc0_64 (a / 64).toNat (by omega) (a % 64).toNat (by omega)
  rwa [show ((64 * (a / 64).toNat + (a % 64).toNat : Nat) : Int) = a by omega] at this
theorem w_ex (x : Int32) : ∃ w : Int, x = Int32.ofInt w := ⟨x.toInt, (Int32.ofInt_toInt x).symm⟩
theorem c_bitCount (E : qE) (hT : qTok (eT E)) (l : Launch) (σ : qSt) (a : Int) (ha : 0 ≤ a ∧ a < 4096) : CM E l yJ6_bitCount_0f7a4 cJ6_bitCount_0f7a4 1 (some .int) 1 [qi a] σ (Ri fun z σ' => z = pop12 a ∧ σ = σ') := by
  refine CM.mkF hT (by decide +kernel) (Nat.le_of_ble_eq_true rfl) (fun G C => ?_)
  show G σ 0 [some (qi a)] []
  obtain ⟨u1, hu1⟩ := w_ex (bcU (Int32.ofInt a) (Int32.ofInt 1))
  obtain ⟨u2, hu2⟩ := w_ex (Int32.ofInt u1 &&& Int32.ofInt 1431655765)
  obtain ⟨u3, hu3⟩ := w_ex (Int32.ofInt (a - u2) &&& Int32.ofInt 858993459)
  obtain ⟨u4, hu4⟩ := w_ex (bcU (Int32.ofInt (a - u2)) (Int32.ofInt 2))
  obtain ⟨u5, hu5⟩ := w_ex (Int32.ofInt u4 &&& Int32.ofInt 858993459)
  obtain ⟨u6, hu6⟩ := w_ex (bcU (Int32.ofInt (u3 + u5)) (Int32.ofInt 4))
  obtain ⟨u7, hu7⟩ := w_ex (Int32.ofInt (u3 + u5 + u6) &&& Int32.ofInt 252645135)
  obtain ⟨u8, hu8⟩ := w_ex (bcU (Int32.ofInt u7) (Int32.ofInt 8))
  obtain ⟨u9, hu9⟩ := w_ex (bcU (Int32.ofInt (u7 + u8)) (Int32.ofInt 16))
  obtain ⟨u10, hu10⟩ := w_ex (Int32.ofInt (u7 + u8 + u9) &&& Int32.ofInt 63)
  have key : Int32.ofInt u10 = Int32.ofInt (pop12 a) := by
    rw [← bc0_eq ha, ← hu10, Int32.ofInt_add, Int32.ofInt_add, ← hu9, Int32.ofInt_add, ← hu8, ← hu7, Int32.ofInt_add, ← hu6, Int32.ofInt_add, ← hu5, ← hu4, ← hu3, Int32.ofInt_sub, ← hu2, ← hu1]
    rfl
  refine r_iload_n C dJ6_bitCount_0f7a4_0 rfl ?_
  refine r_iload_n C dJ6_bitCount_0f7a4_1 rfl ?_
  refine r_iconst C dJ6_bitCount_0f7a4_2 ?_
  refine r_iushr u1 C dJ6_bitCount_0f7a4_3 hu1 ?_
  refine r_ldcw C dJ6_bitCount_0f7a4_4 kc_J6_265 ?_
  refine r_iand u2 C dJ6_bitCount_0f7a4_7 hu2 ?_
  refine r_isub C dJ6_bitCount_0f7a4_8 ?_
  refine r_istore_n C dJ6_bitCount_0f7a4_9 rfl rfl (by decide) ?_
  refine r_iload_n C dJ6_bitCount_0f7a4_10 rfl ?_
  refine r_ldcw C dJ6_bitCount_0f7a4_11 kc_J6_266 ?_
  refine r_iand u3 C dJ6_bitCount_0f7a4_14 hu3 ?_
  refine r_iload_n C dJ6_bitCount_0f7a4_15 rfl ?_
  refine r_iconst C dJ6_bitCount_0f7a4_16 ?_
  refine r_iushr u4 C dJ6_bitCount_0f7a4_17 hu4 ?_
  refine r_ldcw C dJ6_bitCount_0f7a4_18 kc_J6_266 ?_
  refine r_iand u5 C dJ6_bitCount_0f7a4_21 hu5 ?_
  refine r_iadd C dJ6_bitCount_0f7a4_22 ?_
  refine r_istore_n C dJ6_bitCount_0f7a4_23 rfl rfl (by decide) ?_
  refine r_iload_n C dJ6_bitCount_0f7a4_24 rfl ?_
  refine r_iload_n C dJ6_bitCount_0f7a4_25 rfl ?_
  refine r_iconst C dJ6_bitCount_0f7a4_26 ?_
  refine r_iushr u6 C dJ6_bitCount_0f7a4_27 hu6 ?_
  refine r_iadd C dJ6_bitCount_0f7a4_28 ?_
  refine r_ldcw C dJ6_bitCount_0f7a4_29 kc_J6_267 ?_
  refine r_iand u7 C dJ6_bitCount_0f7a4_32 hu7 ?_
  refine r_istore_n C dJ6_bitCount_0f7a4_33 rfl rfl (by decide) ?_
  refine r_iload_n C dJ6_bitCount_0f7a4_34 rfl ?_
  refine r_iload_n C dJ6_bitCount_0f7a4_35 rfl ?_
  refine r_bipush C dJ6_bitCount_0f7a4_36 ?_
  refine r_iushr u8 C dJ6_bitCount_0f7a4_38 hu8 ?_
  refine r_iadd C dJ6_bitCount_0f7a4_39 ?_
  refine r_istore_n C dJ6_bitCount_0f7a4_40 rfl rfl (by decide) ?_
  refine r_iload_n C dJ6_bitCount_0f7a4_41 rfl ?_
  refine r_iload_n C dJ6_bitCount_0f7a4_42 rfl ?_
  refine r_bipush C dJ6_bitCount_0f7a4_43 ?_
  refine r_iushr u9 C dJ6_bitCount_0f7a4_45 hu9 ?_
  refine r_iadd C dJ6_bitCount_0f7a4_46 ?_
  refine r_istore_n C dJ6_bitCount_0f7a4_47 rfl rfl (by decide) ?_
  refine r_iload_n C dJ6_bitCount_0f7a4_48 rfl ?_
  refine r_bipush C dJ6_bitCount_0f7a4_49 ?_
  refine r_iand u10 C dJ6_bitCount_0f7a4_51 hu10 ?_
  refine r_w (pop12 a) C key ?_
  refine r_iret C dJ6_bitCount_0f7a4_52 ⟨_, rfl, rfl, rfl⟩
