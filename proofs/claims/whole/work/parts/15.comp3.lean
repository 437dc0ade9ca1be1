/-! the class: lines, wordings, sheets, acts -/
/-- cost of a syllable's shape over a frame's, by the wording's kind -/
def cOv (own shape kind : Int) : Int := if own = shape ∨ kind = 2 then 0 else if own = 0 ∨ shape = 0 then (if kind = 3 then 0 else 3) else 1
theorem cOv_rng (own shape kind : Int) : 0 ≤ cOv own shape kind ∧ cOv own shape kind ≤ 3 := by
  unfold cOv
  split
  · omega
  · split
    · split <;> omega
    · omega
def qFil (σ : qSt) (k : Nat) (i lo hi z : Int) : qSt := fun a b c => if a = k ∧ b = i ∧ lo ≤ c ∧ c < hi then z else σ a b c
theorem qFil_0 (σ : qSt) (k : Nat) (i lo z : Int) : qFil σ k i lo lo z = σ := by
  funext a b c
  simp only [qFil]
  rw [if_neg]
  omega
theorem qFil_s (σ : qSt) (k : Nat) (i lo hi z : Int) (h : lo ≤ hi) : qUp (qFil σ k i lo hi z) k i hi z = qFil σ k i lo (hi + 1) z := by
  funext a b c
  simp only [qUp, qFil]
  by_cases h1 : a = k ∧ b = i ∧ c = hi
  · rw [if_pos h1, if_pos (by omega)]
  · rw [if_neg h1]
    by_cases h2 : a = k ∧ b = i ∧ lo ≤ c ∧ c < hi
    · rw [if_pos h2, if_pos (by omega)]
    · rw [if_neg h2, if_neg (by omega)]
set_option maxRecDepth 20000 in
theorem c_X9_begin (e : qR) (l : Launch) (σ : qSt) (w li ki se : Int) (hw : 0 ≤ w ∧ w < 20) : CM (ED e) l yX9_begin cX9_begin 4 none 2 [qr 105 w, qi li, qi ki, qi se] σ (Rv fun σ' => σ' = qUp (qUp (qUp (qUp σ 105 w 4 li) 105 w 5 ki) 105 w 6 se) 105 w 7 0) := by
  refine CM.mk tD_ok (by decide +kernel) (Nat.le_of_ble_eq_true rfl) (fun G C => ?_)
  show G σ 0 [some (qr 105 w), some (qi li), some (qi ki), some (qi se)] []
  refine r_aload_n C dX9_begin_0 rfl ?_
  refine r_iload_n C dX9_begin_1 rfl ?_
  refine r_put_i (c := 20) 4 C dX9_begin_2 fw_X9_24 rfl rfl rfl rfl (by omega) rfl rfl ?_
  refine r_aload_n C dX9_begin_5 rfl ?_
  refine r_iload_n C dX9_begin_6 rfl ?_
  refine r_put_i (c := 20) 5 C dX9_begin_7 fw_X9_28 rfl rfl rfl rfl (by omega) rfl rfl ?_
  refine r_aload_n C dX9_begin_10 rfl ?_
  refine r_iload_n C dX9_begin_11 rfl ?_
  refine r_put_i (c := 20) 6 C dX9_begin_12 fw_X9_31 rfl rfl rfl rfl (by omega) rfl rfl ?_
  refine r_aload_n C dX9_begin_15 rfl ?_
  refine r_iconst C dX9_begin_16 ?_
  refine r_put_i (c := 20) 7 C dX9_begin_17 fw_X9_34 rfl rfl rfl rfl (by omega) rfl rfl ?_
  refine r_vret C dX9_begin_20 ?_
  exact ⟨rfl, rfl⟩
set_option maxRecDepth 20000 in
theorem c_X9_append (e : qR) (l : Launch) (σ : qSt) (w s0 s1 s2 s3 : Int) (hw : 0 ≤ w ∧ w < 20) (hs : 0 ≤ σ 105 w 7 ∧ σ 105 w 7 < 8) : CM (ED e) l yX9_append cX9_append 5 none 2 [qr 105 w, qi s0, qi s1, qi s2, qi s3] σ (Rv fun σ' => σ' = qUp (qUp (qUp (qUp (qUp σ 106 w (σ 105 w 7) s0) 107 w (σ 105 w 7) s1) 108 w (σ 105 w 7) s2) 109 w (σ 105 w 7) s3) 105 w 7 (σ 105 w 7 + 1)) := by
  refine CM.mk tD_ok (by decide +kernel) (Nat.le_of_ble_eq_true rfl) (fun G C => ?_)
  show G σ 0 [some (qr 105 w), some (qi s0), some (qi s1), some (qi s2), some (qi s3)] []
  refine r_aload_n C dX9_append_0 rfl ?_
  refine r_get_r (c := 20) C dX9_append_1 fl_X9_9 rfl rfl rfl (by omega) rfl ?_
  refine r_aload_n C dX9_append_4 rfl ?_
  refine r_get_i (c := 20) 7 C dX9_append_5 fl_X9_34 rfl rfl rfl rfl (by omega) ?_
  refine r_iload_n C dX9_append_8 rfl ?_
  refine r_iast (c := 20) (N := 8) C dX9_append_9 rfl rfl (by omega) (by omega) ?_
  refine r_aload_n C dX9_append_10 rfl ?_
  refine r_get_r (c := 20) C dX9_append_11 fl_X9_15 rfl rfl rfl (by omega) rfl ?_
  refine r_aload_n C dX9_append_14 rfl ?_
  refine r_get_i (c := 20) 7 C dX9_append_15 fl_X9_34 rfl rfl rfl rfl (by omega) ?_
  refine r_v (b := (σ 105 w 7)) (by simp [qUp, qCpy]) ?_
  refine r_iload_n C dX9_append_18 rfl ?_
  refine r_iast (c := 20) (N := 8) C dX9_append_19 rfl rfl (by omega) (by omega) ?_
  refine r_aload_n C dX9_append_20 rfl ?_
  refine r_get_r (c := 20) C dX9_append_21 fl_X9_18 rfl rfl rfl (by omega) rfl ?_
  refine r_aload_n C dX9_append_24 rfl ?_
  refine r_get_i (c := 20) 7 C dX9_append_25 fl_X9_34 rfl rfl rfl rfl (by omega) ?_
  refine r_v (b := (σ 105 w 7)) (by simp [qUp, qCpy]) ?_
  refine r_iload_n C dX9_append_28 rfl ?_
  refine r_iast (c := 20) (N := 8) C dX9_append_29 rfl rfl (by omega) (by omega) ?_
  refine r_aload_n C dX9_append_30 rfl ?_
  refine r_get_r (c := 20) C dX9_append_31 fl_X9_21 rfl rfl rfl (by omega) rfl ?_
  refine r_aload_n C dX9_append_34 rfl ?_
  refine r_get_i (c := 20) 7 C dX9_append_35 fl_X9_34 rfl rfl rfl rfl (by omega) ?_
  refine r_v (b := (σ 105 w 7)) (by simp [qUp, qCpy]) ?_
  refine r_iload C dX9_append_38 rfl ?_
  refine r_iast (c := 20) (N := 8) C dX9_append_40 rfl rfl (by omega) (by omega) ?_
  refine r_aload_n C dX9_append_41 rfl ?_
  refine r_dup C dX9_append_42 ?_
  refine r_get_i (c := 20) 7 C dX9_append_43 fl_X9_34 rfl rfl rfl rfl (by omega) ?_
  refine r_v (b := (σ 105 w 7)) (by simp [qUp, qCpy]) ?_
  refine r_iconst C dX9_append_46 ?_
  refine r_iadd C dX9_append_47 ?_
  refine r_put_i (c := 20) 7 C dX9_append_48 fw_X9_34 rfl rfl rfl rfl (by omega) rfl rfl ?_
  refine r_vret C dX9_append_51 ?_
  exact ⟨rfl, rfl⟩
set_option maxRecDepth 20000 in
theorem c_X9_longest (e : qR) (l : Launch) (σ : qSt) (w i : Int) (hb : Bd σ) (hw : 0 ≤ w ∧ w < 20) (hi : 0 ≤ i ∧ i < 8) : CM (ED e) l yX9_longest cX9_longest 2 (some .int) 2 [qr 105 w, qi i] σ (Ri fun z σ' => z = (if σ 105 w 5 = 1 ∨ σ 105 w 5 = 3 then σ 107 w i else σ 108 w i) ∧ σ = σ') := by
  refine CM.mk tD_ok (by decide +kernel) (Nat.le_of_ble_eq_true rfl) (fun G C => ?_)
  show G σ 0 [some (qr 105 w), some (qi i)] []
  refine r_aload_n C dX9_longest_0 rfl ?_
  refine r_get_i (c := 20) 5 C dX9_longest_1 fl_X9_28 rfl rfl rfl rfl (by omega) ?_
  have b1 := hb 105 w 5 (by omega) (by omega)
  refine r_iconst C dX9_longest_4 ?_
  refine r_ic_eq 16 C dX9_longest_5 (by decide) (by omega) (by omega) (fun h5 => ?_) (fun h5 => ?_)
  · refine r_aload_n C dX9_longest_16 rfl ?_
    refine r_get_r (c := 20) C dX9_longest_17 fl_X9_15 rfl rfl rfl (by omega) rfl ?_
    refine r_iload_n C dX9_longest_20 rfl ?_
    refine r_iald (c := 20) (N := 8) C dX9_longest_21 rfl rfl (by omega) (by omega) ?_
    have b21 := hb 107 w i (by omega) (by omega)
    refine r_goto 31 C dX9_longest_22 (by decide) ?_
    refine r_iret C dX9_longest_31 ?_
    exact ⟨_, rfl, by first | (rw [if_pos (by omega)]) | (rw [if_neg (by omega)]), rfl⟩
  · refine r_aload_n C dX9_longest_8 rfl ?_
    refine r_get_i (c := 20) 5 C dX9_longest_9 fl_X9_28 rfl rfl rfl rfl (by omega) ?_
    have b9 := hb 105 w 5 (by omega) (by omega)
    refine r_iconst C dX9_longest_12 ?_
    refine r_ic_ne 25 C dX9_longest_13 (by decide) (by omega) (by omega) (fun h13 => ?_) (fun h13 => ?_)
    · refine r_aload_n C dX9_longest_25 rfl ?_
      refine r_get_r (c := 20) C dX9_longest_26 fl_X9_18 rfl rfl rfl (by omega) rfl ?_
      refine r_iload_n C dX9_longest_29 rfl ?_
      refine r_iald (c := 20) (N := 8) C dX9_longest_30 rfl rfl (by omega) (by omega) ?_
      have b30 := hb 108 w i (by omega) (by omega)
      refine r_iret C dX9_longest_31 ?_
      exact ⟨_, rfl, by first | (rw [if_pos (by omega)]) | (rw [if_neg (by omega)]), rfl⟩
    · refine r_aload_n C dX9_longest_16 rfl ?_
      refine r_get_r (c := 20) C dX9_longest_17 fl_X9_15 rfl rfl rfl (by omega) rfl ?_
      refine r_iload_n C dX9_longest_20 rfl ?_
      refine r_iald (c := 20) (N := 8) C dX9_longest_21 rfl rfl (by omega) (by omega) ?_
      have b21 := hb 107 w i (by omega) (by omega)
      refine r_goto 31 C dX9_longest_22 (by decide) ?_
      refine r_iret C dX9_longest_31 ?_
      exact ⟨_, rfl, by first | (rw [if_pos (by omega)]) | (rw [if_neg (by omega)]), rfl⟩
set_option maxRecDepth 20000 in
theorem c_X9_costOver (e : qR) (l : Launch) (σ : qSt) (w i shp : Int) (hb : Bd σ) (hw : 0 ≤ w ∧ w < 20) (hi : 0 ≤ i ∧ i < 8) (hs : InI shp) : CM (ED e) l yX9_costOver cX9_costOver 4 (some .int) 2 [qr 105 w, qi i, qi shp] σ (Ri fun z σ' => z = cOv (σ 106 w i) shp (σ 105 w 5) ∧ σ = σ') := by
  refine CM.mk tD_ok (by decide +kernel) (Nat.le_of_ble_eq_true rfl) (fun G C => ?_)
  show G σ 0 [some (qr 105 w), some (qi i), some (qi shp), none] []
  refine r_aload_n C dX9_costOver_0 rfl ?_
  refine r_get_r (c := 20) C dX9_costOver_1 fl_X9_9 rfl rfl rfl (by omega) rfl ?_
  refine r_iload_n C dX9_costOver_4 rfl ?_
  refine r_iald (c := 20) (N := 8) C dX9_costOver_5 rfl rfl (by omega) (by omega) ?_
  have b5 := hb 106 w i (by omega) (by omega)
  refine r_istore_n C dX9_costOver_6 rfl rfl (by decide) ?_
  refine r_iload_n C dX9_costOver_7 rfl ?_
  refine r_iload_n C dX9_costOver_8 rfl ?_
  refine r_ic_eq 20 C dX9_costOver_9 (by decide) (by omega) (by omega) (fun h9 => ?_) (fun h9 => ?_)
  · refine r_iconst C dX9_costOver_20 ?_
    refine r_iret C dX9_costOver_21 ?_
    exact ⟨_, rfl, by simp only [cOv]; omega, rfl⟩
  · refine r_aload_n C dX9_costOver_12 rfl ?_
    refine r_get_i (c := 20) 5 C dX9_costOver_13 fl_X9_28 rfl rfl rfl rfl (by omega) ?_
    have b13 := hb 105 w 5 (by omega) (by omega)
    refine r_iconst C dX9_costOver_16 ?_
    refine r_ic_ne 22 C dX9_costOver_17 (by decide) (by omega) (by omega) (fun h17 => ?_) (fun h17 => ?_)
    · refine r_iload_n C dX9_costOver_22 rfl ?_
      refine r_if_eq 30 C dX9_costOver_23 (by decide) (by omega) (fun h23 => ?_) (fun h23 => ?_)
      · refine r_aload_n C dX9_costOver_30 rfl ?_
        refine r_get_i (c := 20) 5 C dX9_costOver_31 fl_X9_28 rfl rfl rfl rfl (by omega) ?_
        have b31 := hb 105 w 5 (by omega) (by omega)
        refine r_iconst C dX9_costOver_34 ?_
        refine r_ic_ne 42 C dX9_costOver_35 (by decide) (by omega) (by omega) (fun h35 => ?_) (fun h35 => ?_)
        · refine r_iconst C dX9_costOver_42 ?_
          refine r_iret C dX9_costOver_43 ?_
          exact ⟨_, rfl, by simp only [cOv]; omega, rfl⟩
        · refine r_iconst C dX9_costOver_38 ?_
          refine r_goto 43 C dX9_costOver_39 (by decide) ?_
          refine r_iret C dX9_costOver_43 ?_
          exact ⟨_, rfl, by simp only [cOv]; omega, rfl⟩
      · refine r_iload_n C dX9_costOver_26 rfl ?_
        refine r_if_ne 44 C dX9_costOver_27 (by decide) (by omega) (fun h27 => ?_) (fun h27 => ?_)
        · refine r_iconst C dX9_costOver_44 ?_
          refine r_iret C dX9_costOver_45 ?_
          exact ⟨_, rfl, by simp only [cOv]; omega, rfl⟩
        · refine r_aload_n C dX9_costOver_30 rfl ?_
          refine r_get_i (c := 20) 5 C dX9_costOver_31 fl_X9_28 rfl rfl rfl rfl (by omega) ?_
          have b31 := hb 105 w 5 (by omega) (by omega)
          refine r_iconst C dX9_costOver_34 ?_
          refine r_ic_ne 42 C dX9_costOver_35 (by decide) (by omega) (by omega) (fun h35 => ?_) (fun h35 => ?_)
          · refine r_iconst C dX9_costOver_42 ?_
            refine r_iret C dX9_costOver_43 ?_
            exact ⟨_, rfl, by simp only [cOv]; omega, rfl⟩
          · refine r_iconst C dX9_costOver_38 ?_
            refine r_goto 43 C dX9_costOver_39 (by decide) ?_
            refine r_iret C dX9_costOver_43 ?_
            exact ⟨_, rfl, by simp only [cOv]; omega, rfl⟩
    · refine r_iconst C dX9_costOver_20 ?_
      refine r_iret C dX9_costOver_21 ?_
      exact ⟨_, rfl, by simp only [cOv]; omega, rfl⟩
set_option maxRecDepth 20000 in
theorem c_X9_isOfKind_0 (e : qR) (l : Launch) (σ : qSt) (w x : Int) (hx : 0 ≤ x ∧ x < 4) (hw : 0 ≤ w ∧ w < 20) (hk : σ 105 w 5 = 0) : CM (ED e) l yX9_isOfKind cX9_isOfKind 4 (some .boolean) 2 [qr 105 w, qi x] σ (Ri fun z σ' => z = (if x = 0 then 1 else 0) ∧ σ = σ') := by
  refine CM.mk tD_ok (by decide +kernel) (Nat.le_of_ble_eq_true rfl) (fun G C => ?_)
  show G σ 0 [some (qr 105 w), some (qi x), none, none] []
  refine r_aload_n C dX9_isOfKind_0 rfl ?_
  refine r_get_i (c := 20) 5 C dX9_isOfKind_1 fl_X9_28 rfl rfl rfl rfl (by omega) ?_
  refine r_v hk ?_
  refine r_istore_n C dX9_isOfKind_4 rfl rfl (by decide) ?_
  refine r_iconst C dX9_isOfKind_5 ?_
  refine r_istore_n C dX9_isOfKind_6 rfl rfl (by decide) ?_
  refine r_iload_n C dX9_isOfKind_7 rfl ?_
  refine r_iconst C dX9_isOfKind_8 ?_
  refine r_ic_ge 35 C dX9_isOfKind_9 (by decide) (by decide) (by decide) (fun h => absurd h (by decide)) (fun _ => ?_)
  refine r_iload_n C dX9_isOfKind_12 rfl ?_
  refine r_if_lt 35 C dX9_isOfKind_13 (by decide) (by decide) (fun h => absurd h (by decide)) (fun _ => ?_)
  refine r_iload_n C dX9_isOfKind_16 rfl ?_
  refine r_iload_n C dX9_isOfKind_17 rfl ?_
  refine r_ic_ne 23 C dX9_isOfKind_18 (by decide) (by omega) (by omega) (fun h18 => ?_) (fun h18 => ?_)
  · refine r_getst C dX9_isOfKind_23 ?_
    refine r_iload_n C dX9_isOfKind_26 rfl ?_
    refine r_uald (v := -1) C dX9_isOfKind_27 (by decide) (by decide) ?_
    refine r_istore_n C dX9_isOfKind_28 rfl rfl (by decide) ?_
    refine r_iinc C dX9_isOfKind_29 rfl rfl rfl (by decide) ?_
    refine r_goto 7 C dX9_isOfKind_32 (by decide) ?_
    refine r_iload_n C dX9_isOfKind_7 rfl ?_
    refine r_iconst C dX9_isOfKind_8 ?_
    refine r_ic_ge 35 C dX9_isOfKind_9 (by decide) (by decide) (by decide) (fun h => absurd h (by decide)) (fun _ => ?_)
    refine r_iload_n C dX9_isOfKind_12 rfl ?_
    refine r_if_lt 35 C dX9_isOfKind_13 (by decide) (by decide) (fun _ => ?_) (fun h => absurd h (by decide))
    refine r_iconst C dX9_isOfKind_35 ?_
    refine r_zret C dX9_isOfKind_36 (by decide) ?_
    exact ⟨_, rfl, by omega, rfl⟩
  · refine r_iconst C dX9_isOfKind_21 ?_
    refine r_zret C dX9_isOfKind_22 (by decide) ?_
    exact ⟨_, rfl, by omega, rfl⟩
set_option maxRecDepth 20000 in
theorem c_X9_isOfKind_1 (e : qR) (l : Launch) (σ : qSt) (w x : Int) (hx : 0 ≤ x ∧ x < 4) (hw : 0 ≤ w ∧ w < 20) (hk : σ 105 w 5 = 1) : CM (ED e) l yX9_isOfKind cX9_isOfKind 4 (some .boolean) 2 [qr 105 w, qi x] σ (Ri fun z σ' => z = (if x = 1 ∨ x = 0 then 1 else 0) ∧ σ = σ') := by
  refine CM.mk tD_ok (by decide +kernel) (Nat.le_of_ble_eq_true rfl) (fun G C => ?_)
  show G σ 0 [some (qr 105 w), some (qi x), none, none] []
  refine r_aload_n C dX9_isOfKind_0 rfl ?_
  refine r_get_i (c := 20) 5 C dX9_isOfKind_1 fl_X9_28 rfl rfl rfl rfl (by omega) ?_
  refine r_v hk ?_
  refine r_istore_n C dX9_isOfKind_4 rfl rfl (by decide) ?_
  refine r_iconst C dX9_isOfKind_5 ?_
  refine r_istore_n C dX9_isOfKind_6 rfl rfl (by decide) ?_
  refine r_iload_n C dX9_isOfKind_7 rfl ?_
  refine r_iconst C dX9_isOfKind_8 ?_
  refine r_ic_ge 35 C dX9_isOfKind_9 (by decide) (by decide) (by decide) (fun h => absurd h (by decide)) (fun _ => ?_)
  refine r_iload_n C dX9_isOfKind_12 rfl ?_
  refine r_if_lt 35 C dX9_isOfKind_13 (by decide) (by decide) (fun h => absurd h (by decide)) (fun _ => ?_)
  refine r_iload_n C dX9_isOfKind_16 rfl ?_
  refine r_iload_n C dX9_isOfKind_17 rfl ?_
  refine r_ic_ne 23 C dX9_isOfKind_18 (by decide) (by omega) (by omega) (fun h18 => ?_) (fun h18 => ?_)
  · refine r_getst C dX9_isOfKind_23 ?_
    refine r_iload_n C dX9_isOfKind_26 rfl ?_
    refine r_uald (v := 0) C dX9_isOfKind_27 (by decide) (by decide) ?_
    refine r_istore_n C dX9_isOfKind_28 rfl rfl (by decide) ?_
    refine r_iinc C dX9_isOfKind_29 rfl rfl rfl (by decide) ?_
    refine r_goto 7 C dX9_isOfKind_32 (by decide) ?_
    refine r_iload_n C dX9_isOfKind_7 rfl ?_
    refine r_iconst C dX9_isOfKind_8 ?_
    refine r_ic_ge 35 C dX9_isOfKind_9 (by decide) (by decide) (by decide) (fun h => absurd h (by decide)) (fun _ => ?_)
    refine r_iload_n C dX9_isOfKind_12 rfl ?_
    refine r_if_lt 35 C dX9_isOfKind_13 (by decide) (by decide) (fun h => absurd h (by decide)) (fun _ => ?_)
    refine r_iload_n C dX9_isOfKind_16 rfl ?_
    refine r_iload_n C dX9_isOfKind_17 rfl ?_
    refine r_ic_ne 23 C dX9_isOfKind_18 (by decide) (by omega) (by omega) (fun h18 => ?_) (fun h18 => ?_)
    · refine r_getst C dX9_isOfKind_23 ?_
      refine r_iload_n C dX9_isOfKind_26 rfl ?_
      refine r_uald (v := -1) C dX9_isOfKind_27 (by decide) (by decide) ?_
      refine r_istore_n C dX9_isOfKind_28 rfl rfl (by decide) ?_
      refine r_iinc C dX9_isOfKind_29 rfl rfl rfl (by decide) ?_
      refine r_goto 7 C dX9_isOfKind_32 (by decide) ?_
      refine r_iload_n C dX9_isOfKind_7 rfl ?_
      refine r_iconst C dX9_isOfKind_8 ?_
      refine r_ic_ge 35 C dX9_isOfKind_9 (by decide) (by decide) (by decide) (fun h => absurd h (by decide)) (fun _ => ?_)
      refine r_iload_n C dX9_isOfKind_12 rfl ?_
      refine r_if_lt 35 C dX9_isOfKind_13 (by decide) (by decide) (fun _ => ?_) (fun h => absurd h (by decide))
      refine r_iconst C dX9_isOfKind_35 ?_
      refine r_zret C dX9_isOfKind_36 (by decide) ?_
      exact ⟨_, rfl, by omega, rfl⟩
    · refine r_iconst C dX9_isOfKind_21 ?_
      refine r_zret C dX9_isOfKind_22 (by decide) ?_
      exact ⟨_, rfl, by omega, rfl⟩
  · refine r_iconst C dX9_isOfKind_21 ?_
    refine r_zret C dX9_isOfKind_22 (by decide) ?_
    exact ⟨_, rfl, by omega, rfl⟩
set_option maxRecDepth 20000 in
theorem c_X9_isOfKind_2 (e : qR) (l : Launch) (σ : qSt) (w x : Int) (hx : 0 ≤ x ∧ x < 4) (hw : 0 ≤ w ∧ w < 20) (hk : σ 105 w 5 = 2) : CM (ED e) l yX9_isOfKind cX9_isOfKind 4 (some .boolean) 2 [qr 105 w, qi x] σ (Ri fun z σ' => z = (if x = 2 ∨ x = 0 then 1 else 0) ∧ σ = σ') := by
  refine CM.mk tD_ok (by decide +kernel) (Nat.le_of_ble_eq_true rfl) (fun G C => ?_)
  show G σ 0 [some (qr 105 w), some (qi x), none, none] []
  refine r_aload_n C dX9_isOfKind_0 rfl ?_
  refine r_get_i (c := 20) 5 C dX9_isOfKind_1 fl_X9_28 rfl rfl rfl rfl (by omega) ?_
  refine r_v hk ?_
  refine r_istore_n C dX9_isOfKind_4 rfl rfl (by decide) ?_
  refine r_iconst C dX9_isOfKind_5 ?_
  refine r_istore_n C dX9_isOfKind_6 rfl rfl (by decide) ?_
  refine r_iload_n C dX9_isOfKind_7 rfl ?_
  refine r_iconst C dX9_isOfKind_8 ?_
  refine r_ic_ge 35 C dX9_isOfKind_9 (by decide) (by decide) (by decide) (fun h => absurd h (by decide)) (fun _ => ?_)
  refine r_iload_n C dX9_isOfKind_12 rfl ?_
  refine r_if_lt 35 C dX9_isOfKind_13 (by decide) (by decide) (fun h => absurd h (by decide)) (fun _ => ?_)
  refine r_iload_n C dX9_isOfKind_16 rfl ?_
  refine r_iload_n C dX9_isOfKind_17 rfl ?_
  refine r_ic_ne 23 C dX9_isOfKind_18 (by decide) (by omega) (by omega) (fun h18 => ?_) (fun h18 => ?_)
  · refine r_getst C dX9_isOfKind_23 ?_
    refine r_iload_n C dX9_isOfKind_26 rfl ?_
    refine r_uald (v := 0) C dX9_isOfKind_27 (by decide) (by decide) ?_
    refine r_istore_n C dX9_isOfKind_28 rfl rfl (by decide) ?_
    refine r_iinc C dX9_isOfKind_29 rfl rfl rfl (by decide) ?_
    refine r_goto 7 C dX9_isOfKind_32 (by decide) ?_
    refine r_iload_n C dX9_isOfKind_7 rfl ?_
    refine r_iconst C dX9_isOfKind_8 ?_
    refine r_ic_ge 35 C dX9_isOfKind_9 (by decide) (by decide) (by decide) (fun h => absurd h (by decide)) (fun _ => ?_)
    refine r_iload_n C dX9_isOfKind_12 rfl ?_
    refine r_if_lt 35 C dX9_isOfKind_13 (by decide) (by decide) (fun h => absurd h (by decide)) (fun _ => ?_)
    refine r_iload_n C dX9_isOfKind_16 rfl ?_
    refine r_iload_n C dX9_isOfKind_17 rfl ?_
    refine r_ic_ne 23 C dX9_isOfKind_18 (by decide) (by omega) (by omega) (fun h18 => ?_) (fun h18 => ?_)
    · refine r_getst C dX9_isOfKind_23 ?_
      refine r_iload_n C dX9_isOfKind_26 rfl ?_
      refine r_uald (v := -1) C dX9_isOfKind_27 (by decide) (by decide) ?_
      refine r_istore_n C dX9_isOfKind_28 rfl rfl (by decide) ?_
      refine r_iinc C dX9_isOfKind_29 rfl rfl rfl (by decide) ?_
      refine r_goto 7 C dX9_isOfKind_32 (by decide) ?_
      refine r_iload_n C dX9_isOfKind_7 rfl ?_
      refine r_iconst C dX9_isOfKind_8 ?_
      refine r_ic_ge 35 C dX9_isOfKind_9 (by decide) (by decide) (by decide) (fun h => absurd h (by decide)) (fun _ => ?_)
      refine r_iload_n C dX9_isOfKind_12 rfl ?_
      refine r_if_lt 35 C dX9_isOfKind_13 (by decide) (by decide) (fun _ => ?_) (fun h => absurd h (by decide))
      refine r_iconst C dX9_isOfKind_35 ?_
      refine r_zret C dX9_isOfKind_36 (by decide) ?_
      exact ⟨_, rfl, by omega, rfl⟩
    · refine r_iconst C dX9_isOfKind_21 ?_
      refine r_zret C dX9_isOfKind_22 (by decide) ?_
      exact ⟨_, rfl, by omega, rfl⟩
  · refine r_iconst C dX9_isOfKind_21 ?_
    refine r_zret C dX9_isOfKind_22 (by decide) ?_
    exact ⟨_, rfl, by omega, rfl⟩
set_option maxRecDepth 20000 in
theorem c_X9_isOfKind_3 (e : qR) (l : Launch) (σ : qSt) (w x : Int) (hx : 0 ≤ x ∧ x < 4) (hw : 0 ≤ w ∧ w < 20) (hk : σ 105 w 5 = 3) : CM (ED e) l yX9_isOfKind cX9_isOfKind 4 (some .boolean) 2 [qr 105 w, qi x] σ (Ri fun z σ' => z = (if x = 3 ∨ x = 1 ∨ x = 0 then 1 else 0) ∧ σ = σ') := by
  refine CM.mk tD_ok (by decide +kernel) (Nat.le_of_ble_eq_true rfl) (fun G C => ?_)
  show G σ 0 [some (qr 105 w), some (qi x), none, none] []
  refine r_aload_n C dX9_isOfKind_0 rfl ?_
  refine r_get_i (c := 20) 5 C dX9_isOfKind_1 fl_X9_28 rfl rfl rfl rfl (by omega) ?_
  refine r_v hk ?_
  refine r_istore_n C dX9_isOfKind_4 rfl rfl (by decide) ?_
  refine r_iconst C dX9_isOfKind_5 ?_
  refine r_istore_n C dX9_isOfKind_6 rfl rfl (by decide) ?_
  refine r_iload_n C dX9_isOfKind_7 rfl ?_
  refine r_iconst C dX9_isOfKind_8 ?_
  refine r_ic_ge 35 C dX9_isOfKind_9 (by decide) (by decide) (by decide) (fun h => absurd h (by decide)) (fun _ => ?_)
  refine r_iload_n C dX9_isOfKind_12 rfl ?_
  refine r_if_lt 35 C dX9_isOfKind_13 (by decide) (by decide) (fun h => absurd h (by decide)) (fun _ => ?_)
  refine r_iload_n C dX9_isOfKind_16 rfl ?_
  refine r_iload_n C dX9_isOfKind_17 rfl ?_
  refine r_ic_ne 23 C dX9_isOfKind_18 (by decide) (by omega) (by omega) (fun h18 => ?_) (fun h18 => ?_)
  · refine r_getst C dX9_isOfKind_23 ?_
    refine r_iload_n C dX9_isOfKind_26 rfl ?_
    refine r_uald (v := 1) C dX9_isOfKind_27 (by decide) (by decide) ?_
    refine r_istore_n C dX9_isOfKind_28 rfl rfl (by decide) ?_
    refine r_iinc C dX9_isOfKind_29 rfl rfl rfl (by decide) ?_
    refine r_goto 7 C dX9_isOfKind_32 (by decide) ?_
    refine r_iload_n C dX9_isOfKind_7 rfl ?_
    refine r_iconst C dX9_isOfKind_8 ?_
    refine r_ic_ge 35 C dX9_isOfKind_9 (by decide) (by decide) (by decide) (fun h => absurd h (by decide)) (fun _ => ?_)
    refine r_iload_n C dX9_isOfKind_12 rfl ?_
    refine r_if_lt 35 C dX9_isOfKind_13 (by decide) (by decide) (fun h => absurd h (by decide)) (fun _ => ?_)
    refine r_iload_n C dX9_isOfKind_16 rfl ?_
    refine r_iload_n C dX9_isOfKind_17 rfl ?_
    refine r_ic_ne 23 C dX9_isOfKind_18 (by decide) (by omega) (by omega) (fun h18 => ?_) (fun h18 => ?_)
    · refine r_getst C dX9_isOfKind_23 ?_
      refine r_iload_n C dX9_isOfKind_26 rfl ?_
      refine r_uald (v := 0) C dX9_isOfKind_27 (by decide) (by decide) ?_
      refine r_istore_n C dX9_isOfKind_28 rfl rfl (by decide) ?_
      refine r_iinc C dX9_isOfKind_29 rfl rfl rfl (by decide) ?_
      refine r_goto 7 C dX9_isOfKind_32 (by decide) ?_
      refine r_iload_n C dX9_isOfKind_7 rfl ?_
      refine r_iconst C dX9_isOfKind_8 ?_
      refine r_ic_ge 35 C dX9_isOfKind_9 (by decide) (by decide) (by decide) (fun h => absurd h (by decide)) (fun _ => ?_)
      refine r_iload_n C dX9_isOfKind_12 rfl ?_
      refine r_if_lt 35 C dX9_isOfKind_13 (by decide) (by decide) (fun h => absurd h (by decide)) (fun _ => ?_)
      refine r_iload_n C dX9_isOfKind_16 rfl ?_
      refine r_iload_n C dX9_isOfKind_17 rfl ?_
      refine r_ic_ne 23 C dX9_isOfKind_18 (by decide) (by omega) (by omega) (fun h18 => ?_) (fun h18 => ?_)
      · refine r_getst C dX9_isOfKind_23 ?_
        refine r_iload_n C dX9_isOfKind_26 rfl ?_
        refine r_uald (v := -1) C dX9_isOfKind_27 (by decide) (by decide) ?_
        refine r_istore_n C dX9_isOfKind_28 rfl rfl (by decide) ?_
        refine r_iinc C dX9_isOfKind_29 rfl rfl rfl (by decide) ?_
        refine r_goto 7 C dX9_isOfKind_32 (by decide) ?_
        refine r_iload_n C dX9_isOfKind_7 rfl ?_
        refine r_iconst C dX9_isOfKind_8 ?_
        refine r_ic_ge 35 C dX9_isOfKind_9 (by decide) (by decide) (by decide) (fun h => absurd h (by decide)) (fun _ => ?_)
        refine r_iload_n C dX9_isOfKind_12 rfl ?_
        refine r_if_lt 35 C dX9_isOfKind_13 (by decide) (by decide) (fun _ => ?_) (fun h => absurd h (by decide))
        refine r_iconst C dX9_isOfKind_35 ?_
        refine r_zret C dX9_isOfKind_36 (by decide) ?_
        exact ⟨_, rfl, by omega, rfl⟩
      · refine r_iconst C dX9_isOfKind_21 ?_
        refine r_zret C dX9_isOfKind_22 (by decide) ?_
        exact ⟨_, rfl, by omega, rfl⟩
    · refine r_iconst C dX9_isOfKind_21 ?_
      refine r_zret C dX9_isOfKind_22 (by decide) ?_
      exact ⟨_, rfl, by omega, rfl⟩
  · refine r_iconst C dX9_isOfKind_21 ?_
    refine r_zret C dX9_isOfKind_22 (by decide) ?_
    exact ⟨_, rfl, by omega, rfl⟩
def isK (kind x : Int) : Prop := x = 0 ∨ kind = x ∨ (x = 1 ∧ kind = 3)
theorem c_X9_isOfKind (e : qR) (l : Launch) (σ : qSt) (w x : Int) (hx : 0 ≤ x ∧ x < 4) (hw : 0 ≤ w ∧ w < 20) (hk : 0 ≤ σ 105 w 5 ∧ σ 105 w 5 < 4) : CM (ED e) l yX9_isOfKind cX9_isOfKind 4 (some .boolean) 2 [qr 105 w, qi x] σ (Ri fun z σ' => z = (if x = 0 ∨ σ 105 w 5 = x ∨ (x = 1 ∧ σ 105 w 5 = 3) then 1 else 0) ∧ σ = σ') := by
  rcases (by omega : σ 105 w 5 = 0 ∨ σ 105 w 5 = 1 ∨ σ 105 w 5 = 2 ∨ σ 105 w 5 = 3) with h | h | h | h
  · exact (c_X9_isOfKind_0 e l σ w x hx hw h).weaken (fun r σ' q => by obtain ⟨z, rfl, hz, h2⟩ := q; exact ⟨z, rfl, by rw [hz]; omega, h2⟩)
  · exact (c_X9_isOfKind_1 e l σ w x hx hw h).weaken (fun r σ' q => by obtain ⟨z, rfl, hz, h2⟩ := q; exact ⟨z, rfl, by rw [hz]; omega, h2⟩)
  · exact (c_X9_isOfKind_2 e l σ w x hx hw h).weaken (fun r σ' q => by obtain ⟨z, rfl, hz, h2⟩ := q; exact ⟨z, rfl, by rw [hz]; omega, h2⟩)
  · exact (c_X9_isOfKind_3 e l σ w x hx hw h).weaken (fun r σ' q => by obtain ⟨z, rfl, hz, h2⟩ := q; exact ⟨z, rfl, by rw [hz]; omega, h2⟩)
set_option maxRecDepth 20000 in
theorem c_X5_begin (e : qR) (l : Launch) (σ : qSt) (i pa : Int) (hi : 0 ≤ i ∧ i < 12) : CM (ED e) l yX5_begin cX5_begin 2 none 2 [qr 81 i, qi pa] σ (Rv fun σ' => σ' = qUp (qUp σ 81 i 1 pa) 81 i 2 0) := by
  refine CM.mk tD_ok (by decide +kernel) (Nat.le_of_ble_eq_true rfl) (fun G C => ?_)
  show G σ 0 [some (qr 81 i), some (qi pa)] []
  refine r_aload_n C dX5_begin_0 rfl ?_
  refine r_iload_n C dX5_begin_1 rfl ?_
  refine r_put_i (c := 12) 1 C dX5_begin_2 fw_X5_15 rfl rfl rfl rfl (by omega) rfl rfl ?_
  refine r_aload_n C dX5_begin_5 rfl ?_
  refine r_iconst C dX5_begin_6 ?_
  refine r_put_i (c := 12) 2 C dX5_begin_7 fw_X5_19 rfl rfl rfl rfl (by omega) rfl rfl ?_
  refine r_vret C dX5_begin_10 ?_
  exact ⟨rfl, rfl⟩
set_option maxRecDepth 20000 in
theorem c_X5_takeFrames_n (e : qR) (l : Launch) (σ : qSt) (i n : Int) (hi : 0 ≤ i ∧ i < 12) (hn : 0 ≤ n ∧ n ≤ 24) : CM (ED e) l yX5_takeFrames cX5_takeFrames 3 none 2 [qr 81 i, qr 80 0, qi n] σ (Rv fun σ' => σ' = qUp (qCpy σ 80 0 0 82 i 0 n) 81 i 2 n) := by
  refine CM.mk tD_ok (by decide +kernel) (Nat.le_of_ble_eq_true rfl) (fun G C => ?_)
  show G σ 0 [some (qr 81 i), some (qr 80 0), some (qi n)] []
  refine r_aload_n C dX5_takeFrames_0 rfl ?_
  refine r_iconst C dX5_takeFrames_1 ?_
  refine r_aload_n C dX5_takeFrames_2 rfl ?_
  refine r_get_r (c := 12) C dX5_takeFrames_3 fl_X5_9 rfl rfl rfl (by omega) rfl ?_
  refine r_iconst C dX5_takeFrames_6 ?_
  refine r_iload_n C dX5_takeFrames_7 rfl ?_
  refine r_acopy (c1 := 1) (N1 := 24) (c2 := 12) (N2 := 24) C dX5_takeFrames_8 ac_X5_22 rfl rfl (by omega) rfl rfl (by omega) (by omega) (by omega) (by omega) (by omega) (by omega) (by decide) (Nat.le_of_ble_eq_true rfl) ?_ (hnat := ac_nat) (hst := ac_st) (hini := ac_ini)
  refine r_aload_n C dX5_takeFrames_11 rfl ?_
  refine r_iload_n C dX5_takeFrames_12 rfl ?_
  refine r_put_i (c := 12) 2 C dX5_takeFrames_13 fw_X5_19 rfl rfl rfl rfl (by omega) rfl rfl ?_
  refine r_vret C dX5_takeFrames_16 ?_
  exact ⟨rfl, rfl⟩
set_option maxRecDepth 20000 in
theorem c_X5_takeFrames_a (e : qR) (l : Launch) (σ : qSt) (i a n : Int) (hi : 0 ≤ i ∧ i < 12) (ha : 0 ≤ a ∧ a < 20) (hn : 0 ≤ n ∧ n ≤ 24) : CM (ED e) l yX5_takeFrames cX5_takeFrames 3 none 2 [qr 81 i, qr 41 a, qi n] σ (Rv fun σ' => σ' = qUp (qCpy σ 41 a 0 82 i 0 n) 81 i 2 n) := by
  refine CM.mk tD_ok (by decide +kernel) (Nat.le_of_ble_eq_true rfl) (fun G C => ?_)
  show G σ 0 [some (qr 81 i), some (qr 41 a), some (qi n)] []
  refine r_aload_n C dX5_takeFrames_0 rfl ?_
  refine r_iconst C dX5_takeFrames_1 ?_
  refine r_aload_n C dX5_takeFrames_2 rfl ?_
  refine r_get_r (c := 12) C dX5_takeFrames_3 fl_X5_9 rfl rfl rfl (by omega) rfl ?_
  refine r_iconst C dX5_takeFrames_6 ?_
  refine r_iload_n C dX5_takeFrames_7 rfl ?_
  refine r_acopy (c1 := 20) (N1 := 24) (c2 := 12) (N2 := 24) C dX5_takeFrames_8 ac_X5_22 rfl rfl (by omega) rfl rfl (by omega) (by omega) (by omega) (by omega) (by omega) (by omega) (by decide) (Nat.le_of_ble_eq_true rfl) ?_ (hnat := ac_nat) (hst := ac_st) (hini := ac_ini)
  refine r_aload_n C dX5_takeFrames_11 rfl ?_
  refine r_iload_n C dX5_takeFrames_12 rfl ?_
  refine r_put_i (c := 12) 2 C dX5_takeFrames_13 fw_X5_19 rfl rfl rfl rfl (by omega) rfl rfl ?_
  refine r_vret C dX5_takeFrames_16 ?_
  exact ⟨rfl, rfl⟩
set_option maxRecDepth 20000 in
theorem c_X8_isMissing (e : qR) (l : Launch) (σ : qSt) (s : Int) (hb : Bd σ) (hs : 0 ≤ s ∧ s < 4) : CM (ED e) l yX8_isMissing cX8_isMissing 1 (some .boolean) 2 [qr 205 s] σ (Ri fun z σ' => z = (if σ 205 s 1 = 0 then 1 else 0) ∧ σ = σ') := by
  refine CM.mk tD_ok (by decide +kernel) (Nat.le_of_ble_eq_true rfl) (fun G C => ?_)
  show G σ 0 [some (qr 205 s)] []
  refine r_aload_n C dX8_isMissing_0 rfl ?_
  refine r_get_i (c := 4) 1 C dX8_isMissing_1 fl_X8_15 rfl rfl rfl rfl (by omega) ?_
  have b1 := hb 205 s 1 (by omega) (by omega)
  refine r_if_ne 11 C dX8_isMissing_4 (by decide) (by omega) (fun h4 => ?_) (fun h4 => ?_)
  · refine r_iconst C dX8_isMissing_11 ?_
    refine r_zret C dX8_isMissing_12 (by decide) ?_
    exact ⟨_, rfl, by omega, rfl⟩
  · refine r_iconst C dX8_isMissing_7 ?_
    refine r_goto 12 C dX8_isMissing_8 (by decide) ?_
    refine r_zret C dX8_isMissing_12 (by decide) ?_
    exact ⟨_, rfl, by omega, rfl⟩
set_option maxRecDepth 20000 in
theorem c_X8_hasStretch (e : qR) (l : Launch) (σ : qSt) (s f n : Int) (hb : Bd σ) (hs : 0 ≤ s ∧ s < 4) (hf : InI f) (hn : InI n) : CM (ED e) l yX8_hasStretch cX8_hasStretch 3 (some .boolean) 2 [qr 205 s, qi f, qi n] σ (Ri fun z σ' => z = (if 0 ≤ f ∧ 0 ≤ n ∧ n ≤ σ 205 s 2 ∧ f ≤ σ 205 s 2 - n then 1 else 0) ∧ σ = σ') := by
  refine CM.mk tD_ok (by decide +kernel) (Nat.le_of_ble_eq_true rfl) (fun G C => ?_)
  show G σ 0 [some (qr 205 s), some (qi f), some (qi n)] []
  refine r_iload_n C dX8_hasStretch_0 rfl ?_
  refine r_if_lt 30 C dX8_hasStretch_1 (by decide) (by omega) (fun h1 => ?_) (fun h1 => ?_)
  · refine r_iconst C dX8_hasStretch_30 ?_
    refine r_zret C dX8_hasStretch_31 (by decide) ?_
    exact ⟨_, rfl, by omega, rfl⟩
  · refine r_iload_n C dX8_hasStretch_4 rfl ?_
    refine r_if_lt 30 C dX8_hasStretch_5 (by decide) (by omega) (fun h5 => ?_) (fun h5 => ?_)
    · refine r_iconst C dX8_hasStretch_30 ?_
      refine r_zret C dX8_hasStretch_31 (by decide) ?_
      exact ⟨_, rfl, by omega, rfl⟩
    · refine r_iload_n C dX8_hasStretch_8 rfl ?_
      refine r_aload_n C dX8_hasStretch_9 rfl ?_
      refine r_get_i (c := 4) 2 C dX8_hasStretch_10 fl_X8_19 rfl rfl rfl rfl (by omega) ?_
      have b10 := hb 205 s 2 (by omega) (by omega)
      refine r_ic_gt 30 C dX8_hasStretch_13 (by decide) (by omega) (by omega) (fun h13 => ?_) (fun h13 => ?_)
      · refine r_iconst C dX8_hasStretch_30 ?_
        refine r_zret C dX8_hasStretch_31 (by decide) ?_
        exact ⟨_, rfl, by omega, rfl⟩
      · refine r_iload_n C dX8_hasStretch_16 rfl ?_
        refine r_aload_n C dX8_hasStretch_17 rfl ?_
        refine r_get_i (c := 4) 2 C dX8_hasStretch_18 fl_X8_19 rfl rfl rfl rfl (by omega) ?_
        have b18 := hb 205 s 2 (by omega) (by omega)
        refine r_iload_n C dX8_hasStretch_21 rfl ?_
        refine r_isub C dX8_hasStretch_22 ?_
        refine r_ic_gt 30 C dX8_hasStretch_23 (by decide) (by omega) (by omega) (fun h23 => ?_) (fun h23 => ?_)
        · refine r_iconst C dX8_hasStretch_30 ?_
          refine r_zret C dX8_hasStretch_31 (by decide) ?_
          exact ⟨_, rfl, by omega, rfl⟩
        · refine r_iconst C dX8_hasStretch_26 ?_
          refine r_goto 31 C dX8_hasStretch_27 (by decide) ?_
          refine r_zret C dX8_hasStretch_31 (by decide) ?_
          exact ⟨_, rfl, by omega, rfl⟩
set_option maxRecDepth 20000 in
theorem lp_X8_begin {G : qSt → Nat → List (Option qV) → List qV → Prop} {Ret : Option qV → qSt → Prop} (e : qR) (l : Launch) (σ : qSt) (s bi nn : Int) (hs : 0 ≤ s ∧ s < 4) (C : Cx (ED e) l RX8 cX8_begin 4 none 2 Ret G) (hR : Ret none (qFil σ 206 s 0 30 0)) : ∀ (k : Nat) (m : Nat), (m : Int) + k = 30 → G (qFil σ 206 s 0 (m : Int) 0) 20 [some (qr 205 s), some (qi bi), some (qi nn), some (qi (m : Int))] [] := by
  intro k
  induction k with
  | zero =>
    intro m hm
    refine r_iload_n C dX8_begin_20 rfl ?_
    refine r_bipush C dX8_begin_21 ?_
    refine r_ic_ge 39 C dX8_begin_23 (by decide) (by omega) (by omega) (fun h23 => ?_) (fun h23 => ?_)
    · refine r_vret C dX8_begin_39 ?_
      rw [show (m : Int) = 30 by omega]
      exact hR
    · exfalso; omega
  | succ k ih =>
    intro m hm
    refine r_iload_n C dX8_begin_20 rfl ?_
    refine r_bipush C dX8_begin_21 ?_
    refine r_ic_ge 39 C dX8_begin_23 (by decide) (by omega) (by omega) (fun h23 => ?_) (fun h23 => ?_)
    · exfalso; omega
    · refine r_aload_n C dX8_begin_26 rfl ?_
      refine r_get_r (c := 4) C dX8_begin_27 fl_X8_9 rfl rfl rfl (by omega) rfl ?_
      refine r_iload_n C dX8_begin_30 rfl ?_
      refine r_iconst C dX8_begin_31 ?_
      refine r_iast (c := 4) (N := 30) C dX8_begin_32 rfl rfl (by omega) (by omega) ?_
      refine r_iinc C dX8_begin_33 rfl rfl rfl (by decide) ?_
      refine r_goto 20 C dX8_begin_36 (by decide) ?_
      rw [qFil_s σ 206 s 0 (m : Int) 0 (by omega)]
      exact ih (m + 1) (by omega)
set_option maxRecDepth 20000 in
theorem c_X8_begin (e : qR) (l : Launch) (σ : qSt) (s bi nn : Int) (hs : 0 ≤ s ∧ s < 4) (hbi : InI bi) : CM (ED e) l yX8_begin cX8_begin 4 none 2 [qr 205 s, qi bi, qi nn] σ (Rv fun σ' => σ' = qFil (qUp (qUp σ 205 s 1 bi) 205 s 2 (if bi = 0 then 0 else nn)) 206 s 0 30 0) := by
  refine CM.mk tD_ok (by decide +kernel) (Nat.le_of_ble_eq_true rfl) (fun G C => ?_)
  show G σ 0 [some (qr 205 s), some (qi bi), some (qi nn), none] []
  refine r_aload_n C dX8_begin_0 rfl ?_
  refine r_iload_n C dX8_begin_1 rfl ?_
  refine r_put_i (c := 4) 1 C dX8_begin_2 fw_X8_15 rfl rfl rfl rfl (by omega) rfl rfl ?_
  refine r_aload_n C dX8_begin_5 rfl ?_
  refine r_iload_n C dX8_begin_6 rfl ?_
  refine r_if_ne 14 C dX8_begin_7 (by decide) (by omega) (fun h7 => ?_) (fun h7 => ?_)
  · refine r_iload_n C dX8_begin_14 rfl ?_
    refine r_put_i (c := 4) 2 C dX8_begin_15 fw_X8_19 rfl rfl rfl rfl (by omega) rfl rfl ?_
    refine r_iconst C dX8_begin_18 ?_
    refine r_istore_n C dX8_begin_19 rfl rfl (by decide) ?_
    have key := lp_X8_begin e l (qUp (qUp σ 205 s 1 bi) 205 s 2 (if bi = 0 then 0 else nn)) s bi nn hs C ⟨rfl, rfl⟩ 30 0 (by omega)
    rw [show ((0 : Nat) : Int) = 0 from rfl, qFil_0] at key
    first | (rw [if_pos (by omega)] at key; exact key) | (rw [if_neg (by omega)] at key; exact key)
  · refine r_iconst C dX8_begin_10 ?_
    refine r_goto 15 C dX8_begin_11 (by decide) ?_
    refine r_put_i (c := 4) 2 C dX8_begin_15 fw_X8_19 rfl rfl rfl rfl (by omega) rfl rfl ?_
    refine r_iconst C dX8_begin_18 ?_
    refine r_istore_n C dX8_begin_19 rfl rfl (by decide) ?_
    have key := lp_X8_begin e l (qUp (qUp σ 205 s 1 bi) 205 s 2 (if bi = 0 then 0 else nn)) s bi nn hs C ⟨rfl, rfl⟩ 30 0 (by omega)
    rw [show ((0 : Nat) : Int) = 0 from rfl, qFil_0] at key
    first | (rw [if_pos (by omega)] at key; exact key) | (rw [if_neg (by omega)] at key; exact key)
set_option maxRecDepth 20000 in
theorem c_X8_write_32 (e : qR) (l : Launch) (σ : qSt) (s i v : Int) (hs : 0 ≤ s ∧ s < 4) (hi : 0 ≤ i ∧ i < 30) (hbt : σ 205 s 1 = 32) : CM (ED e) l yX8_write cX8_write 3 none 2 [qr 205 s, qi i, qi v] σ (Rv fun σ' => ∃ x, x % 4 = v % 4 ∧ σ' = qUp σ 206 s i x) := by
  refine CM.mk tD_ok (by decide +kernel) (Nat.le_of_ble_eq_true rfl) (fun G C => ?_)
  show G σ 0 [some (qr 205 s), some (qi i), some (qi v)] []
  refine r_aload_n C dX8_write_0 rfl ?_
  refine r_get_r (c := 4) C dX8_write_1 fl_X8_9 rfl rfl rfl (by omega) rfl ?_
  refine r_iload_n C dX8_write_4 rfl ?_
  refine r_aload_n C dX8_write_5 rfl ?_
  refine r_get_i (c := 4) 1 C dX8_write_6 fl_X8_15 rfl rfl rfl rfl (by omega) ?_
  refine r_v hbt ?_
  refine r_bipush C dX8_write_9 ?_
  refine r_ic_ne 18 C dX8_write_11 (by decide) (by decide) (by decide) (fun h => absurd h (by decide)) (fun _ => ?_)
  refine r_iload_n C dX8_write_14 rfl ?_
  refine r_goto 28 C dX8_write_15 (by decide) ?_
  refine r_iast (c := 4) (N := 30) C dX8_write_28 rfl rfl (by omega) (by omega) ?_
  refine r_vret C dX8_write_29 ?_
  exact ⟨rfl, _, by omega, rfl⟩
set_option maxRecDepth 20000 in
theorem c_X8_write_16 (e : qR) (l : Launch) (σ : qSt) (s i v : Int) (hs : 0 ≤ s ∧ s < 4) (hi : 0 ≤ i ∧ i < 30) (hbt : σ 205 s 1 = 16) : CM (ED e) l yX8_write cX8_write 3 none 2 [qr 205 s, qi i, qi v] σ (Rv fun σ' => ∃ x, x % 4 = v % 4 ∧ σ' = qUp σ 206 s i x) := by
  refine CM.mk tD_ok (by decide +kernel) (Nat.le_of_ble_eq_true rfl) (fun G C => ?_)
  show G σ 0 [some (qr 205 s), some (qi i), some (qi v)] []
  refine r_aload_n C dX8_write_0 rfl ?_
  refine r_get_r (c := 4) C dX8_write_1 fl_X8_9 rfl rfl rfl (by omega) rfl ?_
  refine r_iload_n C dX8_write_4 rfl ?_
  refine r_aload_n C dX8_write_5 rfl ?_
  refine r_get_i (c := 4) 1 C dX8_write_6 fl_X8_15 rfl rfl rfl rfl (by omega) ?_
  refine r_v hbt ?_
  refine r_bipush C dX8_write_9 ?_
  refine r_ic_ne 18 C dX8_write_11 (by decide) (by decide) (by decide) (fun _ => ?_) (fun h => absurd h (by decide))
  refine r_iload_n C dX8_write_18 rfl ?_
  refine r_iconst C dX8_write_19 ?_
  refine r_aload_n C dX8_write_20 rfl ?_
  refine r_get_i (c := 4) 1 C dX8_write_21 fl_X8_15 rfl rfl rfl rfl (by omega) ?_
  refine r_v hbt ?_
  refine r_ishl 65536 C dX8_write_24 (by decide) ?_
  refine r_iconst C dX8_write_25 ?_
  refine r_isub C dX8_write_26 ?_
  refine r_iand (v % 65536) C dX8_write_27 (z_mask v 16 65536 rfl (by decide) (by decide)) ?_
  refine r_iast (c := 4) (N := 30) C dX8_write_28 rfl rfl (by omega) (by omega) ?_
  refine r_vret C dX8_write_29 ?_
  exact ⟨rfl, _, by omega, rfl⟩
set_option maxRecDepth 20000 in
theorem c_X8_write_8 (e : qR) (l : Launch) (σ : qSt) (s i v : Int) (hs : 0 ≤ s ∧ s < 4) (hi : 0 ≤ i ∧ i < 30) (hbt : σ 205 s 1 = 8) : CM (ED e) l yX8_write cX8_write 3 none 2 [qr 205 s, qi i, qi v] σ (Rv fun σ' => ∃ x, x % 4 = v % 4 ∧ σ' = qUp σ 206 s i x) := by
  refine CM.mk tD_ok (by decide +kernel) (Nat.le_of_ble_eq_true rfl) (fun G C => ?_)
  show G σ 0 [some (qr 205 s), some (qi i), some (qi v)] []
  refine r_aload_n C dX8_write_0 rfl ?_
  refine r_get_r (c := 4) C dX8_write_1 fl_X8_9 rfl rfl rfl (by omega) rfl ?_
  refine r_iload_n C dX8_write_4 rfl ?_
  refine r_aload_n C dX8_write_5 rfl ?_
  refine r_get_i (c := 4) 1 C dX8_write_6 fl_X8_15 rfl rfl rfl rfl (by omega) ?_
  refine r_v hbt ?_
  refine r_bipush C dX8_write_9 ?_
  refine r_ic_ne 18 C dX8_write_11 (by decide) (by decide) (by decide) (fun _ => ?_) (fun h => absurd h (by decide))
  refine r_iload_n C dX8_write_18 rfl ?_
  refine r_iconst C dX8_write_19 ?_
  refine r_aload_n C dX8_write_20 rfl ?_
  refine r_get_i (c := 4) 1 C dX8_write_21 fl_X8_15 rfl rfl rfl rfl (by omega) ?_
  refine r_v hbt ?_
  refine r_ishl 256 C dX8_write_24 (by decide) ?_
  refine r_iconst C dX8_write_25 ?_
  refine r_isub C dX8_write_26 ?_
  refine r_iand (v % 256) C dX8_write_27 (z_mask v 8 256 rfl (by decide) (by decide)) ?_
  refine r_iast (c := 4) (N := 30) C dX8_write_28 rfl rfl (by omega) (by omega) ?_
  refine r_vret C dX8_write_29 ?_
  exact ⟨rfl, _, by omega, rfl⟩
theorem c_X8_write (e : qR) (l : Launch) (σ : qSt) (s i v : Int) (hs : 0 ≤ s ∧ s < 4) (hi : 0 ≤ i ∧ i < 30) (hbt : σ 205 s 1 = 8 ∨ σ 205 s 1 = 16 ∨ σ 205 s 1 = 32) : CM (ED e) l yX8_write cX8_write 3 none 2 [qr 205 s, qi i, qi v] σ (Rv fun σ' => ∃ x, x % 4 = v % 4 ∧ σ' = qUp σ 206 s i x) := by
  rcases hbt with h | h | h
  · exact c_X8_write_8 e l σ s i v hs hi h
  · exact c_X8_write_16 e l σ s i v hs hi h
  · exact c_X8_write_32 e l σ s i v hs hi h
set_option maxRecDepth 20000 in
theorem c_X0_keepFrames (e : qR) (l : Launch) (σ : qSt) (a i : Int) (ha : 0 ≤ a ∧ a < 20) (hi : 0 ≤ i ∧ i < 12) (hf : 0 ≤ σ 81 i 2 ∧ σ 81 i 2 ≤ 24) : CM (ED e) l yX0_keepFrames cX0_keepFrames 2 none 2 [qr 40 a, qr 81 i] σ (Rv fun σ' => σ' = qUp (qCpy σ 82 i 0 41 a 0 (σ 81 i 2)) 40 a 1 (σ 81 i 2)) := by
  refine CM.mk tD_ok (by decide +kernel) (Nat.le_of_ble_eq_true rfl) (fun G C => ?_)
  show G σ 0 [some (qr 40 a), some (qr 81 i)] []
  refine r_aload_n C dX0_keepFrames_0 rfl ?_
  refine r_get_r (c := 12) C dX0_keepFrames_1 fl_X0_28 rfl rfl rfl (by omega) rfl ?_
  refine r_iconst C dX0_keepFrames_4 ?_
  refine r_aload_n C dX0_keepFrames_5 rfl ?_
  refine r_get_r (c := 20) C dX0_keepFrames_6 fl_X0_9 rfl rfl rfl (by omega) rfl ?_
  refine r_iconst C dX0_keepFrames_9 ?_
  refine r_aload_n C dX0_keepFrames_10 rfl ?_
  refine r_get_i (c := 12) 2 C dX0_keepFrames_11 fl_X0_33 rfl rfl rfl rfl (by omega) ?_
  refine r_acopy (c1 := 12) (N1 := 24) (c2 := 20) (N2 := 24) C dX0_keepFrames_14 ac_X0_36 rfl rfl (by omega) rfl rfl (by omega) (by omega) (by omega) (by omega) (by omega) (by omega) (by decide) (Nat.le_of_ble_eq_true rfl) ?_ (hnat := ac_nat) (hst := ac_st) (hini := ac_ini)
  refine r_aload_n C dX0_keepFrames_17 rfl ?_
  refine r_aload_n C dX0_keepFrames_18 rfl ?_
  refine r_get_i (c := 12) 2 C dX0_keepFrames_19 fl_X0_33 rfl rfl rfl rfl (by omega) ?_
  refine r_v (b := (σ 81 i 2)) (by simp [qUp, qCpy]) ?_
  refine r_put_i (c := 20) 1 C dX0_keepFrames_22 fw_X0_15 rfl rfl rfl rfl (by omega) rfl rfl ?_
  refine r_vret C dX0_keepFrames_25 ?_
  exact ⟨rfl, rfl⟩
set_option maxRecDepth 20000 in
theorem c_X0_keepSyllable (e : qR) (l : Launch) (σ : qSt) (a w : Int) (ha : 0 ≤ a ∧ a < 20) (hw : 0 ≤ w ∧ w < 20) (hf : 0 ≤ σ 105 w 7 ∧ σ 105 w 7 < 8) : CM (ED e) l yX0_keepSyllable cX0_keepSyllable 3 none 2 [qr 40 a, qr 105 w] σ (Rv fun σ' => σ' = qUp (qUp (qUp (qUp σ 41 a 0 (σ 106 w (σ 105 w 7))) 41 a 1 (σ 107 w (σ 105 w 7))) 41 a 2 (σ 108 w (σ 105 w 7))) 41 a 3 (σ 109 w (σ 105 w 7))) := by
  refine CM.mk tD_ok (by decide +kernel) (Nat.le_of_ble_eq_true rfl) (fun G C => ?_)
  show G σ 0 [some (qr 40 a), some (qr 105 w), none] []
  refine r_aload_n C dX0_keepSyllable_0 rfl ?_
  refine r_get_i (c := 20) 7 C dX0_keepSyllable_1 fl_X0_42 rfl rfl rfl rfl (by omega) ?_
  refine r_istore_n C dX0_keepSyllable_4 rfl rfl (by decide) ?_
  refine r_aload_n C dX0_keepSyllable_5 rfl ?_
  refine r_get_r (c := 20) C dX0_keepSyllable_6 fl_X0_9 rfl rfl rfl (by omega) rfl ?_
  refine r_iconst C dX0_keepSyllable_9 ?_
  refine r_aload_n C dX0_keepSyllable_10 rfl ?_
  refine r_get_r (c := 20) C dX0_keepSyllable_11 fl_X0_47 rfl rfl rfl (by omega) rfl ?_
  refine r_iload_n C dX0_keepSyllable_14 rfl ?_
  refine r_iald (c := 20) (N := 8) C dX0_keepSyllable_15 rfl rfl (by omega) (by omega) ?_
  refine r_iast (c := 20) (N := 24) C dX0_keepSyllable_16 rfl rfl (by omega) (by omega) ?_
  refine r_aload_n C dX0_keepSyllable_17 rfl ?_
  refine r_get_r (c := 20) C dX0_keepSyllable_18 fl_X0_9 rfl rfl rfl (by omega) rfl ?_
  refine r_iconst C dX0_keepSyllable_21 ?_
  refine r_aload_n C dX0_keepSyllable_22 rfl ?_
  refine r_get_r (c := 20) C dX0_keepSyllable_23 fl_X0_48 rfl rfl rfl (by omega) rfl ?_
  refine r_iload_n C dX0_keepSyllable_26 rfl ?_
  refine r_iald (c := 20) (N := 8) C dX0_keepSyllable_27 rfl rfl (by omega) (by omega) ?_
  refine r_v (b := (σ 107 w (σ 105 w 7))) (by simp [qUp, qCpy]) ?_
  refine r_iast (c := 20) (N := 24) C dX0_keepSyllable_28 rfl rfl (by omega) (by omega) ?_
  refine r_aload_n C dX0_keepSyllable_29 rfl ?_
  refine r_get_r (c := 20) C dX0_keepSyllable_30 fl_X0_9 rfl rfl rfl (by omega) rfl ?_
  refine r_iconst C dX0_keepSyllable_33 ?_
  refine r_aload_n C dX0_keepSyllable_34 rfl ?_
  refine r_get_r (c := 20) C dX0_keepSyllable_35 fl_X0_51 rfl rfl rfl (by omega) rfl ?_
  refine r_iload_n C dX0_keepSyllable_38 rfl ?_
  refine r_iald (c := 20) (N := 8) C dX0_keepSyllable_39 rfl rfl (by omega) (by omega) ?_
  refine r_v (b := (σ 108 w (σ 105 w 7))) (by simp [qUp, qCpy]) ?_
  refine r_iast (c := 20) (N := 24) C dX0_keepSyllable_40 rfl rfl (by omega) (by omega) ?_
  refine r_aload_n C dX0_keepSyllable_41 rfl ?_
  refine r_get_r (c := 20) C dX0_keepSyllable_42 fl_X0_9 rfl rfl rfl (by omega) rfl ?_
  refine r_iconst C dX0_keepSyllable_45 ?_
  refine r_aload_n C dX0_keepSyllable_46 rfl ?_
  refine r_get_r (c := 20) C dX0_keepSyllable_47 fl_X0_54 rfl rfl rfl (by omega) rfl ?_
  refine r_iload_n C dX0_keepSyllable_50 rfl ?_
  refine r_iald (c := 20) (N := 8) C dX0_keepSyllable_51 rfl rfl (by omega) (by omega) ?_
  refine r_v (b := (σ 109 w (σ 105 w 7))) (by simp [qUp, qCpy]) ?_
  refine r_iast (c := 20) (N := 24) C dX0_keepSyllable_52 rfl rfl (by omega) (by omega) ?_
  refine r_vret C dX0_keepSyllable_53 ?_
  exact ⟨rfl, rfl⟩
set_option maxRecDepth 20000 in
theorem c_X0_giveSyllableBack (e : qR) (l : Launch) (σ : qSt) (a w : Int) (ha : 0 ≤ a ∧ a < 20) (hw : 0 ≤ w ∧ w < 20) (hf : 0 ≤ σ 105 w 7 ∧ σ 105 w 7 < 8) : CM (ED e) l yX0_giveSyllableBack cX0_giveSyllableBack 2 none 3 [qr 40 a, qr 105 w] σ (Rv fun σ' => σ' = qUp (qUp (qUp (qUp (qUp σ 106 w (σ 105 w 7) (σ 41 a 0)) 107 w (σ 105 w 7) (σ 41 a 1)) 108 w (σ 105 w 7) (σ 41 a 2)) 109 w (σ 105 w 7) (σ 41 a 3)) 105 w 7 (σ 105 w 7 + 1)) := by
  refine CM.mk tD_ok (by decide +kernel) (Nat.le_of_ble_eq_true rfl) (fun G C => ?_)
  show G σ 0 [some (qr 40 a), some (qr 105 w)] []
  refine r_aload_n C dX0_giveSyllableBack_0 rfl ?_
  refine r_aload_n C dX0_giveSyllableBack_1 rfl ?_
  refine r_get_r (c := 20) C dX0_giveSyllableBack_2 fl_X0_9 rfl rfl rfl (by omega) rfl ?_
  refine r_iconst C dX0_giveSyllableBack_5 ?_
  refine r_iald (c := 20) (N := 24) C dX0_giveSyllableBack_6 rfl rfl (by omega) (by omega) ?_
  refine r_aload_n C dX0_giveSyllableBack_7 rfl ?_
  refine r_get_r (c := 20) C dX0_giveSyllableBack_8 fl_X0_9 rfl rfl rfl (by omega) rfl ?_
  refine r_iconst C dX0_giveSyllableBack_11 ?_
  refine r_iald (c := 20) (N := 24) C dX0_giveSyllableBack_12 rfl rfl (by omega) (by omega) ?_
  refine r_aload_n C dX0_giveSyllableBack_13 rfl ?_
  refine r_get_r (c := 20) C dX0_giveSyllableBack_14 fl_X0_9 rfl rfl rfl (by omega) rfl ?_
  refine r_iconst C dX0_giveSyllableBack_17 ?_
  refine r_iald (c := 20) (N := 24) C dX0_giveSyllableBack_18 rfl rfl (by omega) (by omega) ?_
  refine r_aload_n C dX0_giveSyllableBack_19 rfl ?_
  refine r_get_r (c := 20) C dX0_giveSyllableBack_20 fl_X0_9 rfl rfl rfl (by omega) rfl ?_
  refine r_iconst C dX0_giveSyllableBack_23 ?_
  refine r_iald (c := 20) (N := 24) C dX0_giveSyllableBack_24 rfl rfl (by omega) (by omega) ?_
  refine r_cvv (c := 20) C dX0_giveSyllableBack_25 mv_X0_57 (c_X9_append e l _ _ _ _ _ _ hw hf) (by decide) rfl rfl rfl rfl (by omega) rfl rfl (Nat.le_of_ble_eq_true rfl) (fun σ25 h25 => ?_)
  subst h25
  refine r_vret C dX0_giveSyllableBack_28 ?_
  exact ⟨rfl, rfl⟩
def pApp (σ : qSt) (d wh wa : Int) : qSt := qUp (qUp (qUp (qUp (qUp σ 40 (σ 38 0 1) 2 d) 40 (σ 38 0 1) 3 wh) 40 (σ 38 0 1) 4 wa) 38 0 1 (if σ 38 0 1 + 1 < 20 then σ 38 0 1 + 1 else 0)) 38 0 2 (min (σ 38 0 2 + 1) 20)
set_option maxRecDepth 20000 in
theorem c_X3_append (e : qR) (l : Launch) (σ : qSt) (d wh wa : Int) (hn : 0 ≤ σ 38 0 1 ∧ σ 38 0 1 < 20) (hc : 0 ≤ σ 38 0 2 ∧ σ 38 0 2 ≤ 20) : CM (ED e) l yX3_append cX3_append 5 (some (.object "DubDesk$Act")) 2 [qr 38 0, qi d, qi wh, qi wa] σ (Rr fun k i σ' => k = 40 ∧ i = σ 38 0 1 ∧ σ' = pApp σ d wh wa) := by
  refine CM.mk tD_ok (by decide +kernel) (Nat.le_of_ble_eq_true rfl) (fun G C => ?_)
  show G σ 0 [some (qr 38 0), some (qi d), some (qi wh), some (qi wa), none] []
  refine r_aload_n C dX3_append_0 rfl ?_
  refine r_get_r (c := 1) C dX3_append_1 fl_X3_11 rfl rfl rfl (by decide) rfl ?_
  refine r_aload_n C dX3_append_4 rfl ?_
  refine r_get_i (c := 1) 1 C dX3_append_5 fl_X3_17 rfl rfl rfl rfl (by decide) ?_
  refine r_aald (c := 1) (N := 20) C dX3_append_8 rfl (by decide) rfl (by decide) (by omega) rfl ?_
  refine r_astore C dX3_append_9 rfl rfl (by decide) ?_
  refine r_aload C dX3_append_11 rfl ?_
  refine r_iload_n C dX3_append_13 rfl ?_
  refine r_put_i (c := 20) 2 C dX3_append_14 fw_X3_25 rfl rfl rfl rfl (by omega) rfl rfl ?_
  refine r_aload C dX3_append_17 rfl ?_
  refine r_iload_n C dX3_append_19 rfl ?_
  refine r_put_i (c := 20) 3 C dX3_append_20 fw_X3_28 rfl rfl rfl rfl (by omega) rfl rfl ?_
  refine r_aload C dX3_append_23 rfl ?_
  refine r_iload_n C dX3_append_25 rfl ?_
  refine r_put_i (c := 20) 4 C dX3_append_26 fw_X3_31 rfl rfl rfl rfl (by omega) rfl rfl ?_
  refine r_aload_n C dX3_append_29 rfl ?_
  refine r_aload_n C dX3_append_30 rfl ?_
  refine r_get_i (c := 1) 1 C dX3_append_31 fl_X3_17 rfl rfl rfl rfl (by decide) ?_
  refine r_v (b := (σ 38 0 1)) (by simp [qUp, qCpy]) ?_
  refine r_iconst C dX3_append_34 ?_
  refine r_iadd C dX3_append_35 ?_
  refine r_bipush C dX3_append_36 ?_
  refine r_ic_ge 50 C dX3_append_38 (by decide) (by omega) (by omega) (fun h38 => ?_) (fun h38 => ?_)
  · refine r_iconst C dX3_append_50 ?_
    refine r_put_i (c := 1) 1 C dX3_append_51 fw_X3_17 rfl rfl rfl rfl (by decide) rfl rfl ?_
    refine r_aload_n C dX3_append_54 rfl ?_
    refine r_aload_n C dX3_append_55 rfl ?_
    refine r_get_i (c := 1) 2 C dX3_append_56 fl_X3_21 rfl rfl rfl rfl (by decide) ?_
    refine r_v (b := (σ 38 0 2)) (by simp [qUp, qCpy]) ?_
    refine r_iconst C dX3_append_59 ?_
    refine r_iadd C dX3_append_60 ?_
    refine r_bipush C dX3_append_61 ?_
    refine r_csi C dX3_append_63 ms_X3_34 (c_min (ED e) tD_ok l _ _ _ (by omega) (by omega)) (by decide) rfl rfl (Nat.le_of_ble_eq_true rfl) (fun z63 σ63 h63 => ?_)
    obtain ⟨rfl, rfl⟩ := h63
    refine r_put_i (c := 1) 2 C dX3_append_66 fw_X3_21 rfl rfl rfl rfl (by decide) rfl rfl ?_
    refine r_aload C dX3_append_69 rfl ?_
    refine r_aret C dX3_append_71 ?_
    exact ⟨_, _, rfl, rfl, rfl, by simp only [pApp]; first | rw [if_pos (by omega)] | rw [if_neg (by omega)]⟩
  · refine r_aload_n C dX3_append_41 rfl ?_
    refine r_get_i (c := 1) 1 C dX3_append_42 fl_X3_17 rfl rfl rfl rfl (by decide) ?_
    refine r_v (b := (σ 38 0 1)) (by simp [qUp, qCpy]) ?_
    refine r_iconst C dX3_append_45 ?_
    refine r_iadd C dX3_append_46 ?_
    refine r_goto 51 C dX3_append_47 (by decide) ?_
    refine r_put_i (c := 1) 1 C dX3_append_51 fw_X3_17 rfl rfl rfl rfl (by decide) rfl rfl ?_
    refine r_aload_n C dX3_append_54 rfl ?_
    refine r_aload_n C dX3_append_55 rfl ?_
    refine r_get_i (c := 1) 2 C dX3_append_56 fl_X3_21 rfl rfl rfl rfl (by decide) ?_
    refine r_v (b := (σ 38 0 2)) (by simp [qUp, qCpy]) ?_
    refine r_iconst C dX3_append_59 ?_
    refine r_iadd C dX3_append_60 ?_
    refine r_bipush C dX3_append_61 ?_
    refine r_csi C dX3_append_63 ms_X3_34 (c_min (ED e) tD_ok l _ _ _ (by omega) (by omega)) (by decide) rfl rfl (Nat.le_of_ble_eq_true rfl) (fun z63 σ63 h63 => ?_)
    obtain ⟨rfl, rfl⟩ := h63
    refine r_put_i (c := 1) 2 C dX3_append_66 fw_X3_21 rfl rfl rfl rfl (by decide) rfl rfl ?_
    refine r_aload C dX3_append_69 rfl ?_
    refine r_aret C dX3_append_71 ?_
    exact ⟨_, _, rfl, rfl, rfl, by simp only [pApp]; first | rw [if_pos (by omega)] | rw [if_neg (by omega)]⟩
set_option maxRecDepth 20000 in
theorem c_X3_takeLatest (e : qR) (l : Launch) (σ : qSt) (hn : 0 ≤ σ 38 0 1 ∧ σ 38 0 1 < 20) (hc : 0 ≤ σ 38 0 2 ∧ σ 38 0 2 ≤ 20) (hc1 : 1 ≤ σ 38 0 2) : CM (ED e) l yX3_takeLatest cX3_takeLatest 1 (some (.object "DubDesk$Act")) 2 [qr 38 0] σ (Rr fun k i σ' => k = 40 ∧ i = (if 0 < σ 38 0 1 then σ 38 0 1 - 1 else 19) ∧ σ' = qUp (qUp σ 38 0 1 (if 0 < σ 38 0 1 then σ 38 0 1 - 1 else 19)) 38 0 2 (σ 38 0 2 - 1)) := by
  refine CM.mk tD_ok (by decide +kernel) (Nat.le_of_ble_eq_true rfl) (fun G C => ?_)
  show G σ 0 [some (qr 38 0)] []
  refine r_aload_n C dX3_takeLatest_0 rfl ?_
  refine r_aload_n C dX3_takeLatest_1 rfl ?_
  refine r_get_i (c := 1) 1 C dX3_takeLatest_2 fl_X3_17 rfl rfl rfl rfl (by decide) ?_
  refine r_if_le 17 C dX3_takeLatest_5 (by decide) (by omega) (fun h5 => ?_) (fun h5 => ?_)
  · refine r_bipush C dX3_takeLatest_17 ?_
    refine r_put_i (c := 1) 1 C dX3_takeLatest_19 fw_X3_17 rfl rfl rfl rfl (by decide) rfl rfl ?_
    refine r_aload_n C dX3_takeLatest_22 rfl ?_
    refine r_dup C dX3_takeLatest_23 ?_
    refine r_get_i (c := 1) 2 C dX3_takeLatest_24 fl_X3_21 rfl rfl rfl rfl (by decide) ?_
    refine r_v (b := (σ 38 0 2)) (by simp [qUp, qCpy]) ?_
    refine r_iconst C dX3_takeLatest_27 ?_
    refine r_isub C dX3_takeLatest_28 ?_
    refine r_put_i (c := 1) 2 C dX3_takeLatest_29 fw_X3_21 rfl rfl rfl rfl (by decide) rfl rfl ?_
    refine r_aload_n C dX3_takeLatest_32 rfl ?_
    refine r_get_r (c := 1) C dX3_takeLatest_33 fl_X3_11 rfl rfl rfl (by decide) rfl ?_
    refine r_aload_n C dX3_takeLatest_36 rfl ?_
    refine r_get_i (c := 1) 1 C dX3_takeLatest_37 fl_X3_17 rfl rfl rfl rfl (by decide) ?_
    refine r_v (b := 19) (by simp [qUp, qCpy]) ?_
    refine r_aald (c := 1) (N := 20) C dX3_takeLatest_40 rfl (by decide) rfl (by decide) (by omega) rfl ?_
    refine r_aret C dX3_takeLatest_41 ?_
    exact ⟨_, _, rfl, rfl, by first | rw [if_pos (by omega)] | rw [if_neg (by omega)], by first | rw [if_pos (by omega)] | rw [if_neg (by omega)]⟩
  · refine r_aload_n C dX3_takeLatest_8 rfl ?_
    refine r_get_i (c := 1) 1 C dX3_takeLatest_9 fl_X3_17 rfl rfl rfl rfl (by decide) ?_
    refine r_iconst C dX3_takeLatest_12 ?_
    refine r_isub C dX3_takeLatest_13 ?_
    refine r_goto 19 C dX3_takeLatest_14 (by decide) ?_
    refine r_put_i (c := 1) 1 C dX3_takeLatest_19 fw_X3_17 rfl rfl rfl rfl (by decide) rfl rfl ?_
    refine r_aload_n C dX3_takeLatest_22 rfl ?_
    refine r_dup C dX3_takeLatest_23 ?_
    refine r_get_i (c := 1) 2 C dX3_takeLatest_24 fl_X3_21 rfl rfl rfl rfl (by decide) ?_
    refine r_v (b := (σ 38 0 2)) (by simp [qUp, qCpy]) ?_
    refine r_iconst C dX3_takeLatest_27 ?_
    refine r_isub C dX3_takeLatest_28 ?_
    refine r_put_i (c := 1) 2 C dX3_takeLatest_29 fw_X3_21 rfl rfl rfl rfl (by decide) rfl rfl ?_
    refine r_aload_n C dX3_takeLatest_32 rfl ?_
    refine r_get_r (c := 1) C dX3_takeLatest_33 fl_X3_11 rfl rfl rfl (by decide) rfl ?_
    refine r_aload_n C dX3_takeLatest_36 rfl ?_
    refine r_get_i (c := 1) 1 C dX3_takeLatest_37 fl_X3_17 rfl rfl rfl rfl (by decide) ?_
    refine r_v (b := ((σ 38 0 1) - 1)) (by simp [qUp, qCpy]) ?_
    refine r_aald (c := 1) (N := 20) C dX3_takeLatest_40 rfl (by decide) rfl (by decide) (by omega) rfl ?_
    refine r_aret C dX3_takeLatest_41 ?_
    exact ⟨_, _, rfl, rfl, by first | rw [if_pos (by omega)] | rw [if_neg (by omega)], by first | rw [if_pos (by omega)] | rw [if_neg (by omega)]⟩
def pRem (σ : qSt) (d wh wa : Int) : qSt := pApp (qUp σ 15 0 9 0) d wh wa
set_option maxRecDepth 20000 in
theorem c_X10_remember (e : qR) (l : Launch) (σ : qSt) (d wh wa : Int) (hn : 0 ≤ σ 38 0 1 ∧ σ 38 0 1 < 20) (hc : 0 ≤ σ 38 0 2 ∧ σ 38 0 2 ≤ 20) : CM (ED e) l yX10_remember cX10_remember 4 (some (.object "DubDesk$Act")) 3 [qr 0 0, qi d, qi wh, qi wa] σ (Rr fun k i σ' => k = 40 ∧ i = σ 38 0 1 ∧ σ' = pRem σ d wh wa) := by
  refine CM.mk tD_ok (by decide +kernel) (Nat.le_of_ble_eq_true rfl) (fun G C => ?_)
  show G σ 0 [some (qr 0 0), some (qi d), some (qi wh), some (qi wa)] []
  refine r_aload_n C dX10_remember_0 rfl ?_
  refine r_get_r (c := 1) C dX10_remember_1 fl_X10_44 rfl rfl rfl (by decide) rfl ?_
  refine r_iconst C dX10_remember_4 ?_
  refine r_put_i (c := 1) 9 C dX10_remember_5 fw_X10_279 rfl rfl rfl rfl (by decide) rfl rfl ?_
  refine r_aload_n C dX10_remember_8 rfl ?_
  refine r_get_r (c := 1) C dX10_remember_9 fl_X10_65 rfl rfl rfl (by decide) rfl ?_
  refine r_iload_n C dX10_remember_12 rfl ?_
  refine r_iload_n C dX10_remember_13 rfl ?_
  refine r_iload_n C dX10_remember_14 rfl ?_
  refine r_cvr (c := 1) C dX10_remember_15 mv_X10_293 (c_X3_append e l _ _ _ _ (by simpa [qUp] using hn) (by simpa [qUp] using hc)) (by decide) rfl rfl rfl rfl (by decide) rfl rfl (Nat.le_of_ble_eq_true rfl) (fun k15 i15 σ15 h15 => ?_)
  obtain ⟨rfl, rfl, rfl⟩ := h15
  refine r_aret C dX10_remember_18 ?_
  exact ⟨_, _, rfl, rfl, by simp [qUp], rfl⟩
set_option maxRecDepth 20000 in
theorem lp_X10_countWordings {G : qSt → Nat → List (Option qV) → List qV → Prop} {Ret : Option qV → qSt → Prop} (e : qR) (l : Launch) (σ : qSt) (x : Int) (hb : Bd σ) (hc : 0 ≤ σ 0 0 11 ∧ σ 0 0 11 ≤ 20) (hx : InI x) (C : Cx (ED e) l RX10 cX10_countWordings 4 (some .int) 2 Ret G) (hR : ∀ z, z = cntE (fun w => σ 105 w 4) x (σ 0 0 11).toNat → Ret (some (qi z)) σ) : ∀ (k : Nat) (m : Nat) (c : Int), c = cntE (fun w => σ 105 w 4) x m → (m : Int) + k = σ 0 0 11 → G σ 4 [some (qr 0 0), some (qi x), some (qi c), some (qi (m : Int))] [] := by
  intro k
  induction k with
  | zero =>
    intro m c hf hm
    refine r_iload_n C dX10_countWordings_4 rfl ?_
    refine r_aload_n C dX10_countWordings_5 rfl ?_
    refine r_get_i (c := 1) 11 C dX10_countWordings_6 fl_X10_77 rfl rfl rfl rfl (by decide) ?_
    have b6 := hb 0 0 11 (by omega) (by omega)
    refine r_ic_ge 34 C dX10_countWordings_9 (by decide) (by omega) (by omega) (fun h9 => ?_) (fun h9 => ?_)
    · refine r_iload_n C dX10_countWordings_34 rfl ?_
      refine r_iret C dX10_countWordings_35 ?_
      exact hR _ (by rw [show (σ 0 0 11).toNat = m by omega, ← hf])
    · exfalso; omega
  | succ k ih =>
    intro m c hf hm
    refine r_iload_n C dX10_countWordings_4 rfl ?_
    refine r_aload_n C dX10_countWordings_5 rfl ?_
    refine r_get_i (c := 1) 11 C dX10_countWordings_6 fl_X10_77 rfl rfl rfl rfl (by decide) ?_
    have b6 := hb 0 0 11 (by omega) (by omega)
    refine r_ic_ge 34 C dX10_countWordings_9 (by decide) (by omega) (by omega) (fun h9 => ?_) (fun h9 => ?_)
    · exfalso; omega
    · refine r_aload_n C dX10_countWordings_12 rfl ?_
      refine r_get_r (c := 1) C dX10_countWordings_13 fl_X10_17 rfl rfl rfl (by decide) rfl ?_
      refine r_iload_n C dX10_countWordings_16 rfl ?_
      refine r_aald (c := 1) (N := 20) C dX10_countWordings_17 rfl (by decide) rfl (by decide) (by omega) rfl ?_
      refine r_get_i (c := 20) 4 C dX10_countWordings_18 fl_X10_142 rfl rfl rfl rfl (by omega) ?_
      have b18 := hb 105 (m : Int) 4 (by omega) (by omega)
      refine r_iload_n C dX10_countWordings_21 rfl ?_
      refine r_ic_ne 28 C dX10_countWordings_22 (by decide) (by omega) (by omega) (fun h22 => ?_) (fun h22 => ?_)
      · refine r_iinc C dX10_countWordings_28 rfl rfl rfl (by decide) ?_
        refine r_goto 4 C dX10_countWordings_31 (by decide) ?_
        exact ih (m + 1) _ (by simp only [cntE]; rw [← hf]; split <;> omega) (by omega)
      · refine r_iinc C dX10_countWordings_25 rfl rfl rfl (by decide) ?_
        refine r_iinc C dX10_countWordings_28 rfl rfl rfl (by decide) ?_
        refine r_goto 4 C dX10_countWordings_31 (by decide) ?_
        exact ih (m + 1) _ (by simp only [cntE]; rw [← hf]; split <;> omega) (by omega)
set_option maxRecDepth 20000 in
theorem c_X10_countWordings (e : qR) (l : Launch) (σ : qSt) (x : Int) (hb : Bd σ) (hc : 0 ≤ σ 0 0 11 ∧ σ 0 0 11 ≤ 20) (hx : InI x) : CM (ED e) l yX10_countWordings cX10_countWordings 4 (some .int) 2 [qr 0 0, qi x] σ (Ri fun z σ' => z = cntE (fun w => σ 105 w 4) x (σ 0 0 11).toNat ∧ σ = σ') := by
  refine CM.mk tD_ok (by decide +kernel) (Nat.le_of_ble_eq_true rfl) (fun G C => ?_)
  show G σ 0 [some (qr 0 0), some (qi x), none, none] []
  refine r_iconst C dX10_countWordings_0 ?_
  refine r_istore_n C dX10_countWordings_1 rfl rfl (by decide) ?_
  refine r_iconst C dX10_countWordings_2 ?_
  refine r_istore_n C dX10_countWordings_3 rfl rfl (by decide) ?_
  exact lp_X10_countWordings e l σ x hb hc hx C (fun z hz => ⟨_, rfl, hz, rfl⟩) (σ 0 0 11).toNat 0 _ rfl (by omega)
