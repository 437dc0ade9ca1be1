/-! constructors of the class that make rows alone -/
set_option maxRecDepth 20000 in
theorem n_X0 (e : qR) (l : Launch) (i : Nat) (hi : i < 20) : CK (ED e) l yX0_init cX0_init 1 1 1 24 s0D (40 + 2 * i) (.inr (0, gfs_0)) (40 + 2 * i + 2) := by
  refine CK.mk (k := 40) (i := i) tD_ok (by decide +kernel) rfl rfl (by show 40 + 2 * i = _; omega) (by decide) (fun G C => ?_)
  show G [.inr (0, gfs_0)] ((40 + 2 * i) + 1) 0 0 [some (qr 40 (i : Int))] []
  refine k_aload_n C dX0_init_0 rfl ?_
  refine k_oinit C dX0_init_1 oi_X0_3 oi_inst oi_code (qv_ref _ _ _) (by decide) ?_
  refine k_aload_n C dX0_init_4 rfl ?_
  refine k_bipush C dX0_init_5 ?_
  refine k_newa (k := 41) (i := (i : Int)) (L := 24) C dX0_init_7 ac_int rfl (by show 41 + 2 * i = _; omega) (by omega) (by decide) (Or.inr ⟨gF_a0 (E := ED e) (σ := s0D) tD_ok (k := 41) (i := i) (by show 41 + 2 * i = _; omega) hi rfl (fun _ => rfl), ?_⟩)
  refine k_putF (j0 := 0) C dX0_init_9 ff_X0_9 rfl (by show 40 + 2 * i = _; omega) rfl rfl rfl (Nat.le_of_ble_eq_true rfl) ?_
  refine k_aload_n C dX0_init_12 rfl ?_
  refine k_iconst C dX0_init_13 ?_
  refine k_putI (j0 := 0) C dX0_init_14 fw_X0_15 rfl (by show 40 + 2 * i = _; omega) rfl rfl rfl (Nat.le_of_ble_eq_true rfl) ?_
  refine k_aload_n C dX0_init_17 rfl ?_
  refine k_iconst C dX0_init_18 ?_
  refine k_putI (j0 := 0) C dX0_init_19 fw_X0_19 rfl (by show 40 + 2 * i = _; omega) rfl rfl rfl (Nat.le_of_ble_eq_true rfl) ?_
  refine k_aload_n C dX0_init_22 rfl ?_
  refine k_iconst C dX0_init_23 ?_
  refine k_putI (j0 := 0) C dX0_init_24 fw_X0_22 rfl (by show 40 + 2 * i = _; omega) rfl rfl rfl (Nat.le_of_ble_eq_true rfl) ?_
  refine k_aload_n C dX0_init_27 rfl ?_
  refine k_iconst C dX0_init_28 ?_
  refine k_putI (j0 := 0) C dX0_init_29 fw_X0_25 rfl (by show 40 + 2 * i = _; omega) rfl rfl rfl (Nat.le_of_ble_eq_true rfl) ?_
  refine k_vret C dX0_init_32 (by omega) (by omega) (by omega) (gEs_ok _ _ ?_)
  exact ⟨gE_eq (gF_ob (E := ED e) (σ := s0D) tD_ok (k := 40) (i := i) (by show 40 + 2 * i = _; omega) hi rfl).symm, trivial⟩
set_option maxRecDepth 20000 in
theorem n_X5 (e : qR) (l : Launch) (i : Nat) (hi : i < 12) : CK (ED e) l yX5_init cX5_init 1 1 1 24 s0D (81 + 2 * i) (.inr (5, gfs_5)) (81 + 2 * i + 2) := by
  refine CK.mk (k := 81) (i := i) tD_ok (by decide +kernel) rfl rfl (by show 81 + 2 * i = _; omega) (by decide) (fun G C => ?_)
  show G [.inr (5, gfs_5)] ((81 + 2 * i) + 1) 0 0 [some (qr 81 (i : Int))] []
  refine k_aload_n C dX5_init_0 rfl ?_
  refine k_oinit C dX5_init_1 oi_X5_3 oi_inst oi_code (qv_ref _ _ _) (by decide) ?_
  refine k_aload_n C dX5_init_4 rfl ?_
  refine k_bipush C dX5_init_5 ?_
  refine k_newa (k := 82) (i := (i : Int)) (L := 24) C dX5_init_7 ac_int rfl (by show 82 + 2 * i = _; omega) (by omega) (by decide) (Or.inr ⟨gF_a0 (E := ED e) (σ := s0D) tD_ok (k := 82) (i := i) (by show 82 + 2 * i = _; omega) hi rfl (fun _ => rfl), ?_⟩)
  refine k_putF (j0 := 0) C dX5_init_9 ff_X5_9 rfl (by show 81 + 2 * i = _; omega) rfl rfl rfl (Nat.le_of_ble_eq_true rfl) ?_
  refine k_aload_n C dX5_init_12 rfl ?_
  refine k_iconst C dX5_init_13 ?_
  refine k_putI (j0 := 0) C dX5_init_14 fw_X5_15 rfl (by show 81 + 2 * i = _; omega) rfl rfl rfl (Nat.le_of_ble_eq_true rfl) ?_
  refine k_aload_n C dX5_init_17 rfl ?_
  refine k_iconst C dX5_init_18 ?_
  refine k_putI (j0 := 0) C dX5_init_19 fw_X5_19 rfl (by show 81 + 2 * i = _; omega) rfl rfl rfl (Nat.le_of_ble_eq_true rfl) ?_
  refine k_vret C dX5_init_22 (by omega) (by omega) (by omega) (gEs_ok _ _ ?_)
  exact ⟨gE_eq (gF_ob (E := ED e) (σ := s0D) tD_ok (k := 81) (i := i) (by show 81 + 2 * i = _; omega) hi rfl).symm, trivial⟩
set_option maxRecDepth 20000 in
theorem n_X8 (e : qR) (l : Launch) (i : Nat) (hi : i < 4) : CK (ED e) l yX8_init cX8_init 1 1 1 30 s0D (205 + 2 * i) (.inr (8, gfs_8)) (205 + 2 * i + 2) := by
  refine CK.mk (k := 205) (i := i) tD_ok (by decide +kernel) rfl rfl (by show 205 + 2 * i = _; omega) (by decide) (fun G C => ?_)
  show G [.inr (8, gfs_8)] ((205 + 2 * i) + 1) 0 0 [some (qr 205 (i : Int))] []
  refine k_aload_n C dX8_init_0 rfl ?_
  refine k_oinit C dX8_init_1 oi_X8_3 oi_inst oi_code (qv_ref _ _ _) (by decide) ?_
  refine k_aload_n C dX8_init_4 rfl ?_
  refine k_bipush C dX8_init_5 ?_
  refine k_newa (k := 206) (i := (i : Int)) (L := 30) C dX8_init_7 ac_int rfl (by show 206 + 2 * i = _; omega) (by omega) (by decide) (Or.inr ⟨gF_a0 (E := ED e) (σ := s0D) tD_ok (k := 206) (i := i) (by show 206 + 2 * i = _; omega) hi rfl (fun _ => rfl), ?_⟩)
  refine k_putF (j0 := 0) C dX8_init_9 ff_X8_9 rfl (by show 205 + 2 * i = _; omega) rfl rfl rfl (Nat.le_of_ble_eq_true rfl) ?_
  refine k_aload_n C dX8_init_12 rfl ?_
  refine k_iconst C dX8_init_13 ?_
  refine k_putI (j0 := 0) C dX8_init_14 fw_X8_15 rfl (by show 205 + 2 * i = _; omega) rfl rfl rfl (Nat.le_of_ble_eq_true rfl) ?_
  refine k_aload_n C dX8_init_17 rfl ?_
  refine k_iconst C dX8_init_18 ?_
  refine k_putI (j0 := 0) C dX8_init_19 fw_X8_19 rfl (by show 205 + 2 * i = _; omega) rfl rfl rfl (Nat.le_of_ble_eq_true rfl) ?_
  refine k_vret C dX8_init_22 (by omega) (by omega) (by omega) (gEs_ok _ _ ?_)
  exact ⟨gE_eq (gF_ob (E := ED e) (σ := s0D) tD_ok (k := 205) (i := i) (by show 205 + 2 * i = _; omega) hi rfl).symm, trivial⟩
set_option maxRecDepth 20000 in
theorem n_X9 (e : qR) (l : Launch) (i : Nat) (hi : i < 20) : CK (ED e) l yX9_init cX9_init 1 1 4 32 s0D (105 + 5 * i) (.inr (9, gfs_9)) (105 + 5 * i + 5) := by
  refine CK.mk (k := 105) (i := i) tD_ok (by decide +kernel) rfl rfl (by show 105 + 5 * i = _; omega) (by decide) (fun G C => ?_)
  show G [.inr (9, gfs_9)] ((105 + 5 * i) + 1) 0 0 [some (qr 105 (i : Int))] []
  refine k_aload_n C dX9_init_0 rfl ?_
  refine k_oinit C dX9_init_1 oi_X9_3 oi_inst oi_code (qv_ref _ _ _) (by decide) ?_
  refine k_aload_n C dX9_init_4 rfl ?_
  refine k_bipush C dX9_init_5 ?_
  refine k_newa (k := 106) (i := (i : Int)) (L := 8) C dX9_init_7 ac_int rfl (by show 106 + 5 * i = _; omega) (by omega) (by decide) (Or.inr ⟨gF_a0 (E := ED e) (σ := s0D) tD_ok (k := 106) (i := i) (by show 106 + 5 * i = _; omega) hi rfl (fun _ => rfl), ?_⟩)
  refine k_putF (j0 := 0) C dX9_init_9 ff_X9_9 rfl (by show 105 + 5 * i = _; omega) rfl rfl rfl (Nat.le_of_ble_eq_true rfl) ?_
  refine k_aload_n C dX9_init_12 rfl ?_
  refine k_bipush C dX9_init_13 ?_
  refine k_newa (k := 107) (i := (i : Int)) (L := 8) C dX9_init_15 ac_int rfl (by show 107 + 5 * i = _; omega) (by omega) (by decide) (Or.inr ⟨gF_a0 (E := ED e) (σ := s0D) tD_ok (k := 107) (i := i) (by show 107 + 5 * i = _; omega) hi rfl (fun _ => rfl), ?_⟩)
  refine k_putF (j0 := 0) C dX9_init_17 ff_X9_15 rfl (by show 105 + 5 * i = _; omega) rfl rfl rfl (Nat.le_of_ble_eq_true rfl) ?_
  refine k_aload_n C dX9_init_20 rfl ?_
  refine k_bipush C dX9_init_21 ?_
  refine k_newa (k := 108) (i := (i : Int)) (L := 8) C dX9_init_23 ac_int rfl (by show 108 + 5 * i = _; omega) (by omega) (by decide) (Or.inr ⟨gF_a0 (E := ED e) (σ := s0D) tD_ok (k := 108) (i := i) (by show 108 + 5 * i = _; omega) hi rfl (fun _ => rfl), ?_⟩)
  refine k_putF (j0 := 0) C dX9_init_25 ff_X9_18 rfl (by show 105 + 5 * i = _; omega) rfl rfl rfl (Nat.le_of_ble_eq_true rfl) ?_
  refine k_aload_n C dX9_init_28 rfl ?_
  refine k_bipush C dX9_init_29 ?_
  refine k_newa (k := 109) (i := (i : Int)) (L := 8) C dX9_init_31 ac_int rfl (by show 109 + 5 * i = _; omega) (by omega) (by decide) (Or.inr ⟨gF_a0 (E := ED e) (σ := s0D) tD_ok (k := 109) (i := i) (by show 109 + 5 * i = _; omega) hi rfl (fun _ => rfl), ?_⟩)
  refine k_putF (j0 := 0) C dX9_init_33 ff_X9_21 rfl (by show 105 + 5 * i = _; omega) rfl rfl rfl (Nat.le_of_ble_eq_true rfl) ?_
  refine k_aload_n C dX9_init_36 rfl ?_
  refine k_iconst C dX9_init_37 ?_
  refine k_putI (j0 := 0) C dX9_init_38 fw_X9_24 rfl (by show 105 + 5 * i = _; omega) rfl rfl rfl (Nat.le_of_ble_eq_true rfl) ?_
  refine k_aload_n C dX9_init_41 rfl ?_
  refine k_iconst C dX9_init_42 ?_
  refine k_putI (j0 := 0) C dX9_init_43 fw_X9_28 rfl (by show 105 + 5 * i = _; omega) rfl rfl rfl (Nat.le_of_ble_eq_true rfl) ?_
  refine k_aload_n C dX9_init_46 rfl ?_
  refine k_iconst C dX9_init_47 ?_
  refine k_putI (j0 := 0) C dX9_init_48 fw_X9_31 rfl (by show 105 + 5 * i = _; omega) rfl rfl rfl (Nat.le_of_ble_eq_true rfl) ?_
  refine k_aload_n C dX9_init_51 rfl ?_
  refine k_iconst C dX9_init_52 ?_
  refine k_putI (j0 := 0) C dX9_init_53 fw_X9_34 rfl (by show 105 + 5 * i = _; omega) rfl rfl rfl (Nat.le_of_ble_eq_true rfl) ?_
  refine k_vret C dX9_init_56 (by omega) (by omega) (by omega) (gEs_ok _ _ ?_)
  exact ⟨gE_eq (gF_ob (E := ED e) (σ := s0D) tD_ok (k := 105) (i := i) (by show 105 + 5 * i = _; omega) hi rfl).symm, trivial⟩
set_option maxRecDepth 20000 in
theorem n_X6 (e : qR) (l : Launch) : CK (ED e) l yX6_init cX6_init 1 1 1 25 s0D 36 (.inr (6, gfs_6)) 38 := by
  refine CK.mk (k := 36) (i := 0) tD_ok (by decide +kernel) rfl rfl rfl (by decide) (fun G C => ?_)
  show G [.inr (6, gfs_6)] (36 + 1) 0 0 [some (qr 36 0)] []
  refine k_aload_n C dX6_init_0 rfl ?_
  refine k_oinit C dX6_init_1 oi_X6_3 oi_inst oi_code (qv_ref _ _ _) (by decide) ?_
  refine k_aload_n C dX6_init_4 rfl ?_
  refine k_bipush C dX6_init_5 ?_
  refine k_newa (k := 37) (i := 0) (L := 25) C dX6_init_7 ac_int rfl rfl (by omega) (by decide) (Or.inr ⟨gF_a0 (E := ED e) (σ := s0D) tD_ok (k := 37) (i := 0) rfl (Nat.le_of_ble_eq_true rfl) rfl (fun _ => rfl), ?_⟩)
  refine k_putF (j0 := 0) C dX6_init_9 ff_X6_9 rfl rfl rfl rfl rfl (Nat.le_of_ble_eq_true rfl) ?_
  refine k_vret C dX6_init_12 (by omega) (by omega) (by omega) (gEs_ok _ _ ?_)
  exact ⟨gE_eq (gF_ob (E := ED e) (σ := s0D) tD_ok (k := 36) (i := 0) rfl (Nat.le_of_ble_eq_true rfl) rfl).symm, trivial⟩
set_option maxRecDepth 20000 in
theorem n_X7 (e : qR) (l : Launch) : CK (ED e) l yX7_init cX7_init 1 1 7 43 s0D 15 (.inr (7, gfs_7)) 23 := by
  refine CK.mk (k := 15) (i := 0) tD_ok (by decide +kernel) rfl rfl rfl (by decide) (fun G C => ?_)
  show G [.inr (7, gfs_7)] (15 + 1) 0 0 [some (qr 15 0)] []
  refine k_aload_n C dX7_init_0 rfl ?_
  refine k_oinit C dX7_init_1 oi_X7_3 oi_inst oi_code (qv_ref _ _ _) (by decide) ?_
  refine k_aload_n C dX7_init_4 rfl ?_
  refine k_bipush C dX7_init_5 ?_
  refine k_newa (k := 16) (i := 0) (L := 7) C dX7_init_7 ac_int rfl rfl (by omega) (by decide) (Or.inr ⟨gF_a0 (E := ED e) (σ := s0D) tD_ok (k := 16) (i := 0) rfl (Nat.le_of_ble_eq_true rfl) rfl (fun _ => rfl), ?_⟩)
  refine k_putF (j0 := 0) C dX7_init_9 ff_X7_9 rfl rfl rfl rfl rfl (Nat.le_of_ble_eq_true rfl) ?_
  refine k_aload_n C dX7_init_12 rfl ?_
  refine k_bipush C dX7_init_13 ?_
  refine k_newa (k := 17) (i := 0) (L := 7) C dX7_init_15 ac_int rfl rfl (by omega) (by decide) (Or.inr ⟨gF_a0 (E := ED e) (σ := s0D) tD_ok (k := 17) (i := 0) rfl (Nat.le_of_ble_eq_true rfl) rfl (fun _ => rfl), ?_⟩)
  refine k_putF (j0 := 0) C dX7_init_17 ff_X7_15 rfl rfl rfl rfl rfl (Nat.le_of_ble_eq_true rfl) ?_
  refine k_aload_n C dX7_init_20 rfl ?_
  refine k_bipush C dX7_init_21 ?_
  refine k_newa (k := 18) (i := 0) (L := 7) C dX7_init_23 ac_int rfl rfl (by omega) (by decide) (Or.inr ⟨gF_a0 (E := ED e) (σ := s0D) tD_ok (k := 18) (i := 0) rfl (Nat.le_of_ble_eq_true rfl) rfl (fun _ => rfl), ?_⟩)
  refine k_putF (j0 := 0) C dX7_init_25 ff_X7_18 rfl rfl rfl rfl rfl (Nat.le_of_ble_eq_true rfl) ?_
  refine k_aload_n C dX7_init_28 rfl ?_
  refine k_bipush C dX7_init_29 ?_
  refine k_newa (k := 19) (i := 0) (L := 7) C dX7_init_31 ac_int rfl rfl (by omega) (by decide) (Or.inr ⟨gF_a0 (E := ED e) (σ := s0D) tD_ok (k := 19) (i := 0) rfl (Nat.le_of_ble_eq_true rfl) rfl (fun _ => rfl), ?_⟩)
  refine k_putF (j0 := 0) C dX7_init_33 ff_X7_21 rfl rfl rfl rfl rfl (Nat.le_of_ble_eq_true rfl) ?_
  refine k_aload_n C dX7_init_36 rfl ?_
  refine k_iconst C dX7_init_37 ?_
  refine k_newa (k := 20) (i := 0) (L := 4) C dX7_init_38 ac_int rfl rfl (by omega) (by decide) (Or.inr ⟨gF_a0 (E := ED e) (σ := s0D) tD_ok (k := 20) (i := 0) rfl (Nat.le_of_ble_eq_true rfl) rfl (fun _ => rfl), ?_⟩)
  refine k_putF (j0 := 0) C dX7_init_40 ff_X7_24 rfl rfl rfl rfl rfl (Nat.le_of_ble_eq_true rfl) ?_
  refine k_aload_n C dX7_init_43 rfl ?_
  refine k_iconst C dX7_init_44 ?_
  refine k_newa (k := 21) (i := 0) (L := 4) C dX7_init_45 ac_int rfl rfl (by omega) (by decide) (Or.inr ⟨gF_a0 (E := ED e) (σ := s0D) tD_ok (k := 21) (i := 0) rfl (Nat.le_of_ble_eq_true rfl) rfl (fun _ => rfl), ?_⟩)
  refine k_putF (j0 := 0) C dX7_init_47 ff_X7_27 rfl rfl rfl rfl rfl (Nat.le_of_ble_eq_true rfl) ?_
  refine k_aload_n C dX7_init_50 rfl ?_
  refine k_bipush C dX7_init_51 ?_
  refine k_newa (k := 22) (i := 0) (L := 7) C dX7_init_53 ac_int rfl rfl (by omega) (by decide) (Or.inr ⟨gF_a0 (E := ED e) (σ := s0D) tD_ok (k := 22) (i := 0) rfl (Nat.le_of_ble_eq_true rfl) rfl (fun _ => rfl), ?_⟩)
  refine k_putF (j0 := 0) C dX7_init_55 ff_X7_30 rfl rfl rfl rfl rfl (Nat.le_of_ble_eq_true rfl) ?_
  refine k_aload_n C dX7_init_58 rfl ?_
  refine k_iconst C dX7_init_59 ?_
  refine k_putI (j0 := 0) C dX7_init_60 fw_X7_33 rfl rfl rfl rfl rfl (Nat.le_of_ble_eq_true rfl) ?_
  refine k_aload_n C dX7_init_63 rfl ?_
  refine k_iconst C dX7_init_64 ?_
  refine k_putI (j0 := 0) C dX7_init_65 fw_X7_37 rfl rfl rfl rfl rfl (Nat.le_of_ble_eq_true rfl) ?_
  refine k_aload_n C dX7_init_68 rfl ?_
  refine k_iconst C dX7_init_69 ?_
  refine k_putI (j0 := 0) C dX7_init_70 fw_X7_40 rfl rfl rfl rfl rfl (Nat.le_of_ble_eq_true rfl) ?_
  refine k_aload_n C dX7_init_73 rfl ?_
  refine k_iconst C dX7_init_74 ?_
  refine k_putI (j0 := 0) C dX7_init_75 fw_X7_44 rfl rfl rfl rfl rfl (Nat.le_of_ble_eq_true rfl) ?_
  refine k_vret C dX7_init_78 (by omega) (by omega) (by omega) (gEs_ok _ _ ?_)
  exact ⟨gE_eq (gF_ob (E := ED e) (σ := s0D) tD_ok (k := 15) (i := 0) rfl (Nat.le_of_ble_eq_true rfl) rfl).symm, trivial⟩
theorem fill_z {g : Int → Int} {lo m v z : Int} (hm : 0 ≤ m) (hz : z = lo + m) : updF (fillF g lo m v) z v = fillF g lo (m + 1) v := by rw [hz]; exact fill_s hm
theorem k_eq {G : List va_E → Nat → Nat → Nat → List (Option qV) → List qV → Prop} {pre pre2 : List va_E} {N N2 sl sl2 pc : Nat} {lv : List (Option qV)} {st : List qV} (h : pre = pre2) (h2 : N = N2) (h3 : sl = sl2) (k : G pre2 N2 sl2 pc lv st) : G pre N sl pc lv st := by subst h h2 h3; exact k
theorem set_same {pre : List va_E} {j : Nat} {a : va_E} (h : pre[j]? = some a) : pre.set j a = pre := by
  apply List.ext_getElem?
  intro q
  by_cases e : q = j
  · subst e
    rw [List.getElem?_set_self ((List.getElem?_eq_some_iff.mp h).1), h]
  · rw [List.getElem?_set_ne (fun z => e z.symm)]
