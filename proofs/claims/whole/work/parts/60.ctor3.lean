/-! constructors: LawBook, Crew, History, the reference -/
set_option maxRecDepth 20000 in
theorem kl_X4_51 {G : List va_E → Nat → Nat → Nat → List (Option qV) → List qV → Prop} (e : qR) (l : Launch) {pre : List va_E} {N sl : Nat} {fs : List Value} {g0 : Int → Int} (C : Kx (ED e) l RX4 cX4_init 2 1 5 192 s0D 4 10 G) (hp0 : pre[0]? = some (.inr (4, fs))) (hfs : fs[0]? = some (.ref (eo (ED e) + qad (eT (ED e)) 5 0))) (hlen : 1 < pre.length) (hN : G (pre.set 1 (gAr (ED e) 32 (fillF g0 0 32 (-1)))) N sl 70 [some (qr 4 0), some (qi 32)] []) : ∀ (kk m : Nat), m + kk = 32 → G (pre.set 1 (gAr (ED e) 32 (fillF g0 0 m (-1)))) N sl 51 [some (qr 4 0), some (qi (m : Int))] [] := by
  intro kk
  induction kk with
  | zero =>
    intro m hm
    refine k_iload_n C dX4_init_51 rfl ?_
    refine k_bipush C dX4_init_52 ?_
    refine k_ic_ge 70 C dX4_init_54 (by decide) (by omega) (by omega) (fun h => ?_) (fun h => ?_)
    · rw [show m = 32 by omega]
      exact hN
    · exfalso; omega
  | succ kk ih =>
    intro m hm
    refine k_iload_n C dX4_init_51 rfl ?_
    refine k_bipush C dX4_init_52 ?_
    refine k_ic_ge 70 C dX4_init_54 (by decide) (by omega) (by omega) (fun h => ?_) (fun h => ?_)
    · exfalso; omega
    refine k_aload_n C dX4_init_57 rfl ?_
    refine k_get_r (j0 := 0) (k2 := 5) (i2 := 0) C dX4_init_58 fl_X4_9 rfl rfl (by rw [List.getElem?_set_ne (by decide)]; exact hp0) rfl hfs ?_
    refine k_iload_n C dX4_init_61 rfl ?_
    refine k_iconst C dX4_init_62 ?_
    refine k_iast (j0 := 1) (L := 32) C dX4_init_63 rfl rfl (List.getElem?_set_self hlen) (by omega) ?_
    refine k_iinc C dX4_init_64 rfl rfl rfl (by decide) ?_
    refine k_goto 51 C dX4_init_67 (by decide) ?_
    rw [List.set_set, fill_z (lo := 0) (m := (m : Int)) (by omega) (by omega)]
    exact ih (m + 1) (by omega)
theorem kf_X4_51 {G : List va_E → Nat → Nat → Nat → List (Option qV) → List qV → Prop} (e : qR) (l : Launch) {pre : List va_E} {N sl : Nat} {fs : List Value} {g0 : Int → Int} (C : Kx (ED e) l RX4 cX4_init 2 1 5 192 s0D 4 10 G) (hp0 : pre[0]? = some (.inr (4, fs))) (hfs : fs[0]? = some (.ref (eo (ED e) + qad (eT (ED e)) 5 0))) (hlen : 1 < pre.length) (hpj : pre[1]? = some (gAr (ED e) 32 g0)) (hN : G (pre.set 1 (gAr (ED e) 32 (fillF g0 0 32 (-1)))) N sl 70 [some (qr 4 0), some (qi 32)] []) : G pre N sl 51 [some (qr 4 0), some (qi 0)] [] := by
  have h := kl_X4_51 e l C hp0 hfs hlen hN 32 0 (by omega)
  rw [show (((0 : Nat) : Int)) = 0 from rfl, fill_0, set_same hpj] at h
  exact h
set_option maxRecDepth 20000 in
theorem n_X4 (e : qR) (l : Launch) : CK (ED e) l yX4_init cX4_init 2 1 5 192 s0D 4 (.inr (4, gfs_4)) 10 := by
  refine CK.mk (k := 4) (i := 0) tD_ok (by decide +kernel) rfl rfl rfl (by decide) (fun G C => ?_)
  show G [.inr (4, gfs_4)] (4 + 1) 0 0 [some (qr 4 0), none] []
  refine k_aload_n C dX4_init_0 rfl ?_
  refine k_oinit C dX4_init_1 oi_X4_3 oi_inst oi_code (qv_ref _ _ _) (by decide) ?_
  refine k_aload_n C dX4_init_4 rfl ?_
  refine k_bipush C dX4_init_5 ?_
  refine k_newa (k := 5) (i := 0) (L := 32) C dX4_init_7 ac_int rfl rfl (by omega) (by decide) (Or.inl ⟨rfl, ?_⟩)
  refine k_putF (j0 := 0) C dX4_init_9 ff_X4_9 rfl rfl rfl rfl rfl (Nat.le_of_ble_eq_true rfl) ?_
  refine k_aload_n C dX4_init_12 rfl ?_
  refine k_bipush C dX4_init_13 ?_
  refine k_newa (k := 6) (i := 0) (L := 40) C dX4_init_15 ac_int rfl rfl (by omega) (by decide) (Or.inr ⟨gF_a0 (E := ED e) (σ := s0D) tD_ok (k := 6) (i := 0) rfl (Nat.le_of_ble_eq_true rfl) rfl (fun _ => rfl), ?_⟩)
  refine k_putF (j0 := 0) C dX4_init_17 ff_X4_15 rfl rfl rfl rfl rfl (Nat.le_of_ble_eq_true rfl) ?_
  refine k_aload_n C dX4_init_20 rfl ?_
  refine k_bipush C dX4_init_21 ?_
  refine k_newa (k := 7) (i := 0) (L := 40) C dX4_init_23 ac_int rfl rfl (by omega) (by decide) (Or.inr ⟨gF_a0 (E := ED e) (σ := s0D) tD_ok (k := 7) (i := 0) rfl (Nat.le_of_ble_eq_true rfl) rfl (fun _ => rfl), ?_⟩)
  refine k_putF (j0 := 0) C dX4_init_25 ff_X4_18 rfl rfl rfl rfl rfl (Nat.le_of_ble_eq_true rfl) ?_
  refine k_aload_n C dX4_init_28 rfl ?_
  refine k_bipush C dX4_init_29 ?_
  refine k_newa (k := 8) (i := 0) (L := 40) C dX4_init_31 ac_int rfl rfl (by omega) (by decide) (Or.inr ⟨gF_a0 (E := ED e) (σ := s0D) tD_ok (k := 8) (i := 0) rfl (Nat.le_of_ble_eq_true rfl) rfl (fun _ => rfl), ?_⟩)
  refine k_putF (j0 := 0) C dX4_init_33 ff_X4_21 rfl rfl rfl rfl rfl (Nat.le_of_ble_eq_true rfl) ?_
  refine k_aload_n C dX4_init_36 rfl ?_
  refine k_bipush C dX4_init_37 ?_
  refine k_newa (k := 9) (i := 0) (L := 40) C dX4_init_39 ac_int rfl rfl (by omega) (by decide) (Or.inr ⟨gF_a0 (E := ED e) (σ := s0D) tD_ok (k := 9) (i := 0) rfl (Nat.le_of_ble_eq_true rfl) rfl (fun _ => rfl), ?_⟩)
  refine k_putF (j0 := 0) C dX4_init_41 ff_X4_24 rfl rfl rfl rfl rfl (Nat.le_of_ble_eq_true rfl) ?_
  refine k_aload_n C dX4_init_44 rfl ?_
  refine k_iconst C dX4_init_45 ?_
  refine k_putI (j0 := 0) C dX4_init_46 fw_X4_27 rfl rfl rfl rfl rfl (Nat.le_of_ble_eq_true rfl) ?_
  refine k_iconst C dX4_init_49 ?_
  refine k_istore_n C dX4_init_50 rfl rfl (by decide) ?_
  refine kf_X4_51 e l C rfl rfl (Nat.le_of_ble_eq_true rfl) rfl ?_
  refine k_vret C dX4_init_70 (by omega) (by omega) (by omega) (gEs_ok _ _ ?_)
  exact ⟨gE_eq (gF_ob (E := ED e) (σ := s0D) tD_ok (k := 4) (i := 0) rfl (Nat.le_of_ble_eq_true rfl) rfl).symm, gE_ar (gF_ar (E := ED e) (σ := s0D) tD_ok (k := 5) (i := 0) rfl (Nat.le_of_ble_eq_true rfl) rfl) (fun j hj => by simp only [fillF]; rw [if_pos (by omega)]; rfl), trivial⟩
set_option maxRecDepth 20000 in
theorem kl_X1_42 {G : List va_E → Nat → Nat → Nat → List (Option qV) → List qV → Prop} (e : qR) (l : Launch) {pre : List va_E} {N sl : Nat} {fs : List Value} {g0 : Int → Int} (C : Kx (ED e) l RX1 cX1_init 2 1 4 25 s0D 10 15 G) (hp0 : pre[0]? = some (.inr (1, fs))) (hfs : fs[0]? = some (.ref (eo (ED e) + qad (eT (ED e)) 11 0))) (hlen : 1 < pre.length) (hN : G (pre.set 1 (gAr (ED e) 6 (fillF g0 0 6 (-1)))) N sl 61 [some (qr 10 0), some (qi 6)] []) : ∀ (kk m : Nat), m + kk = 6 → G (pre.set 1 (gAr (ED e) 6 (fillF g0 0 m (-1)))) N sl 42 [some (qr 10 0), some (qi (m : Int))] [] := by
  intro kk
  induction kk with
  | zero =>
    intro m hm
    refine k_iload_n C dX1_init_42 rfl ?_
    refine k_bipush C dX1_init_43 ?_
    refine k_ic_ge 61 C dX1_init_45 (by decide) (by omega) (by omega) (fun h => ?_) (fun h => ?_)
    · rw [show m = 6 by omega]
      exact hN
    · exfalso; omega
  | succ kk ih =>
    intro m hm
    refine k_iload_n C dX1_init_42 rfl ?_
    refine k_bipush C dX1_init_43 ?_
    refine k_ic_ge 61 C dX1_init_45 (by decide) (by omega) (by omega) (fun h => ?_) (fun h => ?_)
    · exfalso; omega
    refine k_aload_n C dX1_init_48 rfl ?_
    refine k_get_r (j0 := 0) (k2 := 11) (i2 := 0) C dX1_init_49 fl_X1_9 rfl rfl (by rw [List.getElem?_set_ne (by decide)]; exact hp0) rfl hfs ?_
    refine k_iload_n C dX1_init_52 rfl ?_
    refine k_iconst C dX1_init_53 ?_
    refine k_iast (j0 := 1) (L := 6) C dX1_init_54 rfl rfl (List.getElem?_set_self hlen) (by omega) ?_
    refine k_iinc C dX1_init_55 rfl rfl rfl (by decide) ?_
    refine k_goto 42 C dX1_init_58 (by decide) ?_
    rw [List.set_set, fill_z (lo := 0) (m := (m : Int)) (by omega) (by omega)]
    exact ih (m + 1) (by omega)
theorem kf_X1_42 {G : List va_E → Nat → Nat → Nat → List (Option qV) → List qV → Prop} (e : qR) (l : Launch) {pre : List va_E} {N sl : Nat} {fs : List Value} {g0 : Int → Int} (C : Kx (ED e) l RX1 cX1_init 2 1 4 25 s0D 10 15 G) (hp0 : pre[0]? = some (.inr (1, fs))) (hfs : fs[0]? = some (.ref (eo (ED e) + qad (eT (ED e)) 11 0))) (hlen : 1 < pre.length) (hpj : pre[1]? = some (gAr (ED e) 6 g0)) (hN : G (pre.set 1 (gAr (ED e) 6 (fillF g0 0 6 (-1)))) N sl 61 [some (qr 10 0), some (qi 6)] []) : G pre N sl 42 [some (qr 10 0), some (qi 0)] [] := by
  have h := kl_X1_42 e l C hp0 hfs hlen hN 6 0 (by omega)
  rw [show (((0 : Nat) : Int)) = 0 from rfl, fill_0, set_same hpj] at h
  exact h
set_option maxRecDepth 20000 in
theorem kl_X1_63 {G : List va_E → Nat → Nat → Nat → List (Option qV) → List qV → Prop} (e : qR) (l : Launch) {pre : List va_E} {N sl : Nat} {fs : List Value} {g0 : Int → Int} (C : Kx (ED e) l RX1 cX1_init 2 1 4 25 s0D 10 15 G) (hp0 : pre[0]? = some (.inr (1, fs))) (hfs : fs[1]? = some (.ref (eo (ED e) + qad (eT (ED e)) 12 0))) (hlen : 2 < pre.length) (hN : G (pre.set 2 (gAr (ED e) 8 (fillF g0 0 8 15))) N sl 83 [some (qr 10 0), some (qi 8)] []) : ∀ (kk m : Nat), m + kk = 8 → G (pre.set 2 (gAr (ED e) 8 (fillF g0 0 m 15))) N sl 63 [some (qr 10 0), some (qi (m : Int))] [] := by
  intro kk
  induction kk with
  | zero =>
    intro m hm
    refine k_iload_n C dX1_init_63 rfl ?_
    refine k_bipush C dX1_init_64 ?_
    refine k_ic_ge 83 C dX1_init_66 (by decide) (by omega) (by omega) (fun h => ?_) (fun h => ?_)
    · rw [show m = 8 by omega]
      exact hN
    · exfalso; omega
  | succ kk ih =>
    intro m hm
    refine k_iload_n C dX1_init_63 rfl ?_
    refine k_bipush C dX1_init_64 ?_
    refine k_ic_ge 83 C dX1_init_66 (by decide) (by omega) (by omega) (fun h => ?_) (fun h => ?_)
    · exfalso; omega
    refine k_aload_n C dX1_init_69 rfl ?_
    refine k_get_r (j0 := 0) (k2 := 12) (i2 := 0) C dX1_init_70 fl_X1_15 rfl rfl (by rw [List.getElem?_set_ne (by decide)]; exact hp0) rfl hfs ?_
    refine k_iload_n C dX1_init_73 rfl ?_
    refine k_bipush C dX1_init_74 ?_
    refine k_iast (j0 := 2) (L := 8) C dX1_init_76 rfl rfl (List.getElem?_set_self hlen) (by omega) ?_
    refine k_iinc C dX1_init_77 rfl rfl rfl (by decide) ?_
    refine k_goto 63 C dX1_init_80 (by decide) ?_
    rw [List.set_set, fill_z (lo := 0) (m := (m : Int)) (by omega) (by omega)]
    exact ih (m + 1) (by omega)
theorem kf_X1_63 {G : List va_E → Nat → Nat → Nat → List (Option qV) → List qV → Prop} (e : qR) (l : Launch) {pre : List va_E} {N sl : Nat} {fs : List Value} {g0 : Int → Int} (C : Kx (ED e) l RX1 cX1_init 2 1 4 25 s0D 10 15 G) (hp0 : pre[0]? = some (.inr (1, fs))) (hfs : fs[1]? = some (.ref (eo (ED e) + qad (eT (ED e)) 12 0))) (hlen : 2 < pre.length) (hpj : pre[2]? = some (gAr (ED e) 8 g0)) (hN : G (pre.set 2 (gAr (ED e) 8 (fillF g0 0 8 15))) N sl 83 [some (qr 10 0), some (qi 8)] []) : G pre N sl 63 [some (qr 10 0), some (qi 0)] [] := by
  have h := kl_X1_63 e l C hp0 hfs hlen hN 8 0 (by omega)
  rw [show (((0 : Nat) : Int)) = 0 from rfl, fill_0, set_same hpj] at h
  exact h
set_option maxRecDepth 20000 in
theorem kl_X1_85 {G : List va_E → Nat → Nat → Nat → List (Option qV) → List qV → Prop} (e : qR) (l : Launch) {pre : List va_E} {N sl : Nat} {fs : List Value} {g0 : Int → Int} (C : Kx (ED e) l RX1 cX1_init 2 1 4 25 s0D 10 15 G) (hp0 : pre[0]? = some (.inr (1, fs))) (hfs : fs[2]? = some (.ref (eo (ED e) + qad (eT (ED e)) 13 0))) (hlen : 3 < pre.length) (hN : G (pre.set 3 (gAr (ED e) 4 (fillF g0 0 4 60))) N sl 104 [some (qr 10 0), some (qi 4)] []) : ∀ (kk m : Nat), m + kk = 4 → G (pre.set 3 (gAr (ED e) 4 (fillF g0 0 m 60))) N sl 85 [some (qr 10 0), some (qi (m : Int))] [] := by
  intro kk
  induction kk with
  | zero =>
    intro m hm
    refine k_iload_n C dX1_init_85 rfl ?_
    refine k_iconst C dX1_init_86 ?_
    refine k_ic_ge 104 C dX1_init_87 (by decide) (by omega) (by omega) (fun h => ?_) (fun h => ?_)
    · rw [show m = 4 by omega]
      exact hN
    · exfalso; omega
  | succ kk ih =>
    intro m hm
    refine k_iload_n C dX1_init_85 rfl ?_
    refine k_iconst C dX1_init_86 ?_
    refine k_ic_ge 104 C dX1_init_87 (by decide) (by omega) (by omega) (fun h => ?_) (fun h => ?_)
    · exfalso; omega
    refine k_aload_n C dX1_init_90 rfl ?_
    refine k_get_r (j0 := 0) (k2 := 13) (i2 := 0) C dX1_init_91 fl_X1_18 rfl rfl (by rw [List.getElem?_set_ne (by decide)]; exact hp0) rfl hfs ?_
    refine k_iload_n C dX1_init_94 rfl ?_
    refine k_bipush C dX1_init_95 ?_
    refine k_iast (j0 := 3) (L := 4) C dX1_init_97 rfl rfl (List.getElem?_set_self hlen) (by omega) ?_
    refine k_iinc C dX1_init_98 rfl rfl rfl (by decide) ?_
    refine k_goto 85 C dX1_init_101 (by decide) ?_
    rw [List.set_set, fill_z (lo := 0) (m := (m : Int)) (by omega) (by omega)]
    exact ih (m + 1) (by omega)
theorem kf_X1_85 {G : List va_E → Nat → Nat → Nat → List (Option qV) → List qV → Prop} (e : qR) (l : Launch) {pre : List va_E} {N sl : Nat} {fs : List Value} {g0 : Int → Int} (C : Kx (ED e) l RX1 cX1_init 2 1 4 25 s0D 10 15 G) (hp0 : pre[0]? = some (.inr (1, fs))) (hfs : fs[2]? = some (.ref (eo (ED e) + qad (eT (ED e)) 13 0))) (hlen : 3 < pre.length) (hpj : pre[3]? = some (gAr (ED e) 4 g0)) (hN : G (pre.set 3 (gAr (ED e) 4 (fillF g0 0 4 60))) N sl 104 [some (qr 10 0), some (qi 4)] []) : G pre N sl 85 [some (qr 10 0), some (qi 0)] [] := by
  have h := kl_X1_85 e l C hp0 hfs hlen hN 4 0 (by omega)
  rw [show (((0 : Nat) : Int)) = 0 from rfl, fill_0, set_same hpj] at h
  exact h
set_option maxRecDepth 20000 in
theorem n_X1 (e : qR) (l : Launch) : CK (ED e) l yX1_init cX1_init 2 1 4 25 s0D 10 (.inr (1, gfs_1)) 15 := by
  refine CK.mk (k := 10) (i := 0) tD_ok (by decide +kernel) rfl rfl rfl (by decide) (fun G C => ?_)
  show G [.inr (1, gfs_1)] (10 + 1) 0 0 [some (qr 10 0), none] []
  refine k_aload_n C dX1_init_0 rfl ?_
  refine k_oinit C dX1_init_1 oi_X1_3 oi_inst oi_code (qv_ref _ _ _) (by decide) ?_
  refine k_aload_n C dX1_init_4 rfl ?_
  refine k_bipush C dX1_init_5 ?_
  refine k_newa (k := 11) (i := 0) (L := 6) C dX1_init_7 ac_int rfl rfl (by omega) (by decide) (Or.inl ⟨rfl, ?_⟩)
  refine k_putF (j0 := 0) C dX1_init_9 ff_X1_9 rfl rfl rfl rfl rfl (Nat.le_of_ble_eq_true rfl) ?_
  refine k_aload_n C dX1_init_12 rfl ?_
  refine k_bipush C dX1_init_13 ?_
  refine k_newa (k := 12) (i := 0) (L := 8) C dX1_init_15 ac_int rfl rfl (by omega) (by decide) (Or.inl ⟨rfl, ?_⟩)
  refine k_putF (j0 := 0) C dX1_init_17 ff_X1_15 rfl rfl rfl rfl rfl (Nat.le_of_ble_eq_true rfl) ?_
  refine k_aload_n C dX1_init_20 rfl ?_
  refine k_iconst C dX1_init_21 ?_
  refine k_newa (k := 13) (i := 0) (L := 4) C dX1_init_22 ac_int rfl rfl (by omega) (by decide) (Or.inl ⟨rfl, ?_⟩)
  refine k_putF (j0 := 0) C dX1_init_24 ff_X1_18 rfl rfl rfl rfl rfl (Nat.le_of_ble_eq_true rfl) ?_
  refine k_aload_n C dX1_init_27 rfl ?_
  refine k_bipush C dX1_init_28 ?_
  refine k_newa (k := 14) (i := 0) (L := 7) C dX1_init_30 ac_int rfl rfl (by omega) (by decide) (Or.inr ⟨gF_a0 (E := ED e) (σ := s0D) tD_ok (k := 14) (i := 0) rfl (Nat.le_of_ble_eq_true rfl) rfl (fun _ => rfl), ?_⟩)
  refine k_putF (j0 := 0) C dX1_init_32 ff_X1_21 rfl rfl rfl rfl rfl (Nat.le_of_ble_eq_true rfl) ?_
  refine k_aload_n C dX1_init_35 rfl ?_
  refine k_iconst C dX1_init_36 ?_
  refine k_putI (j0 := 0) C dX1_init_37 fw_X1_24 rfl rfl rfl rfl rfl (Nat.le_of_ble_eq_true rfl) ?_
  refine k_iconst C dX1_init_40 ?_
  refine k_istore_n C dX1_init_41 rfl rfl (by decide) ?_
  refine kf_X1_42 e l C rfl rfl (Nat.le_of_ble_eq_true rfl) rfl ?_
  refine k_iconst C dX1_init_61 ?_
  refine k_istore_n C dX1_init_62 rfl rfl (by decide) ?_
  refine kf_X1_63 e l C rfl rfl (Nat.le_of_ble_eq_true rfl) rfl ?_
  refine k_iconst C dX1_init_83 ?_
  refine k_istore_n C dX1_init_84 rfl rfl (by decide) ?_
  refine kf_X1_85 e l C rfl rfl (Nat.le_of_ble_eq_true rfl) rfl ?_
  refine k_vret C dX1_init_104 (by omega) (by omega) (by omega) (gEs_ok _ _ ?_)
  exact ⟨gE_eq (gF_ob (E := ED e) (σ := s0D) tD_ok (k := 10) (i := 0) rfl (Nat.le_of_ble_eq_true rfl) rfl).symm, gE_ar (gF_ar (E := ED e) (σ := s0D) tD_ok (k := 11) (i := 0) rfl (Nat.le_of_ble_eq_true rfl) rfl) (fun j hj => by simp only [fillF]; rw [if_pos (by omega)]; rfl), gE_ar (gF_ar (E := ED e) (σ := s0D) tD_ok (k := 12) (i := 0) rfl (Nat.le_of_ble_eq_true rfl) rfl) (fun j hj => by simp only [fillF]; rw [if_pos (by omega)]; rfl), gE_ar (gF_ar (E := ED e) (σ := s0D) tD_ok (k := 13) (i := 0) rfl (Nat.le_of_ble_eq_true rfl) rfl) (fun j hj => by simp only [fillF]; rw [if_pos (by omega)]; rfl), trivial⟩
set_option maxRecDepth 20000 in
theorem kl_X3_25 {G : List va_E → Nat → Nat → Nat → List (Option qV) → List qV → Prop} (e : qR) (l : Launch) {pre : List va_E} {fs : List Value} (C : Kx (ED e) l RX3 cX3_init 2 2 41 600 s0D 38 80 G) (hp0 : pre[0]? = some (.inr (3, fs))) (hfs : fs[0]? = some (.ref (eo (ED e) + qad (eT (ED e)) 39 0))) (hlen : pre.length = 2) (hN : G (pre.set 1 (gRf (ED e) 5 20 (rfF (ED e) 40 20))) 80 600 50 [some (qr 38 0), some (qi 20)] []) : ∀ (kk m : Nat), m + kk = 20 → G (pre.set 1 (gRf (ED e) 5 20 (rfF (ED e) 40 m))) (40 + 2 * m) (20 + 29 * m) 25 [some (qr 38 0), some (qi (m : Int))] [] := by
  intro kk
  induction kk with
  | zero =>
    intro m hm
    refine k_iload_n C dX3_init_25 rfl ?_
    refine k_bipush C dX3_init_26 ?_
    refine k_ic_ge 50 C dX3_init_28 (by decide) (by omega) (by omega) (fun h => ?_) (fun h => ?_)
    · rw [show m = 20 by omega]
      exact hN
    · exfalso; omega
  | succ kk ih =>
    intro m hm
    refine k_iload_n C dX3_init_25 rfl ?_
    refine k_bipush C dX3_init_26 ?_
    refine k_ic_ge 50 C dX3_init_28 (by decide) (by omega) (by omega) (fun h => ?_) (fun h => ?_)
    · exfalso; omega
    refine k_aload_n C dX3_init_31 rfl ?_
    refine k_get_r (j0 := 0) (k2 := 39) (i2 := 0) C dX3_init_32 fl_X3_11 rfl rfl (by rw [List.getElem?_set_ne (by decide)]; exact hp0) rfl hfs ?_
    refine k_iload_n C dX3_init_35 rfl ?_
    refine k_new (k := 40) (i := (m : Int)) C dX3_init_36 dX3_init_39 dX3_init_40 nw_X3_9 df_0 (n_X0 e l m (by omega)) rfl (by show 40 + 2 * m = _; omega) (by decide) (by omega) (by omega) (Nat.le_of_ble_eq_true rfl) ?_
    refine k_aast (j0 := 1) (jv := (2 + 2 * m)) (L := 20) C dX3_init_43 rfl rfl rfl (by show 40 + 2 * m = _; omega) (List.getElem?_set_self (by omega)) (by rw [List.length_set]; omega) (by omega) (gF_ob (E := ED e) (σ := s0D) tD_ok (k := 40) (i := m) (by show 40 + 2 * m = _; omega) (show m < 20 by omega) rfl) rfl rfl (by omega) ?_
    refine k_iinc C dX3_init_44 rfl rfl rfl (by decide) ?_
    refine k_goto 25 C dX3_init_47 (by decide) ?_
    rw [List.set_set, Int.toNat_natCast, rfF_s (E := ED e) (tk := 40) (m := m) (by show 40 + 2 * m = _; omega)]
    have h := ih (m + 1) (by omega)
    rw [show 40 + 2 * (m + 1) = 40 + 2 * m + 2 by omega, show 20 + 29 * (m + 1) = 20 + 29 * m + 29 by omega] at h
    exact h
theorem kf_X3_25 {G : List va_E → Nat → Nat → Nat → List (Option qV) → List qV → Prop} (e : qR) (l : Launch) {pre : List va_E} {fs : List Value} (C : Kx (ED e) l RX3 cX3_init 2 2 41 600 s0D 38 80 G) (hp0 : pre[0]? = some (.inr (3, fs))) (hfs : fs[0]? = some (.ref (eo (ED e) + qad (eT (ED e)) 39 0))) (hlen : pre.length = 2) (hpj : pre[1]? = some (gRf (ED e) 5 20 (fun _ => none))) (hN : G (pre.set 1 (gRf (ED e) 5 20 (rfF (ED e) 40 20))) 80 600 50 [some (qr 38 0), some (qi 20)] []) : G pre 40 20 25 [some (qr 38 0), some (qi 0)] [] := by
  have h := kl_X3_25 e l C hp0 hfs hlen hN 20 0 (by omega)
  rw [rfF_0, set_same hpj] at h
  exact h
set_option maxRecDepth 20000 in
theorem n_X3 (e : qR) (l : Launch) : CK (ED e) l yX3_init cX3_init 2 2 41 600 s0D 38 (.inr (3, gfs_3)) 80 := by
  refine CK.mk (k := 38) (i := 0) tD_ok (by decide +kernel) rfl rfl rfl (by decide) (fun G C => ?_)
  show G [.inr (3, gfs_3)] (38 + 1) 0 0 [some (qr 38 0), none] []
  refine k_aload_n C dX3_init_0 rfl ?_
  refine k_oinit C dX3_init_1 oi_X3_3 oi_inst oi_code (qv_ref _ _ _) (by decide) ?_
  refine k_aload_n C dX3_init_4 rfl ?_
  refine k_bipush C dX3_init_5 ?_
  refine k_anew (k := 39) (i := 0) (L := 20) (ek := 5) C dX3_init_7 cl_X3_9 (fun U h => h.2.1.2.2.2) rfl rfl rfl (by omega) (by decide) rfl ?_
  refine k_putF (j0 := 0) C dX3_init_10 ff_X3_11 rfl rfl rfl rfl rfl (Nat.le_of_ble_eq_true rfl) ?_
  refine k_aload_n C dX3_init_13 rfl ?_
  refine k_iconst C dX3_init_14 ?_
  refine k_putI (j0 := 0) C dX3_init_15 fw_X3_17 rfl rfl rfl rfl rfl (Nat.le_of_ble_eq_true rfl) ?_
  refine k_aload_n C dX3_init_18 rfl ?_
  refine k_iconst C dX3_init_19 ?_
  refine k_putI (j0 := 0) C dX3_init_20 fw_X3_21 rfl rfl rfl rfl rfl (Nat.le_of_ble_eq_true rfl) ?_
  refine k_iconst C dX3_init_23 ?_
  refine k_istore_n C dX3_init_24 rfl rfl (by decide) ?_
  refine kf_X3_25 e l C rfl rfl rfl rfl ?_
  refine k_vret C dX3_init_50 (by omega) (by omega) (by omega) (gEs_ok _ _ ?_)
  exact ⟨gE_eq (gF_ob (E := ED e) (σ := s0D) tD_ok (k := 38) (i := 0) rfl (Nat.le_of_ble_eq_true rfl) rfl).symm, gE_rf (gF_rf (E := ED e) (σ := s0D) tD_ok (k := 39) (i := 0) (ek := 3) rfl (Nat.le_of_ble_eq_true rfl) rfl) (fun j hj => by unfold rfF; rw [if_pos hj]), trivial⟩
set_option maxRecDepth 20000 in
theorem kl_X11_129 {G : List va_E → Nat → Nat → Nat → List (Option qV) → List qV → Prop} (e : qR) (l : Launch) {pre : List va_E} {N sl : Nat} {fs : List Value} {g0 : Int → Int} (C : Kx (EM e) l RX11 cX11_init 2 1 15 8962 s0M 0 16 G) (hp0 : pre[0]? = some (.inr (11, fs))) (hfs : fs[0]? = some (.ref (eo (EM e) + qad (eT (EM e)) 1 0))) (hlen : 1 < pre.length) (hN : G (pre.set 1 (gAr (EM e) 365 (fillF g0 308 32 (-1)))) N sl 152 [some (qr 0 0), some (qi 32)] []) : ∀ (kk m : Nat), m + kk = 32 → G (pre.set 1 (gAr (EM e) 365 (fillF g0 308 m (-1)))) N sl 129 [some (qr 0 0), some (qi (m : Int))] [] := by
  intro kk
  induction kk with
  | zero =>
    intro m hm
    refine k_iload_n C dX11_init_129 rfl ?_
    refine k_bipush C dX11_init_130 ?_
    refine k_ic_ge 152 C dX11_init_132 (by decide) (by omega) (by omega) (fun h => ?_) (fun h => ?_)
    · rw [show m = 32 by omega]
      exact hN
    · exfalso; omega
  | succ kk ih =>
    intro m hm
    refine k_iload_n C dX11_init_129 rfl ?_
    refine k_bipush C dX11_init_130 ?_
    refine k_ic_ge 152 C dX11_init_132 (by decide) (by omega) (by omega) (fun h => ?_) (fun h => ?_)
    · exfalso; omega
    refine k_aload_n C dX11_init_135 rfl ?_
    refine k_get_r (j0 := 0) (k2 := 1) (i2 := 0) C dX11_init_136 fl_X11_9 rfl rfl (by rw [List.getElem?_set_ne (by decide)]; exact hp0) rfl hfs ?_
    refine k_sipush C dX11_init_139 ?_
    refine k_iload_n C dX11_init_142 rfl ?_
    refine k_iadd C dX11_init_143 ?_
    refine k_iconst C dX11_init_144 ?_
    refine k_iast (j0 := 1) (L := 365) C dX11_init_145 rfl rfl (List.getElem?_set_self hlen) (by omega) ?_
    refine k_iinc C dX11_init_146 rfl rfl rfl (by decide) ?_
    refine k_goto 129 C dX11_init_149 (by decide) ?_
    rw [List.set_set, fill_z (lo := 308) (m := (m : Int)) (by omega) (by omega)]
    exact ih (m + 1) (by omega)
theorem kf_X11_129 {G : List va_E → Nat → Nat → Nat → List (Option qV) → List qV → Prop} (e : qR) (l : Launch) {pre : List va_E} {N sl : Nat} {fs : List Value} {g0 : Int → Int} (C : Kx (EM e) l RX11 cX11_init 2 1 15 8962 s0M 0 16 G) (hp0 : pre[0]? = some (.inr (11, fs))) (hfs : fs[0]? = some (.ref (eo (EM e) + qad (eT (EM e)) 1 0))) (hlen : 1 < pre.length) (hpj : pre[1]? = some (gAr (EM e) 365 g0)) (hN : G (pre.set 1 (gAr (EM e) 365 (fillF g0 308 32 (-1)))) N sl 152 [some (qr 0 0), some (qi 32)] []) : G pre N sl 129 [some (qr 0 0), some (qi 0)] [] := by
  have h := kl_X11_129 e l C hp0 hfs hlen hN 32 0 (by omega)
  rw [show (((0 : Nat) : Int)) = 0 from rfl, fill_0, set_same hpj] at h
  exact h
set_option maxRecDepth 20000 in
theorem kl_X11_154 {G : List va_E → Nat → Nat → Nat → List (Option qV) → List qV → Prop} (e : qR) (l : Launch) {pre : List va_E} {N sl : Nat} {fs : List Value} {g0 : Int → Int} (C : Kx (EM e) l RX11 cX11_init 2 1 15 8962 s0M 0 16 G) (hp0 : pre[0]? = some (.inr (11, fs))) (hfs : fs[0]? = some (.ref (eo (EM e) + qad (eT (EM e)) 1 0))) (hlen : 1 < pre.length) (hN : G (pre.set 1 (gAr (EM e) 365 (fillF g0 340 6 (-1)))) N sl 177 [some (qr 0 0), some (qi 6)] []) : ∀ (kk m : Nat), m + kk = 6 → G (pre.set 1 (gAr (EM e) 365 (fillF g0 340 m (-1)))) N sl 154 [some (qr 0 0), some (qi (m : Int))] [] := by
  intro kk
  induction kk with
  | zero =>
    intro m hm
    refine k_iload_n C dX11_init_154 rfl ?_
    refine k_bipush C dX11_init_155 ?_
    refine k_ic_ge 177 C dX11_init_157 (by decide) (by omega) (by omega) (fun h => ?_) (fun h => ?_)
    · rw [show m = 6 by omega]
      exact hN
    · exfalso; omega
  | succ kk ih =>
    intro m hm
    refine k_iload_n C dX11_init_154 rfl ?_
    refine k_bipush C dX11_init_155 ?_
    refine k_ic_ge 177 C dX11_init_157 (by decide) (by omega) (by omega) (fun h => ?_) (fun h => ?_)
    · exfalso; omega
    refine k_aload_n C dX11_init_160 rfl ?_
    refine k_get_r (j0 := 0) (k2 := 1) (i2 := 0) C dX11_init_161 fl_X11_9 rfl rfl (by rw [List.getElem?_set_ne (by decide)]; exact hp0) rfl hfs ?_
    refine k_sipush C dX11_init_164 ?_
    refine k_iload_n C dX11_init_167 rfl ?_
    refine k_iadd C dX11_init_168 ?_
    refine k_iconst C dX11_init_169 ?_
    refine k_iast (j0 := 1) (L := 365) C dX11_init_170 rfl rfl (List.getElem?_set_self hlen) (by omega) ?_
    refine k_iinc C dX11_init_171 rfl rfl rfl (by decide) ?_
    refine k_goto 154 C dX11_init_174 (by decide) ?_
    rw [List.set_set, fill_z (lo := 340) (m := (m : Int)) (by omega) (by omega)]
    exact ih (m + 1) (by omega)
theorem kf_X11_154 {G : List va_E → Nat → Nat → Nat → List (Option qV) → List qV → Prop} (e : qR) (l : Launch) {pre : List va_E} {N sl : Nat} {fs : List Value} {g0 : Int → Int} (C : Kx (EM e) l RX11 cX11_init 2 1 15 8962 s0M 0 16 G) (hp0 : pre[0]? = some (.inr (11, fs))) (hfs : fs[0]? = some (.ref (eo (EM e) + qad (eT (EM e)) 1 0))) (hlen : 1 < pre.length) (hpj : pre[1]? = some (gAr (EM e) 365 g0)) (hN : G (pre.set 1 (gAr (EM e) 365 (fillF g0 340 6 (-1)))) N sl 177 [some (qr 0 0), some (qi 6)] []) : G pre N sl 154 [some (qr 0 0), some (qi 0)] [] := by
  have h := kl_X11_154 e l C hp0 hfs hlen hN 6 0 (by omega)
  rw [show (((0 : Nat) : Int)) = 0 from rfl, fill_0, set_same hpj] at h
  exact h
set_option maxRecDepth 20000 in
theorem kl_X11_179 {G : List va_E → Nat → Nat → Nat → List (Option qV) → List qV → Prop} (e : qR) (l : Launch) {pre : List va_E} {N sl : Nat} {fs : List Value} {g0 : Int → Int} (C : Kx (EM e) l RX11 cX11_init 2 1 15 8962 s0M 0 16 G) (hp0 : pre[0]? = some (.inr (11, fs))) (hfs : fs[0]? = some (.ref (eo (EM e) + qad (eT (EM e)) 1 0))) (hlen : 1 < pre.length) (hN : G (pre.set 1 (gAr (EM e) 365 (fillF g0 346 8 15))) N sl 203 [some (qr 0 0), some (qi 8)] []) : ∀ (kk m : Nat), m + kk = 8 → G (pre.set 1 (gAr (EM e) 365 (fillF g0 346 m 15))) N sl 179 [some (qr 0 0), some (qi (m : Int))] [] := by
  intro kk
  induction kk with
  | zero =>
    intro m hm
    refine k_iload_n C dX11_init_179 rfl ?_
    refine k_bipush C dX11_init_180 ?_
    refine k_ic_ge 203 C dX11_init_182 (by decide) (by omega) (by omega) (fun h => ?_) (fun h => ?_)
    · rw [show m = 8 by omega]
      exact hN
    · exfalso; omega
  | succ kk ih =>
    intro m hm
    refine k_iload_n C dX11_init_179 rfl ?_
    refine k_bipush C dX11_init_180 ?_
    refine k_ic_ge 203 C dX11_init_182 (by decide) (by omega) (by omega) (fun h => ?_) (fun h => ?_)
    · exfalso; omega
    refine k_aload_n C dX11_init_185 rfl ?_
    refine k_get_r (j0 := 0) (k2 := 1) (i2 := 0) C dX11_init_186 fl_X11_9 rfl rfl (by rw [List.getElem?_set_ne (by decide)]; exact hp0) rfl hfs ?_
    refine k_sipush C dX11_init_189 ?_
    refine k_iload_n C dX11_init_192 rfl ?_
    refine k_iadd C dX11_init_193 ?_
    refine k_bipush C dX11_init_194 ?_
    refine k_iast (j0 := 1) (L := 365) C dX11_init_196 rfl rfl (List.getElem?_set_self hlen) (by omega) ?_
    refine k_iinc C dX11_init_197 rfl rfl rfl (by decide) ?_
    refine k_goto 179 C dX11_init_200 (by decide) ?_
    rw [List.set_set, fill_z (lo := 346) (m := (m : Int)) (by omega) (by omega)]
    exact ih (m + 1) (by omega)
theorem kf_X11_179 {G : List va_E → Nat → Nat → Nat → List (Option qV) → List qV → Prop} (e : qR) (l : Launch) {pre : List va_E} {N sl : Nat} {fs : List Value} {g0 : Int → Int} (C : Kx (EM e) l RX11 cX11_init 2 1 15 8962 s0M 0 16 G) (hp0 : pre[0]? = some (.inr (11, fs))) (hfs : fs[0]? = some (.ref (eo (EM e) + qad (eT (EM e)) 1 0))) (hlen : 1 < pre.length) (hpj : pre[1]? = some (gAr (EM e) 365 g0)) (hN : G (pre.set 1 (gAr (EM e) 365 (fillF g0 346 8 15))) N sl 203 [some (qr 0 0), some (qi 8)] []) : G pre N sl 179 [some (qr 0 0), some (qi 0)] [] := by
  have h := kl_X11_179 e l C hp0 hfs hlen hN 8 0 (by omega)
  rw [show (((0 : Nat) : Int)) = 0 from rfl, fill_0, set_same hpj] at h
  exact h
set_option maxRecDepth 20000 in
theorem kl_X11_205 {G : List va_E → Nat → Nat → Nat → List (Option qV) → List qV → Prop} (e : qR) (l : Launch) {pre : List va_E} {N sl : Nat} {fs : List Value} {g0 : Int → Int} (C : Kx (EM e) l RX11 cX11_init 2 1 15 8962 s0M 0 16 G) (hp0 : pre[0]? = some (.inr (11, fs))) (hfs : fs[0]? = some (.ref (eo (EM e) + qad (eT (EM e)) 1 0))) (hlen : 1 < pre.length) (hN : G (pre.set 1 (gAr (EM e) 365 (fillF g0 354 4 60))) N sl 228 [some (qr 0 0), some (qi 4)] []) : ∀ (kk m : Nat), m + kk = 4 → G (pre.set 1 (gAr (EM e) 365 (fillF g0 354 m 60))) N sl 205 [some (qr 0 0), some (qi (m : Int))] [] := by
  intro kk
  induction kk with
  | zero =>
    intro m hm
    refine k_iload_n C dX11_init_205 rfl ?_
    refine k_iconst C dX11_init_206 ?_
    refine k_ic_ge 228 C dX11_init_207 (by decide) (by omega) (by omega) (fun h => ?_) (fun h => ?_)
    · rw [show m = 4 by omega]
      exact hN
    · exfalso; omega
  | succ kk ih =>
    intro m hm
    refine k_iload_n C dX11_init_205 rfl ?_
    refine k_iconst C dX11_init_206 ?_
    refine k_ic_ge 228 C dX11_init_207 (by decide) (by omega) (by omega) (fun h => ?_) (fun h => ?_)
    · exfalso; omega
    refine k_aload_n C dX11_init_210 rfl ?_
    refine k_get_r (j0 := 0) (k2 := 1) (i2 := 0) C dX11_init_211 fl_X11_9 rfl rfl (by rw [List.getElem?_set_ne (by decide)]; exact hp0) rfl hfs ?_
    refine k_sipush C dX11_init_214 ?_
    refine k_iload_n C dX11_init_217 rfl ?_
    refine k_iadd C dX11_init_218 ?_
    refine k_bipush C dX11_init_219 ?_
    refine k_iast (j0 := 1) (L := 365) C dX11_init_221 rfl rfl (List.getElem?_set_self hlen) (by omega) ?_
    refine k_iinc C dX11_init_222 rfl rfl rfl (by decide) ?_
    refine k_goto 205 C dX11_init_225 (by decide) ?_
    rw [List.set_set, fill_z (lo := 354) (m := (m : Int)) (by omega) (by omega)]
    exact ih (m + 1) (by omega)
theorem kf_X11_205 {G : List va_E → Nat → Nat → Nat → List (Option qV) → List qV → Prop} (e : qR) (l : Launch) {pre : List va_E} {N sl : Nat} {fs : List Value} {g0 : Int → Int} (C : Kx (EM e) l RX11 cX11_init 2 1 15 8962 s0M 0 16 G) (hp0 : pre[0]? = some (.inr (11, fs))) (hfs : fs[0]? = some (.ref (eo (EM e) + qad (eT (EM e)) 1 0))) (hlen : 1 < pre.length) (hpj : pre[1]? = some (gAr (EM e) 365 g0)) (hN : G (pre.set 1 (gAr (EM e) 365 (fillF g0 354 4 60))) N sl 228 [some (qr 0 0), some (qi 4)] []) : G pre N sl 205 [some (qr 0 0), some (qi 0)] [] := by
  have h := kl_X11_205 e l C hp0 hfs hlen hN 4 0 (by omega)
  rw [show (((0 : Nat) : Int)) = 0 from rfl, fill_0, set_same hpj] at h
  exact h
set_option maxRecDepth 20000 in
theorem n_X11 (e : qR) (l : Launch) : CK (EM e) l yX11_init cX11_init 2 1 15 8962 s0M 0 (.inr (11, gfs_11)) 16 := by
  refine CK.mk (k := 0) (i := 0) tM_ok (by decide +kernel) rfl rfl rfl (by decide) (fun G C => ?_)
  show G [.inr (11, gfs_11)] (0 + 1) 0 0 [some (qr 0 0), none] []
  refine k_eq (G := G) (pre2 := [.inr (11, [.null, .null, .null, .null, .int (Int32.ofInt 0), .int (Int32.ofInt 0), .null, .null, .null, .null, .null, .null, .int (Int32.ofInt 0), .null, .null, .null, .int (Int32.ofInt 0), .int (Int32.ofInt 0), .int (Int32.ofInt 0), .null, .null])]) (N2 := 1) (sl2 := 0) rfl rfl rfl ?_
  refine k_aload_n C dX11_init_0 rfl ?_
  refine k_oinit C dX11_init_1 oi_X11_1 oi_inst oi_code (qv_ref _ _ _) (by decide) ?_
  refine k_aload_n C dX11_init_4 rfl ?_
  refine k_sipush C dX11_init_5 ?_
  refine k_newa (k := 1) (i := 0) (L := 365) C dX11_init_8 ac_int rfl rfl (by omega) (by decide) (Or.inl ⟨rfl, ?_⟩)
  refine k_putF (j0 := 0) C dX11_init_10 ff_X11_9 rfl rfl rfl rfl rfl (Nat.le_of_ble_eq_true rfl) ?_
  refine k_eq (G := G) (pre2 := [.inr (11, [.ref (eo (EM e) + qad (eT (EM e)) 1 0), .null, .null, .null, .int (Int32.ofInt 0), .int (Int32.ofInt 0), .null, .null, .null, .null, .null, .null, .int (Int32.ofInt 0), .null, .null, .null, .int (Int32.ofInt 0), .int (Int32.ofInt 0), .int (Int32.ofInt 0), .null, .null]), gAr (EM e) 365 (fun _ => 0)]) (N2 := 2) (sl2 := 365) rfl rfl rfl ?_
  refine k_aload_n C dX11_init_13 rfl ?_
  refine k_bipush C dX11_init_14 ?_
  refine k_newl (k := 2) (i := 0) (L := 12) C dX11_init_16 ac_long rfl rfl (by omega) (by decide) (gF_l0 (E := EM e) (σ := s0M) tM_ok (k := 2) (i := 0) rfl (Nat.le_of_ble_eq_true rfl) rfl (fun _ => rfl)) ?_
  refine k_putF (j0 := 0) C dX11_init_18 ff_X11_13 rfl rfl rfl rfl rfl (Nat.le_of_ble_eq_true rfl) ?_
  refine k_eq (G := G) (pre2 := [.inr (11, [.ref (eo (EM e) + qad (eT (EM e)) 1 0), .ref (eo (EM e) + qad (eT (EM e)) 2 0), .null, .null, .int (Int32.ofInt 0), .int (Int32.ofInt 0), .null, .null, .null, .null, .null, .null, .int (Int32.ofInt 0), .null, .null, .null, .int (Int32.ofInt 0), .int (Int32.ofInt 0), .int (Int32.ofInt 0), .null, .null]), gAr (EM e) 365 (fun _ => 0)]) (N2 := 3) (sl2 := 377) rfl rfl rfl ?_
  refine k_aload_n C dX11_init_21 rfl ?_
  refine k_sipush C dX11_init_22 ?_
  refine k_newa (k := 3) (i := 0) (L := 7300) C dX11_init_25 ac_int rfl rfl (by omega) (by decide) (Or.inr ⟨gF_a0 (E := EM e) (σ := s0M) tM_ok (k := 3) (i := 0) rfl (Nat.le_of_ble_eq_true rfl) rfl (fun _ => rfl), ?_⟩)
  refine k_putF (j0 := 0) C dX11_init_27 ff_X11_17 rfl rfl rfl rfl rfl (Nat.le_of_ble_eq_true rfl) ?_
  refine k_eq (G := G) (pre2 := [.inr (11, [.ref (eo (EM e) + qad (eT (EM e)) 1 0), .ref (eo (EM e) + qad (eT (EM e)) 2 0), .ref (eo (EM e) + qad (eT (EM e)) 3 0), .null, .int (Int32.ofInt 0), .int (Int32.ofInt 0), .null, .null, .null, .null, .null, .null, .int (Int32.ofInt 0), .null, .null, .null, .int (Int32.ofInt 0), .int (Int32.ofInt 0), .int (Int32.ofInt 0), .null, .null]), gAr (EM e) 365 (fun _ => 0)]) (N2 := 4) (sl2 := 7677) rfl rfl rfl ?_
  refine k_aload_n C dX11_init_30 rfl ?_
  refine k_sipush C dX11_init_31 ?_
  refine k_newl (k := 4) (i := 0) (L := 240) C dX11_init_34 ac_long rfl rfl (by omega) (by decide) (gF_l0 (E := EM e) (σ := s0M) tM_ok (k := 4) (i := 0) rfl (Nat.le_of_ble_eq_true rfl) rfl (fun _ => rfl)) ?_
  refine k_putF (j0 := 0) C dX11_init_36 ff_X11_20 rfl rfl rfl rfl rfl (Nat.le_of_ble_eq_true rfl) ?_
  refine k_eq (G := G) (pre2 := [.inr (11, [.ref (eo (EM e) + qad (eT (EM e)) 1 0), .ref (eo (EM e) + qad (eT (EM e)) 2 0), .ref (eo (EM e) + qad (eT (EM e)) 3 0), .ref (eo (EM e) + qad (eT (EM e)) 4 0), .int (Int32.ofInt 0), .int (Int32.ofInt 0), .null, .null, .null, .null, .null, .null, .int (Int32.ofInt 0), .null, .null, .null, .int (Int32.ofInt 0), .int (Int32.ofInt 0), .int (Int32.ofInt 0), .null, .null]), gAr (EM e) 365 (fun _ => 0)]) (N2 := 5) (sl2 := 7917) rfl rfl rfl ?_
  refine k_aload_n C dX11_init_39 rfl ?_
  refine k_iconst C dX11_init_40 ?_
  refine k_newa (k := 5) (i := 0) (L := 4) C dX11_init_41 ac_int rfl rfl (by omega) (by decide) (Or.inr ⟨gF_a0 (E := EM e) (σ := s0M) tM_ok (k := 5) (i := 0) rfl (Nat.le_of_ble_eq_true rfl) rfl (fun _ => rfl), ?_⟩)
  refine k_putF (j0 := 0) C dX11_init_43 ff_X11_23 rfl rfl rfl rfl rfl (Nat.le_of_ble_eq_true rfl) ?_
  refine k_eq (G := G) (pre2 := [.inr (11, [.ref (eo (EM e) + qad (eT (EM e)) 1 0), .ref (eo (EM e) + qad (eT (EM e)) 2 0), .ref (eo (EM e) + qad (eT (EM e)) 3 0), .ref (eo (EM e) + qad (eT (EM e)) 4 0), .int (Int32.ofInt 0), .int (Int32.ofInt 0), .ref (eo (EM e) + qad (eT (EM e)) 5 0), .null, .null, .null, .null, .null, .int (Int32.ofInt 0), .null, .null, .null, .int (Int32.ofInt 0), .int (Int32.ofInt 0), .int (Int32.ofInt 0), .null, .null]), gAr (EM e) 365 (fun _ => 0)]) (N2 := 6) (sl2 := 7921) rfl rfl rfl ?_
  refine k_aload_n C dX11_init_46 rfl ?_
  refine k_iconst C dX11_init_47 ?_
  refine k_newa (k := 6) (i := 0) (L := 4) C dX11_init_48 ac_int rfl rfl (by omega) (by decide) (Or.inr ⟨gF_a0 (E := EM e) (σ := s0M) tM_ok (k := 6) (i := 0) rfl (Nat.le_of_ble_eq_true rfl) rfl (fun _ => rfl), ?_⟩)
  refine k_putF (j0 := 0) C dX11_init_50 ff_X11_26 rfl rfl rfl rfl rfl (Nat.le_of_ble_eq_true rfl) ?_
  refine k_eq (G := G) (pre2 := [.inr (11, [.ref (eo (EM e) + qad (eT (EM e)) 1 0), .ref (eo (EM e) + qad (eT (EM e)) 2 0), .ref (eo (EM e) + qad (eT (EM e)) 3 0), .ref (eo (EM e) + qad (eT (EM e)) 4 0), .int (Int32.ofInt 0), .int (Int32.ofInt 0), .ref (eo (EM e) + qad (eT (EM e)) 5 0), .ref (eo (EM e) + qad (eT (EM e)) 6 0), .null, .null, .null, .null, .int (Int32.ofInt 0), .null, .null, .null, .int (Int32.ofInt 0), .int (Int32.ofInt 0), .int (Int32.ofInt 0), .null, .null]), gAr (EM e) 365 (fun _ => 0)]) (N2 := 7) (sl2 := 7925) rfl rfl rfl ?_
  refine k_aload_n C dX11_init_53 rfl ?_
  refine k_bipush C dX11_init_54 ?_
  refine k_newa (k := 7) (i := 0) (L := 120) C dX11_init_56 ac_int rfl rfl (by omega) (by decide) (Or.inr ⟨gF_a0 (E := EM e) (σ := s0M) tM_ok (k := 7) (i := 0) rfl (Nat.le_of_ble_eq_true rfl) rfl (fun _ => rfl), ?_⟩)
  refine k_putF (j0 := 0) C dX11_init_58 ff_X11_29 rfl rfl rfl rfl rfl (Nat.le_of_ble_eq_true rfl) ?_
  refine k_eq (G := G) (pre2 := [.inr (11, [.ref (eo (EM e) + qad (eT (EM e)) 1 0), .ref (eo (EM e) + qad (eT (EM e)) 2 0), .ref (eo (EM e) + qad (eT (EM e)) 3 0), .ref (eo (EM e) + qad (eT (EM e)) 4 0), .int (Int32.ofInt 0), .int (Int32.ofInt 0), .ref (eo (EM e) + qad (eT (EM e)) 5 0), .ref (eo (EM e) + qad (eT (EM e)) 6 0), .ref (eo (EM e) + qad (eT (EM e)) 7 0), .null, .null, .null, .int (Int32.ofInt 0), .null, .null, .null, .int (Int32.ofInt 0), .int (Int32.ofInt 0), .int (Int32.ofInt 0), .null, .null]), gAr (EM e) 365 (fun _ => 0)]) (N2 := 8) (sl2 := 8045) rfl rfl rfl ?_
  refine k_aload_n C dX11_init_61 rfl ?_
  refine k_sipush C dX11_init_62 ?_
  refine k_newa (k := 8) (i := 0) (L := 225) C dX11_init_65 ac_int rfl rfl (by omega) (by decide) (Or.inr ⟨gF_a0 (E := EM e) (σ := s0M) tM_ok (k := 8) (i := 0) rfl (Nat.le_of_ble_eq_true rfl) rfl (fun _ => rfl), ?_⟩)
  refine k_putF (j0 := 0) C dX11_init_67 ff_X11_32 rfl rfl rfl rfl rfl (Nat.le_of_ble_eq_true rfl) ?_
  refine k_eq (G := G) (pre2 := [.inr (11, [.ref (eo (EM e) + qad (eT (EM e)) 1 0), .ref (eo (EM e) + qad (eT (EM e)) 2 0), .ref (eo (EM e) + qad (eT (EM e)) 3 0), .ref (eo (EM e) + qad (eT (EM e)) 4 0), .int (Int32.ofInt 0), .int (Int32.ofInt 0), .ref (eo (EM e) + qad (eT (EM e)) 5 0), .ref (eo (EM e) + qad (eT (EM e)) 6 0), .ref (eo (EM e) + qad (eT (EM e)) 7 0), .ref (eo (EM e) + qad (eT (EM e)) 8 0), .null, .null, .int (Int32.ofInt 0), .null, .null, .null, .int (Int32.ofInt 0), .int (Int32.ofInt 0), .int (Int32.ofInt 0), .null, .null]), gAr (EM e) 365 (fun _ => 0)]) (N2 := 9) (sl2 := 8270) rfl rfl rfl ?_
  refine k_aload_n C dX11_init_70 rfl ?_
  refine k_bipush C dX11_init_71 ?_
  refine k_newa (k := 9) (i := 0) (L := 8) C dX11_init_73 ac_int rfl rfl (by omega) (by decide) (Or.inr ⟨gF_a0 (E := EM e) (σ := s0M) tM_ok (k := 9) (i := 0) rfl (Nat.le_of_ble_eq_true rfl) rfl (fun _ => rfl), ?_⟩)
  refine k_putF (j0 := 0) C dX11_init_75 ff_X11_35 rfl rfl rfl rfl rfl (Nat.le_of_ble_eq_true rfl) ?_
  refine k_eq (G := G) (pre2 := [.inr (11, [.ref (eo (EM e) + qad (eT (EM e)) 1 0), .ref (eo (EM e) + qad (eT (EM e)) 2 0), .ref (eo (EM e) + qad (eT (EM e)) 3 0), .ref (eo (EM e) + qad (eT (EM e)) 4 0), .int (Int32.ofInt 0), .int (Int32.ofInt 0), .ref (eo (EM e) + qad (eT (EM e)) 5 0), .ref (eo (EM e) + qad (eT (EM e)) 6 0), .ref (eo (EM e) + qad (eT (EM e)) 7 0), .ref (eo (EM e) + qad (eT (EM e)) 8 0), .ref (eo (EM e) + qad (eT (EM e)) 9 0), .null, .int (Int32.ofInt 0), .null, .null, .null, .int (Int32.ofInt 0), .int (Int32.ofInt 0), .int (Int32.ofInt 0), .null, .null]), gAr (EM e) 365 (fun _ => 0)]) (N2 := 10) (sl2 := 8278) rfl rfl rfl ?_
  refine k_aload_n C dX11_init_78 rfl ?_
  refine k_bipush C dX11_init_79 ?_
  refine k_newa (k := 10) (i := 0) (L := 8) C dX11_init_81 ac_int rfl rfl (by omega) (by decide) (Or.inr ⟨gF_a0 (E := EM e) (σ := s0M) tM_ok (k := 10) (i := 0) rfl (Nat.le_of_ble_eq_true rfl) rfl (fun _ => rfl), ?_⟩)
  refine k_putF (j0 := 0) C dX11_init_83 ff_X11_38 rfl rfl rfl rfl rfl (Nat.le_of_ble_eq_true rfl) ?_
  refine k_eq (G := G) (pre2 := [.inr (11, [.ref (eo (EM e) + qad (eT (EM e)) 1 0), .ref (eo (EM e) + qad (eT (EM e)) 2 0), .ref (eo (EM e) + qad (eT (EM e)) 3 0), .ref (eo (EM e) + qad (eT (EM e)) 4 0), .int (Int32.ofInt 0), .int (Int32.ofInt 0), .ref (eo (EM e) + qad (eT (EM e)) 5 0), .ref (eo (EM e) + qad (eT (EM e)) 6 0), .ref (eo (EM e) + qad (eT (EM e)) 7 0), .ref (eo (EM e) + qad (eT (EM e)) 8 0), .ref (eo (EM e) + qad (eT (EM e)) 9 0), .ref (eo (EM e) + qad (eT (EM e)) 10 0), .int (Int32.ofInt 0), .null, .null, .null, .int (Int32.ofInt 0), .int (Int32.ofInt 0), .int (Int32.ofInt 0), .null, .null]), gAr (EM e) 365 (fun _ => 0)]) (N2 := 11) (sl2 := 8286) rfl rfl rfl ?_
  refine k_aload_n C dX11_init_86 rfl ?_
  refine k_bipush C dX11_init_87 ?_
  refine k_newa (k := 11) (i := 0) (L := 7) C dX11_init_89 ac_int rfl rfl (by omega) (by decide) (Or.inr ⟨gF_a0 (E := EM e) (σ := s0M) tM_ok (k := 11) (i := 0) rfl (Nat.le_of_ble_eq_true rfl) rfl (fun _ => rfl), ?_⟩)
  refine k_putF (j0 := 0) C dX11_init_91 ff_X11_41 rfl rfl rfl rfl rfl (Nat.le_of_ble_eq_true rfl) ?_
  refine k_eq (G := G) (pre2 := [.inr (11, [.ref (eo (EM e) + qad (eT (EM e)) 1 0), .ref (eo (EM e) + qad (eT (EM e)) 2 0), .ref (eo (EM e) + qad (eT (EM e)) 3 0), .ref (eo (EM e) + qad (eT (EM e)) 4 0), .int (Int32.ofInt 0), .int (Int32.ofInt 0), .ref (eo (EM e) + qad (eT (EM e)) 5 0), .ref (eo (EM e) + qad (eT (EM e)) 6 0), .ref (eo (EM e) + qad (eT (EM e)) 7 0), .ref (eo (EM e) + qad (eT (EM e)) 8 0), .ref (eo (EM e) + qad (eT (EM e)) 9 0), .ref (eo (EM e) + qad (eT (EM e)) 10 0), .int (Int32.ofInt 0), .ref (eo (EM e) + qad (eT (EM e)) 11 0), .null, .null, .int (Int32.ofInt 0), .int (Int32.ofInt 0), .int (Int32.ofInt 0), .null, .null]), gAr (EM e) 365 (fun _ => 0)]) (N2 := 12) (sl2 := 8293) rfl rfl rfl ?_
  refine k_aload_n C dX11_init_94 rfl ?_
  refine k_bipush C dX11_init_95 ?_
  refine k_newa (k := 12) (i := 0) (L := 7) C dX11_init_97 ac_int rfl rfl (by omega) (by decide) (Or.inr ⟨gF_a0 (E := EM e) (σ := s0M) tM_ok (k := 12) (i := 0) rfl (Nat.le_of_ble_eq_true rfl) rfl (fun _ => rfl), ?_⟩)
  refine k_putF (j0 := 0) C dX11_init_99 ff_X11_44 rfl rfl rfl rfl rfl (Nat.le_of_ble_eq_true rfl) ?_
  refine k_eq (G := G) (pre2 := [.inr (11, [.ref (eo (EM e) + qad (eT (EM e)) 1 0), .ref (eo (EM e) + qad (eT (EM e)) 2 0), .ref (eo (EM e) + qad (eT (EM e)) 3 0), .ref (eo (EM e) + qad (eT (EM e)) 4 0), .int (Int32.ofInt 0), .int (Int32.ofInt 0), .ref (eo (EM e) + qad (eT (EM e)) 5 0), .ref (eo (EM e) + qad (eT (EM e)) 6 0), .ref (eo (EM e) + qad (eT (EM e)) 7 0), .ref (eo (EM e) + qad (eT (EM e)) 8 0), .ref (eo (EM e) + qad (eT (EM e)) 9 0), .ref (eo (EM e) + qad (eT (EM e)) 10 0), .int (Int32.ofInt 0), .ref (eo (EM e) + qad (eT (EM e)) 11 0), .ref (eo (EM e) + qad (eT (EM e)) 12 0), .null, .int (Int32.ofInt 0), .int (Int32.ofInt 0), .int (Int32.ofInt 0), .null, .null]), gAr (EM e) 365 (fun _ => 0)]) (N2 := 13) (sl2 := 8300) rfl rfl rfl ?_
  refine k_aload_n C dX11_init_102 rfl ?_
  refine k_bipush C dX11_init_103 ?_
  refine k_newa (k := 13) (i := 0) (L := 7) C dX11_init_105 ac_int rfl rfl (by omega) (by decide) (Or.inr ⟨gF_a0 (E := EM e) (σ := s0M) tM_ok (k := 13) (i := 0) rfl (Nat.le_of_ble_eq_true rfl) rfl (fun _ => rfl), ?_⟩)
  refine k_putF (j0 := 0) C dX11_init_107 ff_X11_47 rfl rfl rfl rfl rfl (Nat.le_of_ble_eq_true rfl) ?_
  refine k_eq (G := G) (pre2 := [.inr (11, [.ref (eo (EM e) + qad (eT (EM e)) 1 0), .ref (eo (EM e) + qad (eT (EM e)) 2 0), .ref (eo (EM e) + qad (eT (EM e)) 3 0), .ref (eo (EM e) + qad (eT (EM e)) 4 0), .int (Int32.ofInt 0), .int (Int32.ofInt 0), .ref (eo (EM e) + qad (eT (EM e)) 5 0), .ref (eo (EM e) + qad (eT (EM e)) 6 0), .ref (eo (EM e) + qad (eT (EM e)) 7 0), .ref (eo (EM e) + qad (eT (EM e)) 8 0), .ref (eo (EM e) + qad (eT (EM e)) 9 0), .ref (eo (EM e) + qad (eT (EM e)) 10 0), .int (Int32.ofInt 0), .ref (eo (EM e) + qad (eT (EM e)) 11 0), .ref (eo (EM e) + qad (eT (EM e)) 12 0), .ref (eo (EM e) + qad (eT (EM e)) 13 0), .int (Int32.ofInt 0), .int (Int32.ofInt 0), .int (Int32.ofInt 0), .null, .null]), gAr (EM e) 365 (fun _ => 0)]) (N2 := 14) (sl2 := 8307) rfl rfl rfl ?_
  refine k_aload_n C dX11_init_110 rfl ?_
  refine k_sipush C dX11_init_111 ?_
  refine k_newa (k := 14) (i := 0) (L := 625) C dX11_init_114 ac_int rfl rfl (by omega) (by decide) (Or.inr ⟨gF_a0 (E := EM e) (σ := s0M) tM_ok (k := 14) (i := 0) rfl (Nat.le_of_ble_eq_true rfl) rfl (fun _ => rfl), ?_⟩)
  refine k_putF (j0 := 0) C dX11_init_116 ff_X11_50 rfl rfl rfl rfl rfl (Nat.le_of_ble_eq_true rfl) ?_
  refine k_eq (G := G) (pre2 := [.inr (11, [.ref (eo (EM e) + qad (eT (EM e)) 1 0), .ref (eo (EM e) + qad (eT (EM e)) 2 0), .ref (eo (EM e) + qad (eT (EM e)) 3 0), .ref (eo (EM e) + qad (eT (EM e)) 4 0), .int (Int32.ofInt 0), .int (Int32.ofInt 0), .ref (eo (EM e) + qad (eT (EM e)) 5 0), .ref (eo (EM e) + qad (eT (EM e)) 6 0), .ref (eo (EM e) + qad (eT (EM e)) 7 0), .ref (eo (EM e) + qad (eT (EM e)) 8 0), .ref (eo (EM e) + qad (eT (EM e)) 9 0), .ref (eo (EM e) + qad (eT (EM e)) 10 0), .int (Int32.ofInt 0), .ref (eo (EM e) + qad (eT (EM e)) 11 0), .ref (eo (EM e) + qad (eT (EM e)) 12 0), .ref (eo (EM e) + qad (eT (EM e)) 13 0), .int (Int32.ofInt 0), .int (Int32.ofInt 0), .int (Int32.ofInt 0), .ref (eo (EM e) + qad (eT (EM e)) 14 0), .null]), gAr (EM e) 365 (fun _ => 0)]) (N2 := 15) (sl2 := 8932) rfl rfl rfl ?_
  refine k_aload_n C dX11_init_119 rfl ?_
  refine k_bipush C dX11_init_120 ?_
  refine k_newa (k := 15) (i := 0) (L := 30) C dX11_init_122 ac_int rfl rfl (by omega) (by decide) (Or.inr ⟨gF_a0 (E := EM e) (σ := s0M) tM_ok (k := 15) (i := 0) rfl (Nat.le_of_ble_eq_true rfl) rfl (fun _ => rfl), ?_⟩)
  refine k_putF (j0 := 0) C dX11_init_124 ff_X11_53 rfl rfl rfl rfl rfl (Nat.le_of_ble_eq_true rfl) ?_
  refine k_eq (G := G) (pre2 := [.inr (11, [.ref (eo (EM e) + qad (eT (EM e)) 1 0), .ref (eo (EM e) + qad (eT (EM e)) 2 0), .ref (eo (EM e) + qad (eT (EM e)) 3 0), .ref (eo (EM e) + qad (eT (EM e)) 4 0), .int (Int32.ofInt 0), .int (Int32.ofInt 0), .ref (eo (EM e) + qad (eT (EM e)) 5 0), .ref (eo (EM e) + qad (eT (EM e)) 6 0), .ref (eo (EM e) + qad (eT (EM e)) 7 0), .ref (eo (EM e) + qad (eT (EM e)) 8 0), .ref (eo (EM e) + qad (eT (EM e)) 9 0), .ref (eo (EM e) + qad (eT (EM e)) 10 0), .int (Int32.ofInt 0), .ref (eo (EM e) + qad (eT (EM e)) 11 0), .ref (eo (EM e) + qad (eT (EM e)) 12 0), .ref (eo (EM e) + qad (eT (EM e)) 13 0), .int (Int32.ofInt 0), .int (Int32.ofInt 0), .int (Int32.ofInt 0), .ref (eo (EM e) + qad (eT (EM e)) 14 0), .ref (eo (EM e) + qad (eT (EM e)) 15 0)]), gAr (EM e) 365 (fun _ => 0)]) (N2 := 16) (sl2 := 8962) rfl rfl rfl ?_
  refine k_iconst C dX11_init_127 ?_
  refine k_istore_n C dX11_init_128 rfl rfl (by decide) ?_
  refine kf_X11_129 e l C rfl rfl (Nat.le_of_ble_eq_true rfl) rfl ?_
  refine k_eq (G := G) (pre2 := [.inr (11, [.ref (eo (EM e) + qad (eT (EM e)) 1 0), .ref (eo (EM e) + qad (eT (EM e)) 2 0), .ref (eo (EM e) + qad (eT (EM e)) 3 0), .ref (eo (EM e) + qad (eT (EM e)) 4 0), .int (Int32.ofInt 0), .int (Int32.ofInt 0), .ref (eo (EM e) + qad (eT (EM e)) 5 0), .ref (eo (EM e) + qad (eT (EM e)) 6 0), .ref (eo (EM e) + qad (eT (EM e)) 7 0), .ref (eo (EM e) + qad (eT (EM e)) 8 0), .ref (eo (EM e) + qad (eT (EM e)) 9 0), .ref (eo (EM e) + qad (eT (EM e)) 10 0), .int (Int32.ofInt 0), .ref (eo (EM e) + qad (eT (EM e)) 11 0), .ref (eo (EM e) + qad (eT (EM e)) 12 0), .ref (eo (EM e) + qad (eT (EM e)) 13 0), .int (Int32.ofInt 0), .int (Int32.ofInt 0), .int (Int32.ofInt 0), .ref (eo (EM e) + qad (eT (EM e)) 14 0), .ref (eo (EM e) + qad (eT (EM e)) 15 0)]), gAr (EM e) 365 (fillF (fun _ => 0) 308 32 (-1))]) (N2 := 16) (sl2 := 8962) rfl rfl rfl ?_
  refine k_iconst C dX11_init_152 ?_
  refine k_istore_n C dX11_init_153 rfl rfl (by decide) ?_
  refine kf_X11_154 e l C rfl rfl (Nat.le_of_ble_eq_true rfl) rfl ?_
  refine k_eq (G := G) (pre2 := [.inr (11, [.ref (eo (EM e) + qad (eT (EM e)) 1 0), .ref (eo (EM e) + qad (eT (EM e)) 2 0), .ref (eo (EM e) + qad (eT (EM e)) 3 0), .ref (eo (EM e) + qad (eT (EM e)) 4 0), .int (Int32.ofInt 0), .int (Int32.ofInt 0), .ref (eo (EM e) + qad (eT (EM e)) 5 0), .ref (eo (EM e) + qad (eT (EM e)) 6 0), .ref (eo (EM e) + qad (eT (EM e)) 7 0), .ref (eo (EM e) + qad (eT (EM e)) 8 0), .ref (eo (EM e) + qad (eT (EM e)) 9 0), .ref (eo (EM e) + qad (eT (EM e)) 10 0), .int (Int32.ofInt 0), .ref (eo (EM e) + qad (eT (EM e)) 11 0), .ref (eo (EM e) + qad (eT (EM e)) 12 0), .ref (eo (EM e) + qad (eT (EM e)) 13 0), .int (Int32.ofInt 0), .int (Int32.ofInt 0), .int (Int32.ofInt 0), .ref (eo (EM e) + qad (eT (EM e)) 14 0), .ref (eo (EM e) + qad (eT (EM e)) 15 0)]), gAr (EM e) 365 (fillF (fillF (fun _ => 0) 308 32 (-1)) 340 6 (-1))]) (N2 := 16) (sl2 := 8962) rfl rfl rfl ?_
  refine k_iconst C dX11_init_177 ?_
  refine k_istore_n C dX11_init_178 rfl rfl (by decide) ?_
  refine kf_X11_179 e l C rfl rfl (Nat.le_of_ble_eq_true rfl) rfl ?_
  refine k_eq (G := G) (pre2 := [.inr (11, [.ref (eo (EM e) + qad (eT (EM e)) 1 0), .ref (eo (EM e) + qad (eT (EM e)) 2 0), .ref (eo (EM e) + qad (eT (EM e)) 3 0), .ref (eo (EM e) + qad (eT (EM e)) 4 0), .int (Int32.ofInt 0), .int (Int32.ofInt 0), .ref (eo (EM e) + qad (eT (EM e)) 5 0), .ref (eo (EM e) + qad (eT (EM e)) 6 0), .ref (eo (EM e) + qad (eT (EM e)) 7 0), .ref (eo (EM e) + qad (eT (EM e)) 8 0), .ref (eo (EM e) + qad (eT (EM e)) 9 0), .ref (eo (EM e) + qad (eT (EM e)) 10 0), .int (Int32.ofInt 0), .ref (eo (EM e) + qad (eT (EM e)) 11 0), .ref (eo (EM e) + qad (eT (EM e)) 12 0), .ref (eo (EM e) + qad (eT (EM e)) 13 0), .int (Int32.ofInt 0), .int (Int32.ofInt 0), .int (Int32.ofInt 0), .ref (eo (EM e) + qad (eT (EM e)) 14 0), .ref (eo (EM e) + qad (eT (EM e)) 15 0)]), gAr (EM e) 365 (fillF (fillF (fillF (fun _ => 0) 308 32 (-1)) 340 6 (-1)) 346 8 15)]) (N2 := 16) (sl2 := 8962) rfl rfl rfl ?_
  refine k_iconst C dX11_init_203 ?_
  refine k_istore_n C dX11_init_204 rfl rfl (by decide) ?_
  refine kf_X11_205 e l C rfl rfl (Nat.le_of_ble_eq_true rfl) rfl ?_
  refine k_eq (G := G) (pre2 := [.inr (11, [.ref (eo (EM e) + qad (eT (EM e)) 1 0), .ref (eo (EM e) + qad (eT (EM e)) 2 0), .ref (eo (EM e) + qad (eT (EM e)) 3 0), .ref (eo (EM e) + qad (eT (EM e)) 4 0), .int (Int32.ofInt 0), .int (Int32.ofInt 0), .ref (eo (EM e) + qad (eT (EM e)) 5 0), .ref (eo (EM e) + qad (eT (EM e)) 6 0), .ref (eo (EM e) + qad (eT (EM e)) 7 0), .ref (eo (EM e) + qad (eT (EM e)) 8 0), .ref (eo (EM e) + qad (eT (EM e)) 9 0), .ref (eo (EM e) + qad (eT (EM e)) 10 0), .int (Int32.ofInt 0), .ref (eo (EM e) + qad (eT (EM e)) 11 0), .ref (eo (EM e) + qad (eT (EM e)) 12 0), .ref (eo (EM e) + qad (eT (EM e)) 13 0), .int (Int32.ofInt 0), .int (Int32.ofInt 0), .int (Int32.ofInt 0), .ref (eo (EM e) + qad (eT (EM e)) 14 0), .ref (eo (EM e) + qad (eT (EM e)) 15 0)]), gAr (EM e) 365 (fillF (fillF (fillF (fillF (fun _ => 0) 308 32 (-1)) 340 6 (-1)) 346 8 15) 354 4 60)]) (N2 := 16) (sl2 := 8962) rfl rfl rfl ?_
  refine k_vret C dX11_init_228 (by omega) (by omega) (by omega) (gEs_ok _ _ ?_)
  exact ⟨gE_eq (gF_ob (E := EM e) (σ := s0M) tM_ok (k := 0) (i := 0) rfl (Nat.le_of_ble_eq_true rfl) rfl).symm, gE_ar (gF_ar (E := EM e) (σ := s0M) tM_ok (k := 1) (i := 0) rfl (Nat.le_of_ble_eq_true rfl) rfl) (fun j hj => by simp only [fillF, s0M, if_true]; repeat (split <;> try omega)), trivial⟩
