/-! constructors: Fit, the class itself -/
set_option maxRecDepth 20000 in
theorem n_X2 (e : qR) (l : Launch) : CK (ED e) l yX2_init cX2_init 1 1 12 250 s0D 23 (.inr (2, gfs_2)) 36 := by
  refine CK.mk (k := 23) (i := 0) tD_ok (by decide +kernel) rfl rfl rfl (by decide) (fun G C => ?_)
  show G [.inr (2, gfs_2)] (23 + 1) 0 0 [some (qr 23 0)] []
  refine k_aload_n C dX2_init_0 rfl ?_
  refine k_oinit C dX2_init_1 oi_X2_3 oi_inst oi_code (qv_ref _ _ _) (by decide) ?_
  refine k_aload_n C dX2_init_4 rfl ?_
  refine k_bipush C dX2_init_5 ?_
  refine k_bipush C dX2_init_7 ?_
  refine k_grid (k := 24) (i := 0) C dX2_init_9 cl_grid ac_int rfl rfl (by omega) (gE_rf (gF_rf (E := ED e) (σ := s0D) tD_ok (k := 24) (i := 0) (ek := 4) rfl (Nat.le_of_ble_eq_true rfl) rfl) (fun j hj => congrArg some (by show _ = eo (ED e) + (25 + 1 * j); omega))) (fun j hj => gF_a0 (E := ED e) (σ := s0D) tD_ok (k := 25) (i := j) (by show 25 + 1 * j = _; omega) (show j < 9 from hj) rfl (fun _ => rfl)) ?_
  refine k_putF (j0 := 0) C dX2_init_13 ff_X2_11 rfl rfl rfl rfl rfl (Nat.le_of_ble_eq_true rfl) ?_
  refine k_aload_n C dX2_init_16 rfl ?_
  refine k_bipush C dX2_init_17 ?_
  refine k_newa (k := 34) (i := 0) (L := 8) C dX2_init_19 ac_int rfl rfl (by omega) (by decide) (Or.inr ⟨gF_a0 (E := ED e) (σ := s0D) tD_ok (k := 34) (i := 0) rfl (Nat.le_of_ble_eq_true rfl) rfl (fun _ => rfl), ?_⟩)
  refine k_putF (j0 := 0) C dX2_init_21 ff_X2_16 rfl rfl rfl rfl rfl (Nat.le_of_ble_eq_true rfl) ?_
  refine k_aload_n C dX2_init_24 rfl ?_
  refine k_bipush C dX2_init_25 ?_
  refine k_newa (k := 35) (i := 0) (L := 8) C dX2_init_27 ac_int rfl rfl (by omega) (by decide) (Or.inr ⟨gF_a0 (E := ED e) (σ := s0D) tD_ok (k := 35) (i := 0) rfl (Nat.le_of_ble_eq_true rfl) rfl (fun _ => rfl), ?_⟩)
  refine k_putF (j0 := 0) C dX2_init_29 ff_X2_20 rfl rfl rfl rfl rfl (Nat.le_of_ble_eq_true rfl) ?_
  refine k_aload_n C dX2_init_32 rfl ?_
  refine k_iconst C dX2_init_33 ?_
  refine k_putI (j0 := 0) C dX2_init_34 fw_X2_23 rfl rfl rfl rfl rfl (Nat.le_of_ble_eq_true rfl) ?_
  refine k_aload_n C dX2_init_37 rfl ?_
  refine k_iconst C dX2_init_38 ?_
  refine k_putI (j0 := 0) C dX2_init_39 fw_X2_27 rfl rfl rfl rfl rfl (Nat.le_of_ble_eq_true rfl) ?_
  refine k_vret C dX2_init_42 (by omega) (by omega) (by omega) (gEs_ok _ _ ?_)
  exact ⟨gE_eq (gF_ob (E := ED e) (σ := s0D) tD_ok (k := 23) (i := 0) rfl (Nat.le_of_ble_eq_true rfl) rfl).symm, trivial⟩
set_option maxRecDepth 20000 in
theorem kl_X10_121 {G : List va_E → Nat → Nat → Nat → List (Option qV) → List qV → Prop} (e : qR) (l : Launch) {pre : List va_E} {fs : List Value} (C : Kx (ED e) l RX10 cX10_init 2 3 212 2482 s0D 0 213 G) (hp0 : pre[0]? = some (.inr (10, fs))) (hfs : fs[0]? = some (.ref (eo (ED e) + qad (eT (ED e)) 1 0))) (hlen : pre.length = 4) (hN : G (pre.set 1 (gRf (ED e) 2 12 (rfF (ED e) 81 12))) 105 1550 146 [some (qr 0 0), some (qi 12)] []) : ∀ (kk m : Nat), m + kk = 12 → G (pre.set 1 (gRf (ED e) 2 12 (rfF (ED e) 81 m))) (81 + 2 * m) (1226 + 27 * m) 121 [some (qr 0 0), some (qi (m : Int))] [] := by
  intro kk
  induction kk with
  | zero =>
    intro m hm
    refine k_iload_n C dX10_init_121 rfl ?_
    refine k_bipush C dX10_init_122 ?_
    refine k_ic_ge 146 C dX10_init_124 (by decide) (by omega) (by omega) (fun h => ?_) (fun h => ?_)
    · rw [show m = 12 by omega]
      exact hN
    · exfalso; omega
  | succ kk ih =>
    intro m hm
    refine k_iload_n C dX10_init_121 rfl ?_
    refine k_bipush C dX10_init_122 ?_
    refine k_ic_ge 146 C dX10_init_124 (by decide) (by omega) (by omega) (fun h => ?_) (fun h => ?_)
    · exfalso; omega
    refine k_aload_n C dX10_init_127 rfl ?_
    refine k_get_r (j0 := 0) (k2 := 1) (i2 := 0) C dX10_init_128 fl_X10_11 rfl rfl (by rw [List.getElem?_set_ne (by decide)]; exact hp0) rfl hfs ?_
    refine k_iload_n C dX10_init_131 rfl ?_
    refine k_new (k := 81) (i := (m : Int)) C dX10_init_132 dX10_init_135 dX10_init_136 nw_X10_9 df_5 (n_X5 e l m (by omega)) rfl (by show 81 + 2 * m = _; omega) (by decide) (by omega) (by omega) (Nat.le_of_ble_eq_true rfl) ?_
    refine k_aast (j0 := 1) (jv := (81 + 2 * m)) (L := 12) C dX10_init_139 rfl rfl rfl (by show 81 + 2 * m = _; omega) (List.getElem?_set_self (by omega)) (by rw [List.length_set]; omega) (by omega) (gF_ob (E := ED e) (σ := s0D) tD_ok (k := 81) (i := m) (by show 81 + 2 * m = _; omega) (show m < 12 by omega) rfl) rfl rfl (by omega) ?_
    refine k_iinc C dX10_init_140 rfl rfl rfl (by decide) ?_
    refine k_goto 121 C dX10_init_143 (by decide) ?_
    rw [List.set_set, Int.toNat_natCast, rfF_s (E := ED e) (tk := 81) (m := m) (by show 81 + 2 * m = _; omega)]
    have h := ih (m + 1) (by omega)
    rw [show 81 + 2 * (m + 1) = 81 + 2 * m + 2 by omega, show 1226 + 27 * (m + 1) = 1226 + 27 * m + 27 by omega] at h
    exact h
theorem kf_X10_121 {G : List va_E → Nat → Nat → Nat → List (Option qV) → List qV → Prop} (e : qR) (l : Launch) {pre : List va_E} {fs : List Value} (C : Kx (ED e) l RX10 cX10_init 2 3 212 2482 s0D 0 213 G) (hp0 : pre[0]? = some (.inr (10, fs))) (hfs : fs[0]? = some (.ref (eo (ED e) + qad (eT (ED e)) 1 0))) (hlen : pre.length = 4) (hpj : pre[1]? = some (gRf (ED e) 2 12 (fun _ => none))) (hN : G (pre.set 1 (gRf (ED e) 2 12 (rfF (ED e) 81 12))) 105 1550 146 [some (qr 0 0), some (qi 12)] []) : G pre 81 1226 121 [some (qr 0 0), some (qi 0)] [] := by
  have h := kl_X10_121 e l C hp0 hfs hlen hN 12 0 (by omega)
  rw [rfF_0, set_same hpj] at h
  exact h
set_option maxRecDepth 20000 in
theorem kl_X10_148 {G : List va_E → Nat → Nat → Nat → List (Option qV) → List qV → Prop} (e : qR) (l : Launch) {pre : List va_E} {fs : List Value} (C : Kx (ED e) l RX10 cX10_init 2 3 212 2482 s0D 0 213 G) (hp0 : pre[0]? = some (.inr (10, fs))) (hfs : fs[1]? = some (.ref (eo (ED e) + qad (eT (ED e)) 2 0))) (hlen : pre.length = 4) (hN : G (pre.set 2 (gRf (ED e) 3 20 (rfF (ED e) 105 20))) 205 2350 173 [some (qr 0 0), some (qi 20)] []) : ∀ (kk m : Nat), m + kk = 20 → G (pre.set 2 (gRf (ED e) 3 20 (rfF (ED e) 105 m))) (105 + 5 * m) (1550 + 40 * m) 148 [some (qr 0 0), some (qi (m : Int))] [] := by
  intro kk
  induction kk with
  | zero =>
    intro m hm
    refine k_iload_n C dX10_init_148 rfl ?_
    refine k_bipush C dX10_init_149 ?_
    refine k_ic_ge 173 C dX10_init_151 (by decide) (by omega) (by omega) (fun h => ?_) (fun h => ?_)
    · rw [show m = 20 by omega]
      exact hN
    · exfalso; omega
  | succ kk ih =>
    intro m hm
    refine k_iload_n C dX10_init_148 rfl ?_
    refine k_bipush C dX10_init_149 ?_
    refine k_ic_ge 173 C dX10_init_151 (by decide) (by omega) (by omega) (fun h => ?_) (fun h => ?_)
    · exfalso; omega
    refine k_aload_n C dX10_init_154 rfl ?_
    refine k_get_r (j0 := 0) (k2 := 2) (i2 := 0) C dX10_init_155 fl_X10_17 rfl rfl (by rw [List.getElem?_set_ne (by decide)]; exact hp0) rfl hfs ?_
    refine k_iload_n C dX10_init_158 rfl ?_
    refine k_new (k := 105) (i := (m : Int)) C dX10_init_159 dX10_init_162 dX10_init_163 nw_X10_15 df_9 (n_X9 e l m (by omega)) rfl (by show 105 + 5 * m = _; omega) (by decide) (by omega) (by omega) (Nat.le_of_ble_eq_true rfl) ?_
    refine k_aast (j0 := 2) (jv := (105 + 5 * m)) (L := 20) C dX10_init_166 rfl rfl rfl (by show 105 + 5 * m = _; omega) (List.getElem?_set_self (by omega)) (by rw [List.length_set]; omega) (by omega) (gF_ob (E := ED e) (σ := s0D) tD_ok (k := 105) (i := m) (by show 105 + 5 * m = _; omega) (show m < 20 by omega) rfl) rfl rfl (by omega) ?_
    refine k_iinc C dX10_init_167 rfl rfl rfl (by decide) ?_
    refine k_goto 148 C dX10_init_170 (by decide) ?_
    rw [List.set_set, Int.toNat_natCast, rfF_s (E := ED e) (tk := 105) (m := m) (by show 105 + 5 * m = _; omega)]
    have h := ih (m + 1) (by omega)
    rw [show 105 + 5 * (m + 1) = 105 + 5 * m + 5 by omega, show 1550 + 40 * (m + 1) = 1550 + 40 * m + 40 by omega] at h
    exact h
theorem kf_X10_148 {G : List va_E → Nat → Nat → Nat → List (Option qV) → List qV → Prop} (e : qR) (l : Launch) {pre : List va_E} {fs : List Value} (C : Kx (ED e) l RX10 cX10_init 2 3 212 2482 s0D 0 213 G) (hp0 : pre[0]? = some (.inr (10, fs))) (hfs : fs[1]? = some (.ref (eo (ED e) + qad (eT (ED e)) 2 0))) (hlen : pre.length = 4) (hpj : pre[2]? = some (gRf (ED e) 3 20 (fun _ => none))) (hN : G (pre.set 2 (gRf (ED e) 3 20 (rfF (ED e) 105 20))) 205 2350 173 [some (qr 0 0), some (qi 20)] []) : G pre 105 1550 148 [some (qr 0 0), some (qi 0)] [] := by
  have h := kl_X10_148 e l C hp0 hfs hlen hN 20 0 (by omega)
  rw [rfF_0, set_same hpj] at h
  exact h
set_option maxRecDepth 20000 in
theorem kl_X10_175 {G : List va_E → Nat → Nat → Nat → List (Option qV) → List qV → Prop} (e : qR) (l : Launch) {pre : List va_E} {fs : List Value} (C : Kx (ED e) l RX10 cX10_init 2 3 212 2482 s0D 0 213 G) (hp0 : pre[0]? = some (.inr (10, fs))) (hfs : fs[2]? = some (.ref (eo (ED e) + qad (eT (ED e)) 3 0))) (hlen : pre.length = 4) (hN : G (pre.set 3 (gRf (ED e) 4 4 (rfF (ED e) 205 4))) 213 2482 199 [some (qr 0 0), some (qi 4)] []) : ∀ (kk m : Nat), m + kk = 4 → G (pre.set 3 (gRf (ED e) 4 4 (rfF (ED e) 205 m))) (205 + 2 * m) (2350 + 33 * m) 175 [some (qr 0 0), some (qi (m : Int))] [] := by
  intro kk
  induction kk with
  | zero =>
    intro m hm
    refine k_iload_n C dX10_init_175 rfl ?_
    refine k_iconst C dX10_init_176 ?_
    refine k_ic_ge 199 C dX10_init_177 (by decide) (by omega) (by omega) (fun h => ?_) (fun h => ?_)
    · rw [show m = 4 by omega]
      exact hN
    · exfalso; omega
  | succ kk ih =>
    intro m hm
    refine k_iload_n C dX10_init_175 rfl ?_
    refine k_iconst C dX10_init_176 ?_
    refine k_ic_ge 199 C dX10_init_177 (by decide) (by omega) (by omega) (fun h => ?_) (fun h => ?_)
    · exfalso; omega
    refine k_aload_n C dX10_init_180 rfl ?_
    refine k_get_r (j0 := 0) (k2 := 3) (i2 := 0) C dX10_init_181 fl_X10_23 rfl rfl (by rw [List.getElem?_set_ne (by decide)]; exact hp0) rfl hfs ?_
    refine k_iload_n C dX10_init_184 rfl ?_
    refine k_new (k := 205) (i := (m : Int)) C dX10_init_185 dX10_init_188 dX10_init_189 nw_X10_21 df_8 (n_X8 e l m (by omega)) rfl (by show 205 + 2 * m = _; omega) (by decide) (by omega) (by omega) (Nat.le_of_ble_eq_true rfl) ?_
    refine k_aast (j0 := 3) (jv := (205 + 2 * m)) (L := 4) C dX10_init_192 rfl rfl rfl (by show 205 + 2 * m = _; omega) (List.getElem?_set_self (by omega)) (by rw [List.length_set]; omega) (by omega) (gF_ob (E := ED e) (σ := s0D) tD_ok (k := 205) (i := m) (by show 205 + 2 * m = _; omega) (show m < 4 by omega) rfl) rfl rfl (by omega) ?_
    refine k_iinc C dX10_init_193 rfl rfl rfl (by decide) ?_
    refine k_goto 175 C dX10_init_196 (by decide) ?_
    rw [List.set_set, Int.toNat_natCast, rfF_s (E := ED e) (tk := 205) (m := m) (by show 205 + 2 * m = _; omega)]
    have h := ih (m + 1) (by omega)
    rw [show 205 + 2 * (m + 1) = 205 + 2 * m + 2 by omega, show 2350 + 33 * (m + 1) = 2350 + 33 * m + 33 by omega] at h
    exact h
theorem kf_X10_175 {G : List va_E → Nat → Nat → Nat → List (Option qV) → List qV → Prop} (e : qR) (l : Launch) {pre : List va_E} {fs : List Value} (C : Kx (ED e) l RX10 cX10_init 2 3 212 2482 s0D 0 213 G) (hp0 : pre[0]? = some (.inr (10, fs))) (hfs : fs[2]? = some (.ref (eo (ED e) + qad (eT (ED e)) 3 0))) (hlen : pre.length = 4) (hpj : pre[3]? = some (gRf (ED e) 4 4 (fun _ => none))) (hN : G (pre.set 3 (gRf (ED e) 4 4 (rfF (ED e) 205 4))) 213 2482 199 [some (qr 0 0), some (qi 4)] []) : G pre 205 2350 175 [some (qr 0 0), some (qi 0)] [] := by
  have h := kl_X10_175 e l C hp0 hfs hlen hN 4 0 (by omega)
  rw [rfF_0, set_same hpj] at h
  exact h
set_option maxRecDepth 20000 in
theorem n_X10 (e : qR) (l : Launch) : CK (ED e) l yX10_init cX10_init 2 3 212 2482 s0D 0 (.inr (10, gfs_10)) 213 := by
  refine CK.mk (k := 0) (i := 0) tD_ok (by decide +kernel) rfl rfl rfl (by decide) (fun G C => ?_)
  show G [.inr (10, gfs_10)] (0 + 1) 0 0 [some (qr 0 0), none] []
  refine k_eq (G := G) (pre2 := [.inr (10, [.null, .null, .null, .null, .null, .null, .null, .null, .null, .null, .int (Int32.ofInt 0), .int (Int32.ofInt 0), .int (Int32.ofInt 0)])]) (N2 := 1) (sl2 := 0) rfl rfl rfl ?_
  refine k_aload_n C dX10_init_0 rfl ?_
  refine k_oinit C dX10_init_1 oi_X10_1 oi_inst oi_code (qv_ref _ _ _) (by decide) ?_
  refine k_aload_n C dX10_init_4 rfl ?_
  refine k_bipush C dX10_init_5 ?_
  refine k_anew (k := 1) (i := 0) (L := 12) (ek := 2) C dX10_init_7 cl_X10_9 (fun U h => h.2.1.1) rfl rfl rfl (by omega) (by decide) rfl ?_
  refine k_putF (j0 := 0) C dX10_init_10 ff_X10_11 rfl rfl rfl rfl rfl (Nat.le_of_ble_eq_true rfl) ?_
  refine k_eq (G := G) (pre2 := [.inr (10, [.ref (eo (ED e) + qad (eT (ED e)) 1 0), .null, .null, .null, .null, .null, .null, .null, .null, .null, .int (Int32.ofInt 0), .int (Int32.ofInt 0), .int (Int32.ofInt 0)]), gRf (ED e) 2 12 (fun _ => none)]) (N2 := 2) (sl2 := 12) rfl rfl rfl ?_
  refine k_aload_n C dX10_init_13 rfl ?_
  refine k_bipush C dX10_init_14 ?_
  refine k_anew (k := 2) (i := 0) (L := 20) (ek := 3) C dX10_init_16 cl_X10_15 (fun U h => h.2.1.2.1) rfl rfl rfl (by omega) (by decide) rfl ?_
  refine k_putF (j0 := 0) C dX10_init_19 ff_X10_17 rfl rfl rfl rfl rfl (Nat.le_of_ble_eq_true rfl) ?_
  refine k_eq (G := G) (pre2 := [.inr (10, [.ref (eo (ED e) + qad (eT (ED e)) 1 0), .ref (eo (ED e) + qad (eT (ED e)) 2 0), .null, .null, .null, .null, .null, .null, .null, .null, .int (Int32.ofInt 0), .int (Int32.ofInt 0), .int (Int32.ofInt 0)]), gRf (ED e) 2 12 (fun _ => none), gRf (ED e) 3 20 (fun _ => none)]) (N2 := 3) (sl2 := 32) rfl rfl rfl ?_
  refine k_aload_n C dX10_init_22 rfl ?_
  refine k_iconst C dX10_init_23 ?_
  refine k_anew (k := 3) (i := 0) (L := 4) (ek := 4) C dX10_init_24 cl_X10_21 (fun U h => h.2.1.2.2.1) rfl rfl rfl (by omega) (by decide) rfl ?_
  refine k_putF (j0 := 0) C dX10_init_27 ff_X10_23 rfl rfl rfl rfl rfl (Nat.le_of_ble_eq_true rfl) ?_
  refine k_eq (G := G) (pre2 := [.inr (10, [.ref (eo (ED e) + qad (eT (ED e)) 1 0), .ref (eo (ED e) + qad (eT (ED e)) 2 0), .ref (eo (ED e) + qad (eT (ED e)) 3 0), .null, .null, .null, .null, .null, .null, .null, .int (Int32.ofInt 0), .int (Int32.ofInt 0), .int (Int32.ofInt 0)]), gRf (ED e) 2 12 (fun _ => none), gRf (ED e) 3 20 (fun _ => none), gRf (ED e) 4 4 (fun _ => none)]) (N2 := 4) (sl2 := 36) rfl rfl rfl ?_
  refine k_aload_n C dX10_init_30 rfl ?_
  refine k_new (k := 4) (i := 0) C dX10_init_31 dX10_init_34 dX10_init_35 nw_X10_27 df_4 (n_X4 e l) rfl rfl (by decide) rfl (by omega) (Nat.le_of_ble_eq_true rfl) ?_
  refine k_putF (j0 := 0) C dX10_init_38 ff_X10_30 rfl rfl rfl rfl rfl (Nat.le_of_ble_eq_true rfl) ?_
  refine k_eq (G := G) (pre2 := [.inr (10, [.ref (eo (ED e) + qad (eT (ED e)) 1 0), .ref (eo (ED e) + qad (eT (ED e)) 2 0), .ref (eo (ED e) + qad (eT (ED e)) 3 0), .ref (eo (ED e) + qad (eT (ED e)) 4 0), .null, .null, .null, .null, .null, .null, .int (Int32.ofInt 0), .int (Int32.ofInt 0), .int (Int32.ofInt 0)]), gRf (ED e) 2 12 (fun _ => none), gRf (ED e) 3 20 (fun _ => none), gRf (ED e) 4 4 (fun _ => none)]) (N2 := 10) (sl2 := 234) rfl rfl rfl ?_
  refine k_aload_n C dX10_init_41 rfl ?_
  refine k_new (k := 10) (i := 0) C dX10_init_42 dX10_init_45 dX10_init_46 nw_X10_34 df_1 (n_X1 e l) rfl rfl (by decide) rfl (by omega) (Nat.le_of_ble_eq_true rfl) ?_
  refine k_putF (j0 := 0) C dX10_init_49 ff_X10_37 rfl rfl rfl rfl rfl (Nat.le_of_ble_eq_true rfl) ?_
  refine k_eq (G := G) (pre2 := [.inr (10, [.ref (eo (ED e) + qad (eT (ED e)) 1 0), .ref (eo (ED e) + qad (eT (ED e)) 2 0), .ref (eo (ED e) + qad (eT (ED e)) 3 0), .ref (eo (ED e) + qad (eT (ED e)) 4 0), .ref (eo (ED e) + qad (eT (ED e)) 10 0), .null, .null, .null, .null, .null, .int (Int32.ofInt 0), .int (Int32.ofInt 0), .int (Int32.ofInt 0)]), gRf (ED e) 2 12 (fun _ => none), gRf (ED e) 3 20 (fun _ => none), gRf (ED e) 4 4 (fun _ => none)]) (N2 := 15) (sl2 := 264) rfl rfl rfl ?_
  refine k_aload_n C dX10_init_52 rfl ?_
  refine k_new (k := 15) (i := 0) C dX10_init_53 dX10_init_56 dX10_init_57 nw_X10_41 df_7 (n_X7 e l) rfl rfl (by decide) rfl (by omega) (Nat.le_of_ble_eq_true rfl) ?_
  refine k_putF (j0 := 0) C dX10_init_60 ff_X10_44 rfl rfl rfl rfl rfl (Nat.le_of_ble_eq_true rfl) ?_
  refine k_eq (G := G) (pre2 := [.inr (10, [.ref (eo (ED e) + qad (eT (ED e)) 1 0), .ref (eo (ED e) + qad (eT (ED e)) 2 0), .ref (eo (ED e) + qad (eT (ED e)) 3 0), .ref (eo (ED e) + qad (eT (ED e)) 4 0), .ref (eo (ED e) + qad (eT (ED e)) 10 0), .ref (eo (ED e) + qad (eT (ED e)) 15 0), .null, .null, .null, .null, .int (Int32.ofInt 0), .int (Int32.ofInt 0), .int (Int32.ofInt 0)]), gRf (ED e) 2 12 (fun _ => none), gRf (ED e) 3 20 (fun _ => none), gRf (ED e) 4 4 (fun _ => none)]) (N2 := 23) (sl2 := 318) rfl rfl rfl ?_
  refine k_aload_n C dX10_init_63 rfl ?_
  refine k_new (k := 23) (i := 0) C dX10_init_64 dX10_init_67 dX10_init_68 nw_X10_48 df_2 (n_X2 e l) rfl rfl (by decide) rfl (by omega) (Nat.le_of_ble_eq_true rfl) ?_
  refine k_putF (j0 := 0) C dX10_init_71 ff_X10_51 rfl rfl rfl rfl rfl (Nat.le_of_ble_eq_true rfl) ?_
  refine k_eq (G := G) (pre2 := [.inr (10, [.ref (eo (ED e) + qad (eT (ED e)) 1 0), .ref (eo (ED e) + qad (eT (ED e)) 2 0), .ref (eo (ED e) + qad (eT (ED e)) 3 0), .ref (eo (ED e) + qad (eT (ED e)) 4 0), .ref (eo (ED e) + qad (eT (ED e)) 10 0), .ref (eo (ED e) + qad (eT (ED e)) 15 0), .ref (eo (ED e) + qad (eT (ED e)) 23 0), .null, .null, .null, .int (Int32.ofInt 0), .int (Int32.ofInt 0), .int (Int32.ofInt 0)]), gRf (ED e) 2 12 (fun _ => none), gRf (ED e) 3 20 (fun _ => none), gRf (ED e) 4 4 (fun _ => none)]) (N2 := 36) (sl2 := 573) rfl rfl rfl ?_
  refine k_aload_n C dX10_init_74 rfl ?_
  refine k_new (k := 36) (i := 0) C dX10_init_75 dX10_init_78 dX10_init_79 nw_X10_55 df_6 (n_X6 e l) rfl rfl (by decide) rfl (by omega) (Nat.le_of_ble_eq_true rfl) ?_
  refine k_putF (j0 := 0) C dX10_init_82 ff_X10_58 rfl rfl rfl rfl rfl (Nat.le_of_ble_eq_true rfl) ?_
  refine k_eq (G := G) (pre2 := [.inr (10, [.ref (eo (ED e) + qad (eT (ED e)) 1 0), .ref (eo (ED e) + qad (eT (ED e)) 2 0), .ref (eo (ED e) + qad (eT (ED e)) 3 0), .ref (eo (ED e) + qad (eT (ED e)) 4 0), .ref (eo (ED e) + qad (eT (ED e)) 10 0), .ref (eo (ED e) + qad (eT (ED e)) 15 0), .ref (eo (ED e) + qad (eT (ED e)) 23 0), .ref (eo (ED e) + qad (eT (ED e)) 36 0), .null, .null, .int (Int32.ofInt 0), .int (Int32.ofInt 0), .int (Int32.ofInt 0)]), gRf (ED e) 2 12 (fun _ => none), gRf (ED e) 3 20 (fun _ => none), gRf (ED e) 4 4 (fun _ => none)]) (N2 := 38) (sl2 := 599) rfl rfl rfl ?_
  refine k_aload_n C dX10_init_85 rfl ?_
  refine k_new (k := 38) (i := 0) C dX10_init_86 dX10_init_89 dX10_init_90 nw_X10_62 df_3 (n_X3 e l) rfl rfl (by decide) rfl (by omega) (Nat.le_of_ble_eq_true rfl) ?_
  refine k_putF (j0 := 0) C dX10_init_93 ff_X10_65 rfl rfl rfl rfl rfl (Nat.le_of_ble_eq_true rfl) ?_
  refine k_eq (G := G) (pre2 := [.inr (10, [.ref (eo (ED e) + qad (eT (ED e)) 1 0), .ref (eo (ED e) + qad (eT (ED e)) 2 0), .ref (eo (ED e) + qad (eT (ED e)) 3 0), .ref (eo (ED e) + qad (eT (ED e)) 4 0), .ref (eo (ED e) + qad (eT (ED e)) 10 0), .ref (eo (ED e) + qad (eT (ED e)) 15 0), .ref (eo (ED e) + qad (eT (ED e)) 23 0), .ref (eo (ED e) + qad (eT (ED e)) 36 0), .ref (eo (ED e) + qad (eT (ED e)) 38 0), .null, .int (Int32.ofInt 0), .int (Int32.ofInt 0), .int (Int32.ofInt 0)]), gRf (ED e) 2 12 (fun _ => none), gRf (ED e) 3 20 (fun _ => none), gRf (ED e) 4 4 (fun _ => none)]) (N2 := 80) (sl2 := 1202) rfl rfl rfl ?_
  refine k_aload_n C dX10_init_96 rfl ?_
  refine k_bipush C dX10_init_97 ?_
  refine k_newa (k := 80) (i := 0) (L := 24) C dX10_init_99 ac_int rfl rfl (by omega) (by decide) (Or.inr ⟨gF_a0 (E := ED e) (σ := s0D) tD_ok (k := 80) (i := 0) rfl (Nat.le_of_ble_eq_true rfl) rfl (fun _ => rfl), ?_⟩)
  refine k_putF (j0 := 0) C dX10_init_101 ff_X10_69 rfl rfl rfl rfl rfl (Nat.le_of_ble_eq_true rfl) ?_
  refine k_eq (G := G) (pre2 := [.inr (10, [.ref (eo (ED e) + qad (eT (ED e)) 1 0), .ref (eo (ED e) + qad (eT (ED e)) 2 0), .ref (eo (ED e) + qad (eT (ED e)) 3 0), .ref (eo (ED e) + qad (eT (ED e)) 4 0), .ref (eo (ED e) + qad (eT (ED e)) 10 0), .ref (eo (ED e) + qad (eT (ED e)) 15 0), .ref (eo (ED e) + qad (eT (ED e)) 23 0), .ref (eo (ED e) + qad (eT (ED e)) 36 0), .ref (eo (ED e) + qad (eT (ED e)) 38 0), .ref (eo (ED e) + qad (eT (ED e)) 80 0), .int (Int32.ofInt 0), .int (Int32.ofInt 0), .int (Int32.ofInt 0)]), gRf (ED e) 2 12 (fun _ => none), gRf (ED e) 3 20 (fun _ => none), gRf (ED e) 4 4 (fun _ => none)]) (N2 := 81) (sl2 := 1226) rfl rfl rfl ?_
  refine k_aload_n C dX10_init_104 rfl ?_
  refine k_iconst C dX10_init_105 ?_
  refine k_putI (j0 := 0) C dX10_init_106 fw_X10_73 rfl rfl rfl rfl rfl (Nat.le_of_ble_eq_true rfl) ?_
  refine k_eq (G := G) (pre2 := [.inr (10, [.ref (eo (ED e) + qad (eT (ED e)) 1 0), .ref (eo (ED e) + qad (eT (ED e)) 2 0), .ref (eo (ED e) + qad (eT (ED e)) 3 0), .ref (eo (ED e) + qad (eT (ED e)) 4 0), .ref (eo (ED e) + qad (eT (ED e)) 10 0), .ref (eo (ED e) + qad (eT (ED e)) 15 0), .ref (eo (ED e) + qad (eT (ED e)) 23 0), .ref (eo (ED e) + qad (eT (ED e)) 36 0), .ref (eo (ED e) + qad (eT (ED e)) 38 0), .ref (eo (ED e) + qad (eT (ED e)) 80 0), .int (Int32.ofInt 0), .int (Int32.ofInt 0), .int (Int32.ofInt 0)]), gRf (ED e) 2 12 (fun _ => none), gRf (ED e) 3 20 (fun _ => none), gRf (ED e) 4 4 (fun _ => none)]) (N2 := 81) (sl2 := 1226) rfl rfl rfl ?_
  refine k_aload_n C dX10_init_109 rfl ?_
  refine k_iconst C dX10_init_110 ?_
  refine k_putI (j0 := 0) C dX10_init_111 fw_X10_77 rfl rfl rfl rfl rfl (Nat.le_of_ble_eq_true rfl) ?_
  refine k_eq (G := G) (pre2 := [.inr (10, [.ref (eo (ED e) + qad (eT (ED e)) 1 0), .ref (eo (ED e) + qad (eT (ED e)) 2 0), .ref (eo (ED e) + qad (eT (ED e)) 3 0), .ref (eo (ED e) + qad (eT (ED e)) 4 0), .ref (eo (ED e) + qad (eT (ED e)) 10 0), .ref (eo (ED e) + qad (eT (ED e)) 15 0), .ref (eo (ED e) + qad (eT (ED e)) 23 0), .ref (eo (ED e) + qad (eT (ED e)) 36 0), .ref (eo (ED e) + qad (eT (ED e)) 38 0), .ref (eo (ED e) + qad (eT (ED e)) 80 0), .int (Int32.ofInt 0), .int (Int32.ofInt 0), .int (Int32.ofInt 0)]), gRf (ED e) 2 12 (fun _ => none), gRf (ED e) 3 20 (fun _ => none), gRf (ED e) 4 4 (fun _ => none)]) (N2 := 81) (sl2 := 1226) rfl rfl rfl ?_
  refine k_aload_n C dX10_init_114 rfl ?_
  refine k_iconst C dX10_init_115 ?_
  refine k_putI (j0 := 0) C dX10_init_116 fw_X10_80 rfl rfl rfl rfl rfl (Nat.le_of_ble_eq_true rfl) ?_
  refine k_eq (G := G) (pre2 := [.inr (10, [.ref (eo (ED e) + qad (eT (ED e)) 1 0), .ref (eo (ED e) + qad (eT (ED e)) 2 0), .ref (eo (ED e) + qad (eT (ED e)) 3 0), .ref (eo (ED e) + qad (eT (ED e)) 4 0), .ref (eo (ED e) + qad (eT (ED e)) 10 0), .ref (eo (ED e) + qad (eT (ED e)) 15 0), .ref (eo (ED e) + qad (eT (ED e)) 23 0), .ref (eo (ED e) + qad (eT (ED e)) 36 0), .ref (eo (ED e) + qad (eT (ED e)) 38 0), .ref (eo (ED e) + qad (eT (ED e)) 80 0), .int (Int32.ofInt 0), .int (Int32.ofInt 0), .int (Int32.ofInt 0)]), gRf (ED e) 2 12 (fun _ => none), gRf (ED e) 3 20 (fun _ => none), gRf (ED e) 4 4 (fun _ => none)]) (N2 := 81) (sl2 := 1226) rfl rfl rfl ?_
  refine k_iconst C dX10_init_119 ?_
  refine k_istore_n C dX10_init_120 rfl rfl (by decide) ?_
  refine kf_X10_121 e l C rfl rfl rfl rfl ?_
  refine k_eq (G := G) (pre2 := [.inr (10, [.ref (eo (ED e) + qad (eT (ED e)) 1 0), .ref (eo (ED e) + qad (eT (ED e)) 2 0), .ref (eo (ED e) + qad (eT (ED e)) 3 0), .ref (eo (ED e) + qad (eT (ED e)) 4 0), .ref (eo (ED e) + qad (eT (ED e)) 10 0), .ref (eo (ED e) + qad (eT (ED e)) 15 0), .ref (eo (ED e) + qad (eT (ED e)) 23 0), .ref (eo (ED e) + qad (eT (ED e)) 36 0), .ref (eo (ED e) + qad (eT (ED e)) 38 0), .ref (eo (ED e) + qad (eT (ED e)) 80 0), .int (Int32.ofInt 0), .int (Int32.ofInt 0), .int (Int32.ofInt 0)]), gRf (ED e) 2 12 (rfF (ED e) 81 12), gRf (ED e) 3 20 (fun _ => none), gRf (ED e) 4 4 (fun _ => none)]) (N2 := 105) (sl2 := 1550) rfl rfl rfl ?_
  refine k_iconst C dX10_init_146 ?_
  refine k_istore_n C dX10_init_147 rfl rfl (by decide) ?_
  refine kf_X10_148 e l C rfl rfl rfl rfl ?_
  refine k_eq (G := G) (pre2 := [.inr (10, [.ref (eo (ED e) + qad (eT (ED e)) 1 0), .ref (eo (ED e) + qad (eT (ED e)) 2 0), .ref (eo (ED e) + qad (eT (ED e)) 3 0), .ref (eo (ED e) + qad (eT (ED e)) 4 0), .ref (eo (ED e) + qad (eT (ED e)) 10 0), .ref (eo (ED e) + qad (eT (ED e)) 15 0), .ref (eo (ED e) + qad (eT (ED e)) 23 0), .ref (eo (ED e) + qad (eT (ED e)) 36 0), .ref (eo (ED e) + qad (eT (ED e)) 38 0), .ref (eo (ED e) + qad (eT (ED e)) 80 0), .int (Int32.ofInt 0), .int (Int32.ofInt 0), .int (Int32.ofInt 0)]), gRf (ED e) 2 12 (rfF (ED e) 81 12), gRf (ED e) 3 20 (rfF (ED e) 105 20), gRf (ED e) 4 4 (fun _ => none)]) (N2 := 205) (sl2 := 2350) rfl rfl rfl ?_
  refine k_iconst C dX10_init_173 ?_
  refine k_istore_n C dX10_init_174 rfl rfl (by decide) ?_
  refine kf_X10_175 e l C rfl rfl rfl rfl ?_
  refine k_eq (G := G) (pre2 := [.inr (10, [.ref (eo (ED e) + qad (eT (ED e)) 1 0), .ref (eo (ED e) + qad (eT (ED e)) 2 0), .ref (eo (ED e) + qad (eT (ED e)) 3 0), .ref (eo (ED e) + qad (eT (ED e)) 4 0), .ref (eo (ED e) + qad (eT (ED e)) 10 0), .ref (eo (ED e) + qad (eT (ED e)) 15 0), .ref (eo (ED e) + qad (eT (ED e)) 23 0), .ref (eo (ED e) + qad (eT (ED e)) 36 0), .ref (eo (ED e) + qad (eT (ED e)) 38 0), .ref (eo (ED e) + qad (eT (ED e)) 80 0), .int (Int32.ofInt 0), .int (Int32.ofInt 0), .int (Int32.ofInt 0)]), gRf (ED e) 2 12 (rfF (ED e) 81 12), gRf (ED e) 3 20 (rfF (ED e) 105 20), gRf (ED e) 4 4 (rfF (ED e) 205 4)]) (N2 := 213) (sl2 := 2482) rfl rfl rfl ?_
  refine k_vret C dX10_init_199 (by omega) (by omega) (by omega) (gEs_ok _ _ ?_)
  exact ⟨gE_eq (gF_ob (E := ED e) (σ := s0D) tD_ok (k := 0) (i := 0) rfl (Nat.le_of_ble_eq_true rfl) rfl).symm, gE_rf (gF_rf (E := ED e) (σ := s0D) tD_ok (k := 1) (i := 0) (ek := 0) rfl (Nat.le_of_ble_eq_true rfl) rfl) (fun j hj => by unfold rfF; rw [if_pos hj]), gE_rf (gF_rf (E := ED e) (σ := s0D) tD_ok (k := 2) (i := 0) (ek := 1) rfl (Nat.le_of_ble_eq_true rfl) rfl) (fun j hj => by unfold rfF; rw [if_pos hj]), gE_rf (gF_rf (E := ED e) (σ := s0D) tD_ok (k := 3) (i := 0) (ek := 2) rfl (Nat.le_of_ble_eq_true rfl) rfl) (fun j hj => by unfold rfF; rw [if_pos hj]), trivial⟩
