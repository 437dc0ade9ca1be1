/-! the reference's plan: findPlan, and the calls that show it -/
def fpJ (σ : qSt) (cal : Int → Int) (f0 : Int) (P : Nat) (σ1 : qSt) : Prop := (∀ (a : Nat) (b c : Int), ¬ (a = 0 ∧ 16 ≤ c ∧ c ≤ 18) → σ1 a b c = σ a b c) ∧ Bm σ1 ∧ σ1 0 0 16 = (fpF cal f0 P).1 ∧ σ1 0 0 17 = (fpF cal f0 P).2.1 ∧ σ1 0 0 18 = (fpF cal f0 P).2.2
theorem fp_keep {σ σ1 : qSt} {cal : Int → Int} {f0 z : Int} {m : Nat} (h : fpJ σ cal f0 m σ1) (hz : z = cal m) (hc : z < 0 ∨ (0 ≤ σ1 0 0 16 ∧ σ1 0 0 16 < z)) : fpJ σ cal f0 (m + 1) σ1 := by
  obtain ⟨a, b, c, d, e⟩ := h
  have q : fpF cal f0 (m + 1) = fpF cal f0 m := by simp only [fpF]; rw [if_pos (by rw [← hz, ← c]; exact hc)]
  exact ⟨a, b, by rw [q]; exact c, by rw [q]; exact d, by rw [q]; exact e⟩
theorem fp_new {σ σ1 : qSt} {cal : Int → Int} {f0 z : Int} {m : Nat} (h : fpJ σ cal f0 m σ1) (hz : z = cal m) (h1 : 0 ≤ z ∧ z ≤ 48) (h2 : σ1 0 0 16 < 0 ∨ z < σ1 0 0 16) (hm : m ≤ 16384) : fpJ σ cal f0 (m + 1) (qUp (qUp (qUp (qUp σ1 0 0 16 z) 0 0 18 m) 0 0 17 0) 0 0 17 (0 + 1)) := by
  obtain ⟨a, b, c, d, e⟩ := h
  have q : fpF cal f0 (m + 1) = (z, 1, (m : Int)) := by
    simp only [fpF]
    rw [if_neg (by rw [← hz, ← c]; omega), if_pos (by rw [← hz, ← c]; omega), ← hz]
  refine ⟨fun x y w u => ?_, (((b.up (by omega)).up (by omega)).up (by omega)).up (by omega), ?_, ?_, ?_⟩
  · rw [qUp_ne (by omega), qUp_ne (by omega), qUp_ne (by omega), qUp_ne (by omega)]; exact a x y w u
  · rw [q, qUp_ne (by omega), qUp_ne (by omega), qUp_ne (by omega), qUp_eq]
  · rw [q, qUp_eq]; rfl
  · rw [q, qUp_ne (by omega), qUp_ne (by omega), qUp_eq]
theorem fp_inc {σ σ1 : qSt} {cal : Int → Int} {f0 z : Int} {m : Nat} (h : fpJ σ cal f0 m σ1) (hz : z = cal m) (h1 : 0 ≤ z ∧ z ≤ 48) (h2 : z = σ1 0 0 16) (hm : -1000000 ≤ σ1 0 0 17 ∧ σ1 0 0 17 ≤ 1000000) : fpJ σ cal f0 (m + 1) (qUp σ1 0 0 17 (σ1 0 0 17 + 1)) := by
  obtain ⟨a, b, c, d, e⟩ := h
  have q : fpF cal f0 (m + 1) = ((fpF cal f0 m).1, (fpF cal f0 m).2.1 + 1, (fpF cal f0 m).2.2) := by
    simp only [fpF]
    rw [if_neg (by rw [← hz, ← c]; omega), if_neg (by rw [← hz, ← c]; omega)]
  refine ⟨fun x y w u => ?_, b.up (by omega), ?_, ?_, ?_⟩
  · rw [qUp_ne (by omega)]; exact a x y w u
  · rw [q, qUp_ne (by omega)]; exact c
  · rw [q, qUp_eq, d]
  · rw [q, qUp_ne (by omega)]; exact e
theorem calP_r (N O Mi R : Int → Int) (n : Nat) (P : Int) : -1 ≤ calP N O Mi R n P ∧ calP N O Mi R n P ≤ 48 := by
  have h := pC_r N O Mi (dPl n P) n 4
  show -1 ≤ clS N O Mi R (dPl n P) n 4 ∧ clS N O Mi R (dPl n P) n 4 ≤ 48
  rcases clS_or (N := N) (O := O) (Mi := Mi) (R := R) (dd := dPl n P) (n := n) 4 with u | u <;> omega
set_option maxRecDepth 20000 in
theorem lp_X11_fp {G : qSt → Nat → List (Option qV) → List qV → Prop} {Ret : Option qV → qSt → Prop} (e : qR) (l : Launch) (σ : qSt) (n : Nat) (T f0 : Int) (N O Mi R : Int → Int) (hn : (n : Int) ≤ 7) (hT : T = 2 ^ (2 * (n : Int)).toNat) (hT1 : 1 ≤ T ∧ T ≤ 16384) (he : σ 1 0 3 = n) (hTt : ∀ j, 0 ≤ j → j < (n : Int) → σ 11 0 j = N j ∧ σ 12 0 j = O j ∧ σ 13 0 j = Mi j ∧ 0 ≤ N j ∧ N j < 256 ∧ 0 ≤ O j ∧ O j < 16 ∧ 0 ≤ Mi j ∧ Mi j ≤ 60) (hRm : ∀ d : Nat, d < 4 → σ 1 0 (354 + d) = R d ∧ 0 ≤ R d ∧ R d ≤ 100) (C : Cx (EM e) l RX11 cX11_findPlan 3 none 5 Ret G) (hN : ∀ σ2, fpJ σ (calP N O Mi R n) f0 T.toNat σ2 → Ret none σ2) : ∀ (k : Nat) (m : Nat) (σ1 : qSt) (o2 : Option qV), (m : Int) + (k : Int) = T → fpJ σ (calP N O Mi R n) f0 m σ1 → G σ1 16 [some (qr 0 0), some (qi (m : Int)), o2] [] := by
  intro k
  induction k with
  | zero =>
    intro m σ1 o2 hm hI
    obtain ⟨hag, hb1, h16, h17, h18⟩ := id hI
    have cr : ∀ P, -1 ≤ calP N O Mi R n P ∧ calP N O Mi R n P ≤ 48 := calP_r N O Mi R n
    have fr := fpF_r (f0 := f0) cr m
    have he1 : σ1 1 0 3 = (n : Int) := by rw [hag 1 0 3 (by omega)]; exact he
    refine r_iload_n C dX11_findPlan_16 rfl ?_
    refine r_iconst C dX11_findPlan_17 ?_
    refine r_iconst C dX11_findPlan_18 ?_
    refine r_aload_n C dX11_findPlan_19 rfl ?_
    refine r_get_r (c := 1) C dX11_findPlan_20 fl_X11_9 rfl rfl rfl (by decide) rfl ?_
    refine r_iconst C dX11_findPlan_23 ?_
    refine r_iald (c := 1) (N := 365) C dX11_findPlan_24 rfl rfl (by decide) (by omega) ?_
    refine r_v (b := (n : Int)) he1 ?_
    refine r_imul C dX11_findPlan_25 ?_
    refine r_ishl _ C dX11_findPlan_26 (z_shlP 1 _ T hT (by decide) (by omega)) ?_
    refine r_ic_ge 104 C dX11_findPlan_27 (by decide) (by omega) (by omega) (fun h27 => ?_) (fun h27 => ?_)
    · refine r_vret C dX11_findPlan_104 ?_
      rw [show m = T.toNat by omega] at hI
      exact hN _ hI
    · exfalso; omega
  | succ k ih =>
    intro m σ1 o2 hm hI
    obtain ⟨hag, hb1, h16, h17, h18⟩ := id hI
    have cr : ∀ P, -1 ≤ calP N O Mi R n P ∧ calP N O Mi R n P ≤ 48 := calP_r N O Mi R n
    have fr := fpF_r (f0 := f0) cr m
    have he1 : σ1 1 0 3 = (n : Int) := by rw [hag 1 0 3 (by omega)]; exact he
    refine r_iload_n C dX11_findPlan_16 rfl ?_
    refine r_iconst C dX11_findPlan_17 ?_
    refine r_iconst C dX11_findPlan_18 ?_
    refine r_aload_n C dX11_findPlan_19 rfl ?_
    refine r_get_r (c := 1) C dX11_findPlan_20 fl_X11_9 rfl rfl rfl (by decide) rfl ?_
    refine r_iconst C dX11_findPlan_23 ?_
    refine r_iald (c := 1) (N := 365) C dX11_findPlan_24 rfl rfl (by decide) (by omega) ?_
    refine r_v (b := (n : Int)) he1 ?_
    refine r_imul C dX11_findPlan_25 ?_
    refine r_ishl _ C dX11_findPlan_26 (z_shlP 1 _ T hT (by decide) (by omega)) ?_
    refine r_ic_ge 104 C dX11_findPlan_27 (by decide) (by omega) (by omega) (fun h27 => ?_) (fun h27 => ?_)
    · exfalso; omega
    · refine r_aload_n C dX11_findPlan_30 rfl ?_
      refine r_iload_n C dX11_findPlan_31 rfl ?_
      refine r_cvi (c := 1) C dX11_findPlan_32 mv_X11_168 (c_X11_callsOf e l _ _ (n : Int) he1 N O Mi R (by omega) (by omega) (fun j a b => by rw [hag 11 0 j (by omega), hag 12 0 j (by omega), hag 13 0 j (by omega)]; exact hTt j a b) (fun d q => by rw [hag 1 0 _ (by omega)]; exact hRm d q)) (by decide) rfl rfl rfl rfl (by decide) rfl rfl (Nat.le_of_ble_eq_true rfl) (fun z32 σ32 h32 => ?_)
      obtain ⟨hz, rfl⟩ := h32
      have hz2 : z32 = calP N O Mi R n m := hz
      have crm := cr m
      refine r_istore_n C dX11_findPlan_35 rfl rfl (by decide) ?_
      refine r_iload_n C dX11_findPlan_36 rfl ?_
      refine r_if_lt 98 C dX11_findPlan_37 (by decide) (by omega) (fun h37 => ?_) (fun h37 => ?_)
      · refine r_iinc C dX11_findPlan_98 rfl rfl rfl (by decide) ?_
        refine r_goto 16 C dX11_findPlan_101 (by decide) ?_
        exact ih (m + 1) _ _ (by push_cast; omega) (fp_keep hI hz2 (by omega))
      · refine r_aload_n C dX11_findPlan_40 rfl ?_
        refine r_get_i (c := 1) 16 C dX11_findPlan_41 fl_X11_162 rfl rfl rfl rfl (by decide) ?_
        refine r_if_lt 58 C dX11_findPlan_44 (by decide) (by omega) (fun h44 => ?_) (fun h44 => ?_)
        · refine r_aload_n C dX11_findPlan_58 rfl ?_
          refine r_get_i (c := 1) 16 C dX11_findPlan_59 fl_X11_162 rfl rfl rfl rfl (by decide) ?_
          refine r_if_lt 73 C dX11_findPlan_62 (by decide) (by omega) (fun h62 => ?_) (fun h62 => ?_)
          · refine r_aload_n C dX11_findPlan_73 rfl ?_
            refine r_iload_n C dX11_findPlan_74 rfl ?_
            refine r_put_i (c := 1) 16 C dX11_findPlan_75 fw_X11_162 rfl rfl rfl rfl (by decide) rfl rfl ?_
            refine r_aload_n C dX11_findPlan_78 rfl ?_
            refine r_iload_n C dX11_findPlan_79 rfl ?_
            refine r_put_i (c := 1) 18 C dX11_findPlan_80 fw_X11_171 rfl rfl rfl rfl (by decide) rfl rfl ?_
            refine r_aload_n C dX11_findPlan_83 rfl ?_
            refine r_iconst C dX11_findPlan_84 ?_
            refine r_put_i (c := 1) 17 C dX11_findPlan_85 fw_X11_165 rfl rfl rfl rfl (by decide) rfl rfl ?_
            refine r_aload_n C dX11_findPlan_88 rfl ?_
            refine r_dup C dX11_findPlan_89 ?_
            refine r_get_i (c := 1) 17 C dX11_findPlan_90 fl_X11_165 rfl rfl rfl rfl (by decide) ?_
            refine r_v (b := 0) (by simp [qUp, qCpy]) ?_
            refine r_iconst C dX11_findPlan_93 ?_
            refine r_iadd C dX11_findPlan_94 ?_
            refine r_put_i (c := 1) 17 C dX11_findPlan_95 fw_X11_165 rfl rfl rfl rfl (by decide) rfl rfl ?_
            refine r_iinc C dX11_findPlan_98 rfl rfl rfl (by decide) ?_
            refine r_goto 16 C dX11_findPlan_101 (by decide) ?_
            exact ih (m + 1) _ _ (by push_cast; omega) (fp_new hI hz2 (by omega) (by omega) (by omega))
          · refine r_iload_n C dX11_findPlan_65 rfl ?_
            refine r_aload_n C dX11_findPlan_66 rfl ?_
            refine r_get_i (c := 1) 16 C dX11_findPlan_67 fl_X11_162 rfl rfl rfl rfl (by decide) ?_
            refine r_ic_ge 88 C dX11_findPlan_70 (by decide) (by omega) (by omega) (fun h70 => ?_) (fun h70 => ?_)
            · refine r_aload_n C dX11_findPlan_88 rfl ?_
              refine r_dup C dX11_findPlan_89 ?_
              refine r_get_i (c := 1) 17 C dX11_findPlan_90 fl_X11_165 rfl rfl rfl rfl (by decide) ?_
              refine r_iconst C dX11_findPlan_93 ?_
              refine r_iadd C dX11_findPlan_94 ?_
              refine r_put_i (c := 1) 17 C dX11_findPlan_95 fw_X11_165 rfl rfl rfl rfl (by decide) rfl rfl ?_
              refine r_iinc C dX11_findPlan_98 rfl rfl rfl (by decide) ?_
              refine r_goto 16 C dX11_findPlan_101 (by decide) ?_
              exact ih (m + 1) _ _ (by push_cast; omega) (fp_inc hI hz2 (by omega) (by omega) (by omega))
            · refine r_aload_n C dX11_findPlan_73 rfl ?_
              refine r_iload_n C dX11_findPlan_74 rfl ?_
              refine r_put_i (c := 1) 16 C dX11_findPlan_75 fw_X11_162 rfl rfl rfl rfl (by decide) rfl rfl ?_
              refine r_aload_n C dX11_findPlan_78 rfl ?_
              refine r_iload_n C dX11_findPlan_79 rfl ?_
              refine r_put_i (c := 1) 18 C dX11_findPlan_80 fw_X11_171 rfl rfl rfl rfl (by decide) rfl rfl ?_
              refine r_aload_n C dX11_findPlan_83 rfl ?_
              refine r_iconst C dX11_findPlan_84 ?_
              refine r_put_i (c := 1) 17 C dX11_findPlan_85 fw_X11_165 rfl rfl rfl rfl (by decide) rfl rfl ?_
              refine r_aload_n C dX11_findPlan_88 rfl ?_
              refine r_dup C dX11_findPlan_89 ?_
              refine r_get_i (c := 1) 17 C dX11_findPlan_90 fl_X11_165 rfl rfl rfl rfl (by decide) ?_
              refine r_v (b := 0) (by simp [qUp, qCpy]) ?_
              refine r_iconst C dX11_findPlan_93 ?_
              refine r_iadd C dX11_findPlan_94 ?_
              refine r_put_i (c := 1) 17 C dX11_findPlan_95 fw_X11_165 rfl rfl rfl rfl (by decide) rfl rfl ?_
              refine r_iinc C dX11_findPlan_98 rfl rfl rfl (by decide) ?_
              refine r_goto 16 C dX11_findPlan_101 (by decide) ?_
              exact ih (m + 1) _ _ (by push_cast; omega) (fp_new hI hz2 (by omega) (by omega) (by omega))
        · refine r_iload_n C dX11_findPlan_47 rfl ?_
          refine r_aload_n C dX11_findPlan_48 rfl ?_
          refine r_get_i (c := 1) 16 C dX11_findPlan_49 fl_X11_162 rfl rfl rfl rfl (by decide) ?_
          refine r_ic_le 58 C dX11_findPlan_52 (by decide) (by omega) (by omega) (fun h52 => ?_) (fun h52 => ?_)
          · refine r_aload_n C dX11_findPlan_58 rfl ?_
            refine r_get_i (c := 1) 16 C dX11_findPlan_59 fl_X11_162 rfl rfl rfl rfl (by decide) ?_
            refine r_if_lt 73 C dX11_findPlan_62 (by decide) (by omega) (fun h62 => ?_) (fun h62 => ?_)
            · refine r_aload_n C dX11_findPlan_73 rfl ?_
              refine r_iload_n C dX11_findPlan_74 rfl ?_
              refine r_put_i (c := 1) 16 C dX11_findPlan_75 fw_X11_162 rfl rfl rfl rfl (by decide) rfl rfl ?_
              refine r_aload_n C dX11_findPlan_78 rfl ?_
              refine r_iload_n C dX11_findPlan_79 rfl ?_
              refine r_put_i (c := 1) 18 C dX11_findPlan_80 fw_X11_171 rfl rfl rfl rfl (by decide) rfl rfl ?_
              refine r_aload_n C dX11_findPlan_83 rfl ?_
              refine r_iconst C dX11_findPlan_84 ?_
              refine r_put_i (c := 1) 17 C dX11_findPlan_85 fw_X11_165 rfl rfl rfl rfl (by decide) rfl rfl ?_
              refine r_aload_n C dX11_findPlan_88 rfl ?_
              refine r_dup C dX11_findPlan_89 ?_
              refine r_get_i (c := 1) 17 C dX11_findPlan_90 fl_X11_165 rfl rfl rfl rfl (by decide) ?_
              refine r_v (b := 0) (by simp [qUp, qCpy]) ?_
              refine r_iconst C dX11_findPlan_93 ?_
              refine r_iadd C dX11_findPlan_94 ?_
              refine r_put_i (c := 1) 17 C dX11_findPlan_95 fw_X11_165 rfl rfl rfl rfl (by decide) rfl rfl ?_
              refine r_iinc C dX11_findPlan_98 rfl rfl rfl (by decide) ?_
              refine r_goto 16 C dX11_findPlan_101 (by decide) ?_
              exact ih (m + 1) _ _ (by push_cast; omega) (fp_new hI hz2 (by omega) (by omega) (by omega))
            · refine r_iload_n C dX11_findPlan_65 rfl ?_
              refine r_aload_n C dX11_findPlan_66 rfl ?_
              refine r_get_i (c := 1) 16 C dX11_findPlan_67 fl_X11_162 rfl rfl rfl rfl (by decide) ?_
              refine r_ic_ge 88 C dX11_findPlan_70 (by decide) (by omega) (by omega) (fun h70 => ?_) (fun h70 => ?_)
              · refine r_aload_n C dX11_findPlan_88 rfl ?_
                refine r_dup C dX11_findPlan_89 ?_
                refine r_get_i (c := 1) 17 C dX11_findPlan_90 fl_X11_165 rfl rfl rfl rfl (by decide) ?_
                refine r_iconst C dX11_findPlan_93 ?_
                refine r_iadd C dX11_findPlan_94 ?_
                refine r_put_i (c := 1) 17 C dX11_findPlan_95 fw_X11_165 rfl rfl rfl rfl (by decide) rfl rfl ?_
                refine r_iinc C dX11_findPlan_98 rfl rfl rfl (by decide) ?_
                refine r_goto 16 C dX11_findPlan_101 (by decide) ?_
                exact ih (m + 1) _ _ (by push_cast; omega) (fp_inc hI hz2 (by omega) (by omega) (by omega))
              · refine r_aload_n C dX11_findPlan_73 rfl ?_
                refine r_iload_n C dX11_findPlan_74 rfl ?_
                refine r_put_i (c := 1) 16 C dX11_findPlan_75 fw_X11_162 rfl rfl rfl rfl (by decide) rfl rfl ?_
                refine r_aload_n C dX11_findPlan_78 rfl ?_
                refine r_iload_n C dX11_findPlan_79 rfl ?_
                refine r_put_i (c := 1) 18 C dX11_findPlan_80 fw_X11_171 rfl rfl rfl rfl (by decide) rfl rfl ?_
                refine r_aload_n C dX11_findPlan_83 rfl ?_
                refine r_iconst C dX11_findPlan_84 ?_
                refine r_put_i (c := 1) 17 C dX11_findPlan_85 fw_X11_165 rfl rfl rfl rfl (by decide) rfl rfl ?_
                refine r_aload_n C dX11_findPlan_88 rfl ?_
                refine r_dup C dX11_findPlan_89 ?_
                refine r_get_i (c := 1) 17 C dX11_findPlan_90 fl_X11_165 rfl rfl rfl rfl (by decide) ?_
                refine r_v (b := 0) (by simp [qUp, qCpy]) ?_
                refine r_iconst C dX11_findPlan_93 ?_
                refine r_iadd C dX11_findPlan_94 ?_
                refine r_put_i (c := 1) 17 C dX11_findPlan_95 fw_X11_165 rfl rfl rfl rfl (by decide) rfl rfl ?_
                refine r_iinc C dX11_findPlan_98 rfl rfl rfl (by decide) ?_
                refine r_goto 16 C dX11_findPlan_101 (by decide) ?_
                exact ih (m + 1) _ _ (by push_cast; omega) (fp_new hI hz2 (by omega) (by omega) (by omega))
          · refine r_goto 98 C dX11_findPlan_55 (by decide) ?_
            refine r_iinc C dX11_findPlan_98 rfl rfl rfl (by decide) ?_
            refine r_goto 16 C dX11_findPlan_101 (by decide) ?_
            exact ih (m + 1) _ _ (by push_cast; omega) (fp_keep hI hz2 (by omega))
set_option maxRecDepth 20000 in
theorem c_X11_findPlan (e : qR) (l : Launch) (σ : qSt) (A : aSt) (hR : RelM σ A) (hA : AOk A) : CM (EM e) l yX11_findPlan cX11_findPlan 3 none 5 [qr 0 0] σ (Rv fun σ' => RelM σ' A ∧ ((σ' 0 0 16 = -1 ∧ σ' 0 0 17 = 0 ∧ (plRA A).2.1 = 0) ∨ (0 ≤ σ' 0 0 16 ∧ (plRA A).1 = σ' 0 0 16 ∧ (plRA A).2.1 = σ' 0 0 17 ∧ 1 ≤ (plRA A).2.1)) ∧ (0 ≤ σ' 0 0 16 → ∀ j : Nat, j < (cO A.1).length → (plRA A).2.2 j = dPl (nLp A) (σ' 0 0 18) j)) := by
  refine CM.mk tM_ok (by decide +kernel) (Nat.le_of_ble_eq_true rfl) (fun G C => ?_)
  show G σ 0 [some (qr 0 0), none, none] []
  refine r_aload_n C dX11_findPlan_0 rfl ?_
  refine r_cvv (c := 1) C dX11_findPlan_1 mv_X11_159 (c_X11_findLoops e l _ A hR hA) (by decide) rfl rfl rfl rfl (by decide) rfl rfl (Nat.le_of_ble_eq_true rfl) (fun σ1 h1 => ?_)
  have hR1 : RelM σ1 A := rel_mscr hR (fun a b c q1 q2 => h1.1 a b c (by omega)) h1.2.1
  obtain ⟨hb, e0, n0, m0, e1w, n1, m1, e2t, n2, m2, e3l, n3, m3, hk0, hk20⟩ := mF hR1 hA
  refine r_aload_n C dX11_findPlan_4 rfl ?_
  refine r_iconst C dX11_findPlan_5 ?_
  refine r_put_i (c := 1) 16 C dX11_findPlan_6 fw_X11_162 rfl rfl rfl rfl (by decide) rfl rfl ?_
  refine r_aload_n C dX11_findPlan_9 rfl ?_
  refine r_iconst C dX11_findPlan_10 ?_
  refine r_put_i (c := 1) 17 C dX11_findPlan_11 fw_X11_165 rfl rfl rfl rfl (by decide) rfl rfl ?_
  refine r_iconst C dX11_findPlan_14 ?_
  refine r_istore_n C dX11_findPlan_15 rfl rfl (by decide) ?_
  have hbx := hR1.1
  have hn7 : (cO A.1).length ≤ 7 := by have q : nLp A = ((cO A.1).length : Int) := rfl; omega
  have h4 : ∀ n : Nat, n ≤ 7 → (1 : Int) ≤ 4 ^ n ∧ (4 : Int) ^ n ≤ 16384 := by decide
  have tt : ∀ j, 0 ≤ j → j < nLp A → σ1 11 0 j = plAA A j ∧ σ1 12 0 j = plOA A j ∧ σ1 13 0 j = plMA A j ∧ 0 ≤ plAA A j ∧ plAA A j < 256 ∧ 0 ≤ plOA A j ∧ plOA A j < 16 ∧ 0 ≤ plMA A j ∧ plMA A j ≤ 60 := by
    intro j j1 j2
    obtain ⟨q1, q2, q3⟩ := h1.2.2 j j1 j2
    have ar : 0 ≤ plAA A j ∧ plAA A j < 256 := aol_r2 (cL A.1).length (fun l u => (wh_m hR1 hA (l := (l : Int)) ⟨by omega, by have q : nLn A = ((cL A.1).length : Int) := rfl; omega⟩).2.2)
    have dr : 0 ≤ plOA A j ∧ plOA A j < 16 := doa_r (acts := plAA A j) (fr := cF A.1) 8 (fun w u => by have := hA.1.2.2.2.2.2.1 w (by omega) (by omega); omega)
    have pr := pop12_nn ((cO A.1).getD j.toNat 0)
    have pm : plMA A j = 5 * pop12 ((cO A.1).getD j.toNat 0) := rfl
    exact ⟨q1, q2, q3, ar.1, ar.2, dr.1, dr.2, by omega, by omega⟩
  have rm : ∀ d : Nat, d < 4 → σ1 1 0 (354 + d) = cR A.1 d ∧ 0 ≤ cR A.1 d ∧ cR A.1 d ≤ 100 := fun d q => ⟨hR1.2.2.1.2.2.2.2.2.2.1 d (by omega) (by omega), hA.1.2.2.2.2.2.2.1 d (by omega) (by omega)⟩
  have e4 : ((4 : Int) ^ (cO A.1).length) = ((4 ^ (cO A.1).length : Nat) : Int) := by norm_cast
  have hb18 := hbx 0 0 18 (by omega) (by omega)
  refine lp_X11_fp e l σ1 (cO A.1).length (4 ^ (cO A.1).length) (σ1 0 0 18) (plAA A) (plOA A) (plMA A) (cR A.1) (by omega) (by rw [p4, show (2 * (((cO A.1).length : Nat) : Int)).toNat = 2 * (cO A.1).length by omega]) (h4 _ hn7) e3l tt rm C (fun σ2 h2 => ?_) (4 ^ (cO A.1).length) 0 _ _ (by rw [e4]; omega) ⟨fun a b c u => by rw [qUp_ne (by omega), qUp_ne (by omega)], (hbx.up (by omega)).up (by omega), by rw [qUp_ne (by omega), qUp_eq]; rfl, by rw [qUp_eq]; rfl, by rw [qUp_ne (by omega), qUp_ne (by omega)]; rfl⟩
  obtain ⟨g1, g2, g3, g4, g5⟩ := h2
  have ga := gd_all (N := plAA A) (O := plOA A) (Mi := plMA A) (R := cR A.1) (n := (cO A.1).length) (f0 := σ1 0 0 18) (dd := fun _ => 0) (fun j q => by have := tt j (by omega) (by have q2 : nLp A = ((cO A.1).length : Int) := rfl; omega); omega) (fun d q => (rm d q).2.1)
  rw [e4, Int.toNat_natCast] at g3 g4 g5
  refine ⟨rfl, rel_mscr hR1 (fun a b c q1 q2 => g1 a b c (by omega)) g2, ?_, fun h0 => ?_⟩
  · rw [g3, g4]
    rcases ga with ⟨a1, a2, a3, a4⟩ | ⟨a1, a2, a3, a4, a5, a6⟩
    · exact Or.inl ⟨a1, a3, a4⟩
    · exact Or.inr ⟨a1, a3, a4, a5⟩
  · rw [g3] at h0
    rw [g5]
    rcases ga with ⟨a1, a2, a3, a4⟩ | ⟨a1, a2, a3, a4, a5, a6⟩
    · exfalso; omega
    · exact a6
set_option maxRecDepth 20000 in
theorem m_plan (e : qR) (l : Launch) (σ : qSt) (A : aSt) (hR : RelM σ A) (hA : AOk A)   : CM (EM e) l yX11_plan cX11_plan 1 (some .int) 20 [qr 0 0] σ (Ri fun z σ' => z = (oPlan A).1 ∧ RelM σ' (oPlan A).2) := by
  refine CM.mk tM_ok (by decide +kernel) (Nat.le_of_ble_eq_true rfl) (fun G C => ?_)
  show G σ 0 [some (qr 0 0)] []
  obtain ⟨hb, e0, n0, m0, e1w, n1, m1, e2t, n2, m2, e3l, n3, m3, hk0, hk20⟩ := mF hR hA
  refine r_aload_n C dX11_plan_0 rfl ?_
  refine r_cvv (c := 1) C dX11_plan_1 mv_X11_174 (c_X11_findPlan e l _ A hR hA) (by decide) rfl rfl rfl rfl (by decide) rfl rfl (Nat.le_of_ble_eq_true rfl) (fun σ1 h1 => ?_)
  obtain ⟨hR2, hf1, hf2⟩ := h1
  have b16 := hR2.1 0 0 16 (by omega) (by omega)
  have b17 := hR2.1 0 0 17 (by omega) (by omega)
  have b18 := hR2.1 0 0 18 (by omega) (by omega)
  have e3 : σ1 1 0 3 = nLp A := (mF hR2 hA).2.2.2.2.2.2.2.2.2.2.1
  refine r_aload_n C dX11_plan_4 rfl ?_
  refine r_get_i (c := 1) 16 C dX11_plan_5 fl_X11_162 rfl rfl rfl rfl (by decide) ?_
  refine r_if_ge 20 C dX11_plan_8 (by decide) (by omega) (fun h8 => ?_) (fun h8 => ?_)
  · refine r_aload_n C dX11_plan_20 rfl ?_
    refine r_get_i (c := 1) 16 C dX11_plan_21 fl_X11_162 rfl rfl rfl rfl (by decide) ?_
    refine r_iret C dX11_plan_24 ?_
    first
    | (have e1 : oPlan A = fnd A (-100006) := by unfold oPlan; repeat (first | rw [if_pos (by omega)] | rw [if_neg (by omega)])
       exact ⟨_, rfl, by rw [e1]; rfl, by rw [e1]; exact rel_mfnd hR2 _⟩)
    | (have e1 : oPlan A = ((plRA A).1, A) := by unfold oPlan; repeat (first | rw [if_pos (by omega)] | rw [if_neg (by omega)])
       exact ⟨_, rfl, by rw [e1]; show _ = _; omega, by rw [e1]; exact hR2⟩)
  · refine r_aload_n C dX11_plan_11 rfl ?_
    refine r_ldc C dX11_plan_12 kc_X11_67 ?_
    refine r_cvi (c := 1) C dX11_plan_14 mv_X11_68 (c_X11_finding e l _ _) (by decide) rfl rfl rfl rfl (by decide) rfl rfl (Nat.le_of_ble_eq_true rfl) (fun z14 σ14 h14 => ?_)
    obtain ⟨rfl, rfl⟩ := h14
    refine r_goto 24 C dX11_plan_17 (by decide) ?_
    refine r_iret C dX11_plan_24 ?_
    first
    | (have e1 : oPlan A = fnd A (-100006) := by unfold oPlan; repeat (first | rw [if_pos (by omega)] | rw [if_neg (by omega)])
       exact ⟨_, rfl, by rw [e1]; rfl, by rw [e1]; exact rel_mfnd hR2 _⟩)
    | (have e1 : oPlan A = ((plRA A).1, A) := by unfold oPlan; repeat (first | rw [if_pos (by omega)] | rw [if_neg (by omega)])
       exact ⟨_, rfl, by rw [e1]; show _ = _; omega, by rw [e1]; exact hR2⟩)
set_option maxRecDepth 20000 in
theorem m_planned (e : qR) (l : Launch) (σ : qSt) (k : Int) (A : aSt) (hR : RelM σ A) (hA : AOk A) (h_k : InI k)  : CM (EM e) l yX11_planned cX11_planned 2 (some .int) 20 [qr 0 0, qi k] σ (Ri fun z σ' => z = (oPlanned k A).1 ∧ RelM σ' (oPlanned k A).2) := by
  refine CM.mk tM_ok (by decide +kernel) (Nat.le_of_ble_eq_true rfl) (fun G C => ?_)
  show G σ 0 [some (qr 0 0), some (qi k)] []
  obtain ⟨hb, e0, n0, m0, e1w, n1, m1, e2t, n2, m2, e3l, n3, m3, hk0, hk20⟩ := mF hR hA
  refine r_iload_n C dX11_planned_0 rfl ?_
  refine r_iconst C dX11_planned_1 ?_
  refine r_aload_n C dX11_planned_2 rfl ?_
  refine r_get_r (c := 1) C dX11_planned_3 fl_X11_9 rfl rfl rfl (by decide) rfl ?_
  refine r_iconst C dX11_planned_6 ?_
  refine r_iald (c := 1) (N := 365) C dX11_planned_7 rfl rfl (by decide) (by omega) ?_
  have b7 := hb 1 0 3 (by omega) (by omega)
  refine r_iconst C dX11_planned_8 ?_
  refine r_isub C dX11_planned_9 ?_
  refine r_csi C dX11_planned_10 ms_X11_60 (c_X11_within e l _ _ _ _ (by omega) (by omega) (by omega)) (by decide) rfl rfl (Nat.le_of_ble_eq_true rfl) (fun z10 σ10 h10 => ?_)
  obtain ⟨rfl, rfl⟩ := h10
  refine r_ifb_ne 23 C dX11_planned_13 (by decide) (fun h13 => ?_) (fun h13 => ?_)
  · refine r_aload_n C dX11_planned_23 rfl ?_
    refine r_cvv (c := 1) C dX11_planned_24 mv_X11_174 (c_X11_findPlan e l _ A hR hA) (by decide) rfl rfl rfl rfl (by decide) rfl rfl (Nat.le_of_ble_eq_true rfl) (fun σ24 h24 => ?_)
    obtain ⟨hR2, hf1, hf2⟩ := h24
    have b16 := hR2.1 0 0 16 (by omega) (by omega)
    have b17 := hR2.1 0 0 17 (by omega) (by omega)
    have b18 := hR2.1 0 0 18 (by omega) (by omega)
    have e3 : σ24 1 0 3 = nLp A := (mF hR2 hA).2.2.2.2.2.2.2.2.2.2.1
    refine r_aload_n C dX11_planned_27 rfl ?_
    refine r_get_i (c := 1) 16 C dX11_planned_28 fl_X11_162 rfl rfl rfl rfl (by decide) ?_
    refine r_if_ge 43 C dX11_planned_31 (by decide) (by omega) (fun h31 => ?_) (fun h31 => ?_)
    · refine r_aload_n C dX11_planned_43 rfl ?_
      refine r_get_i (c := 1) 18 C dX11_planned_44 fl_X11_171 rfl rfl rfl rfl (by decide) ?_
      refine r_iconst C dX11_planned_47 ?_
      refine r_aload_n C dX11_planned_48 rfl ?_
      refine r_get_r (c := 1) C dX11_planned_49 fl_X11_9 rfl rfl rfl (by decide) rfl ?_
      refine r_iconst C dX11_planned_52 ?_
      refine r_iald (c := 1) (N := 365) C dX11_planned_53 rfl rfl (by decide) (by omega) ?_
      refine r_v (b := nLp A) e3 ?_
      refine r_iconst C dX11_planned_54 ?_
      refine r_isub C dX11_planned_55 ?_
      refine r_iload_n C dX11_planned_56 rfl ?_
      refine r_isub C dX11_planned_57 ?_
      refine r_imul C dX11_planned_58 ?_
      refine r_ishr _ C dX11_planned_59 (z_shr (by omega) (by omega)) ?_
      refine r_iconst C dX11_planned_60 ?_
      refine r_iand _ C dX11_planned_61 (z_mask _ 2 4 rfl (by decide) (by decide)) ?_
      refine r_iret C dX11_planned_62 ?_
      first
      | (have e1 : oPlanned k A = fnd A (-100006) := by unfold oPlanned; repeat (first | rw [if_pos (by omega)] | rw [if_neg (by omega)])
         exact ⟨_, rfl, by rw [e1]; rfl, by rw [e1]; exact rel_mfnd hR2 _⟩)
      | (have e1 : oPlanned k A = ((plRA A).2.2 k, A) := by unfold oPlanned; repeat (first | rw [if_pos (by omega)] | rw [if_neg (by omega)])
         exact ⟨_, rfl, by rw [e1]; have q := hf2 (by omega) k.toNat (by have q2 : nLp A = ((cO A.1).length : Int) := rfl; omega); rw [Int.toNat_of_nonneg (by omega)] at q; exact q.symm, by rw [e1]; exact hR2⟩)
    · refine r_aload_n C dX11_planned_34 rfl ?_
      refine r_ldc C dX11_planned_35 kc_X11_67 ?_
      refine r_cvi (c := 1) C dX11_planned_37 mv_X11_68 (c_X11_finding e l _ _) (by decide) rfl rfl rfl rfl (by decide) rfl rfl (Nat.le_of_ble_eq_true rfl) (fun z37 σ37 h37 => ?_)
      obtain ⟨rfl, rfl⟩ := h37
      refine r_goto 62 C dX11_planned_40 (by decide) ?_
      refine r_iret C dX11_planned_62 ?_
      first
      | (have e1 : oPlanned k A = fnd A (-100006) := by unfold oPlanned; repeat (first | rw [if_pos (by omega)] | rw [if_neg (by omega)])
         exact ⟨_, rfl, by rw [e1]; rfl, by rw [e1]; exact rel_mfnd hR2 _⟩)
      | (have e1 : oPlanned k A = ((plRA A).2.2 k, A) := by unfold oPlanned; repeat (first | rw [if_pos (by omega)] | rw [if_neg (by omega)])
         exact ⟨_, rfl, by rw [e1]; have q := hf2 (by omega) k.toNat (by have q2 : nLp A = ((cO A.1).length : Int) := rfl; omega); rw [Int.toNat_of_nonneg (by omega)] at q; exact q.symm, by rw [e1]; exact hR2⟩)
  · refine r_aload_n C dX11_planned_16 rfl ?_
    refine r_ldc C dX11_planned_17 kc_X11_72 ?_
    refine r_cvi (c := 1) C dX11_planned_19 mv_X11_68 (c_X11_finding e l _ _) (by decide) rfl rfl rfl rfl (by decide) rfl rfl (Nat.le_of_ble_eq_true rfl) (fun z19 σ19 h19 => ?_)
    obtain ⟨rfl, rfl⟩ := h19
    refine r_iret C dX11_planned_22 ?_
    have e1 : oPlanned k A = fnd A (-100001) := by unfold oPlanned; repeat (first | rw [if_pos (by omega)] | rw [if_neg (by omega)])
    exact ⟨_, rfl, by rw [e1]; rfl, by rw [e1]; exact rel_mfnd hR _⟩
set_option maxRecDepth 20000 in
theorem m_plans (e : qR) (l : Launch) (σ : qSt) (A : aSt) (hR : RelM σ A) (hA : AOk A)   : CM (EM e) l yX11_plans cX11_plans 1 (some .int) 20 [qr 0 0] σ (Ri fun z σ' => z = (oPlans A).1 ∧ RelM σ' (oPlans A).2) := by
  refine CM.mk tM_ok (by decide +kernel) (Nat.le_of_ble_eq_true rfl) (fun G C => ?_)
  show G σ 0 [some (qr 0 0)] []
  obtain ⟨hb, e0, n0, m0, e1w, n1, m1, e2t, n2, m2, e3l, n3, m3, hk0, hk20⟩ := mF hR hA
  refine r_aload_n C dX11_plans_0 rfl ?_
  refine r_cvv (c := 1) C dX11_plans_1 mv_X11_174 (c_X11_findPlan e l _ A hR hA) (by decide) rfl rfl rfl rfl (by decide) rfl rfl (Nat.le_of_ble_eq_true rfl) (fun σ1 h1 => ?_)
  obtain ⟨hR2, hf1, hf2⟩ := h1
  have b16 := hR2.1 0 0 16 (by omega) (by omega)
  have b17 := hR2.1 0 0 17 (by omega) (by omega)
  have b18 := hR2.1 0 0 18 (by omega) (by omega)
  have e3 : σ1 1 0 3 = nLp A := (mF hR2 hA).2.2.2.2.2.2.2.2.2.2.1
  refine r_aload_n C dX11_plans_4 rfl ?_
  refine r_get_i (c := 1) 17 C dX11_plans_5 fl_X11_165 rfl rfl rfl rfl (by decide) ?_
  refine r_iret C dX11_plans_8 ?_
  exact ⟨_, rfl, by show _ = (plRA A).2.1; omega, hR2⟩
