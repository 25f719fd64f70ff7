/-! the reference: give, allCases -/
set_option maxHeartbeats 4000000 in
set_option maxRecDepth 100000 in
theorem c_Md_give1 (l : Launch) (D : va_G) (cI cZ cP cR cC : ClassId) (tS : Nat) (sz : Nat) (B : mw_M) (ad : Nat → Nat) (cw : Nat → va_E) (ho : m_ov B ad) (sw ru dn : Nat) (h0 : cw 0 = m_0 ad sw ru dn) (rs : List rk_Ru) (it : Nat → Int32) (bd : Nat → Nat) (h5 : cw 5 = .inl (cI, 156, .inl it)) (h6 : cw 6 = .inl (cI, 13, .inl (rk_nf bd))) (hru : m_rul it bd rs) (kk : Nat) (hkk : kk < rs.length) (vl : Nat → Nat) (h8 : cw 8 = .inl (cI, 9, .inl (rk_nf vl))) (hvl : ∀ i, vl i < 32) (sp : Nat → Nat) (h3 : cw 3 = .inl (cI, 32768, .inl (rk_nf sp))) :
    Met l y_Md_give (.code y_Md_give b_Md_give 5 (some .boolean) :: gw) ({ frames := 1, cells := 0, slots := 0, locals := 22 }) (va_Pc [.ref (ad 0), .int (nI kk), .int 1] (mw_B D k_cl (k_tys cI cZ cP cR cC) (k_g tS) (mw_ov B ad cw 12) sz)) (va_Qi (fun (r : Int32) (M1 : mw_M) => r = 1 ∧ M1 = mw_ov B ad (va_up cw 3 (.inl (cI, 32768, .inl (rk_nf (va_up sp (rk_inst (rk_rth rs kk).2 (rk_as vl)) (sp (rk_inst (rk_rth rs kk).2 (rk_as vl)) + 1)))))) 12) (mw_E D k_cl (mw_ov B ad cw 12) sz) (mw_A (mw_ov B ad cw 12) sz)) 0 0 (mw_A (mw_ov B ad cw 12) sz) := by
  refine mw_met (by decide) rfl (Nat.le_of_ble_eq_true rfl) ?_
  intro p e s m below meth c hsz J hr hlk hnm hK hZ hP hS hA ls hl
  subst hsz
  have hx := J.1
  have hb := J.2.1
  have hts := J.2.2.2.2
  have hl : lv_has ls 5 [(0, .ref (ad 0)), (1, .int (nI kk)), (2, .int 1)] := hl
  have hr12 := hru.1
  obtain ⟨hok, hbd, hrd, hhd⟩ := hru.2 kk hkk
  have hn3 : (rk_rth rs kk).1.length ≤ 3 := hok.2.1
  have hn1 : 0 < (rk_rth rs kk).1.length := hok.1
  have hz : (rk_inst (rk_rth rs kk).2 (rk_as vl)) < 32768 := rk_inst_lt (rk_as_ok hvl)
  refine lv_bipush (v := 12) hx hb d_Md_give_0 (by decide) ?_
  refine mw_top (x' := nI 12) rfl ?_
  refine lv_iload_n hx hb d_Md_give_2 rfl (lv_at hl 1 rfl) ?_
  refine lv_imul hx hb d_Md_give_3 ?_
  refine mw_top (x' := nI (12 * kk)) (pk_mul _ _) ?_
  refine lv_iconst (v := 3) hx hb d_Md_give_4 (by decide) ?_
  refine mw_top (x' := nI 3) rfl ?_
  refine lv_aload_n hx hb d_Md_give_5 rfl (lv_at hl 0 rfl) ?_
  refine mw_get (v := .ref (ad 6)) (ci := 7) (C := R_Md) (T := T_Md) (N := 14) J i_Md hK hP (mw_ov_is (i := 0) ho.1 (by decide) h0) rfl 6 (by decide) (hts _ k_384) (fun _ h9 => h9) rfl d_Md_give_6 ?_
  refine lv_iload_n hx hb d_Md_give_9 rfl (lv_at hl 1 rfl) ?_
  refine mw_nald (k := kk) J hK hP 0 (mw_ov_is (i := 6) ho.1 (by decide) h6) rfl (by omega) (by decide) d_Md_give_10 ?_
  refine mw_top (x' := nI (rk_rth rs kk).1.length) (by rw [hbd]) ?_
  refine lv_imul hx hb d_Md_give_11 ?_
  refine mw_top (x' := nI (3 * (rk_rth rs kk).1.length)) (pk_mul _ _) ?_
  refine lv_iadd hx hb d_Md_give_12 ?_
  refine mw_top (x' := nI (12 * kk + 3 * (rk_rth rs kk).1.length)) (nI_add _ _) ?_
  refine lv_istore_n (lv' := [(3, .int (nI (12 * kk + 3 * (rk_rth rs kk).1.length))), (0, .ref (ad 0)), (1, .int (nI kk)), (2, .int 1)]) hx hb d_Md_give_13 rfl hl (by decide) rfl (fun ls hl => ?_)
  refine lv_aload_n hx hb d_Md_give_14 rfl (lv_at hl 1 rfl) ?_
  refine lv_aload_n hx hb d_Md_give_15 rfl (lv_at hl 1 rfl) ?_
  refine mw_get (v := .ref (ad 5)) (ci := 7) (C := R_Md) (T := T_Md) (N := 14) J i_Md hK hP (mw_ov_is (i := 0) ho.1 (by decide) h0) rfl 5 (by decide) (hts _ k_383) (fun _ h9 => h9) rfl d_Md_give_16 ?_
  refine lv_iload_n hx hb d_Md_give_19 rfl (lv_at hl 0 rfl) ?_
  refine mw_ialdN (k := (12 * kk + 3 * (rk_rth rs kk).1.length)) J hK hP 0 (mw_ov_is (i := 5) ho.1 (by decide) h5) rfl (by omega) (by decide) d_Md_give_20 ?_
  refine mw_top (x' := rk_iv (rk_at (rk_rth rs kk).2 0)) (hhd.2 0 (by decide)) ?_
  refine mw_afterI hP hS hA (mw_runV (As := [.int (rk_iv (rk_at (rk_rth rs kk).2 0))]) (rest := []) J hK hZ hP hS hA (mw_ov_is (i := 0) ho.1 (by decide) h0) rfl (c_Md_value l D cI cZ cP cR cC tS _ B ad cw ho sw ru dn h0 (rk_at (rk_rth rs kk).2 0) (hhd.1 0 (by decide)) vl h8) (cwV 1 hts (mw_gV k_463 k_465 s_Md_value k_8 k_466) rfl rfl rfl (by decide +kernel) ⟨Nat.le_of_ble_eq_true rfl, Nat.le_of_ble_eq_true rfl⟩) rfl hl.1 rfl (Nat.le_of_ble_eq_true rfl) d_Md_give_21 ⟨Nat.le_of_ble_eq_true rfl, Nat.le_of_ble_eq_true rfl⟩) (fun rv0 M1 H locs hw hP hS => ?_)
  obtain ⟨rfl, rfl⟩ := hw
  refine lv_aload_n hx hb d_Md_give_24 rfl (lv_at hl 1 rfl) ?_
  refine lv_aload_n hx hb d_Md_give_25 rfl (lv_at hl 1 rfl) ?_
  refine mw_get (v := .ref (ad 5)) (ci := 7) (C := R_Md) (T := T_Md) (N := 14) J i_Md hK hP (mw_ov_is (i := 0) ho.1 (by decide) h0) rfl 5 (by decide) (hts _ k_383) (fun _ h9 => h9) rfl d_Md_give_26 ?_
  refine lv_iload_n hx hb d_Md_give_29 rfl (lv_at hl 0 rfl) ?_
  refine lv_iconst (v := 1) hx hb d_Md_give_30 (by decide) ?_
  refine mw_top (x' := nI 1) rfl ?_
  refine lv_iadd hx hb d_Md_give_31 ?_
  refine mw_top (x' := nI (12 * kk + 3 * (rk_rth rs kk).1.length + 1)) (nI_add _ _) ?_
  refine mw_ialdN (k := (12 * kk + 3 * (rk_rth rs kk).1.length + 1)) J hK hP 0 (mw_ov_is (i := 5) ho.1 (by decide) h5) rfl (by omega) (by decide) d_Md_give_32 ?_
  refine mw_top (x' := rk_iv (rk_at (rk_rth rs kk).2 1)) (hhd.2 1 (by decide)) ?_
  refine mw_afterI hP hS hA (mw_runV (As := [.int (rk_iv (rk_at (rk_rth rs kk).2 1))]) (rest := [.int (nI (rk_val (rk_at (rk_rth rs kk).2 0) (rk_as vl)))]) J hK hZ hP hS hA (mw_ov_is (i := 0) ho.1 (by decide) h0) rfl (c_Md_value l D cI cZ cP cR cC tS _ B ad cw ho sw ru dn h0 (rk_at (rk_rth rs kk).2 1) (hhd.1 1 (by decide)) vl h8) (cwV 1 hts (mw_gV k_463 k_465 s_Md_value k_8 k_466) rfl rfl rfl (by decide +kernel) ⟨Nat.le_of_ble_eq_true rfl, Nat.le_of_ble_eq_true rfl⟩) rfl hl.1 rfl (Nat.le_of_ble_eq_true rfl) d_Md_give_33 ⟨Nat.le_of_ble_eq_true rfl, Nat.le_of_ble_eq_true rfl⟩) (fun rv1 M1 H locs hw hP hS => ?_)
  obtain ⟨rfl, rfl⟩ := hw
  refine lv_aload_n hx hb d_Md_give_36 rfl (lv_at hl 1 rfl) ?_
  refine lv_aload_n hx hb d_Md_give_37 rfl (lv_at hl 1 rfl) ?_
  refine mw_get (v := .ref (ad 5)) (ci := 7) (C := R_Md) (T := T_Md) (N := 14) J i_Md hK hP (mw_ov_is (i := 0) ho.1 (by decide) h0) rfl 5 (by decide) (hts _ k_383) (fun _ h9 => h9) rfl d_Md_give_38 ?_
  refine lv_iload_n hx hb d_Md_give_41 rfl (lv_at hl 0 rfl) ?_
  refine lv_iconst (v := 2) hx hb d_Md_give_42 (by decide) ?_
  refine mw_top (x' := nI 2) rfl ?_
  refine lv_iadd hx hb d_Md_give_43 ?_
  refine mw_top (x' := nI (12 * kk + 3 * (rk_rth rs kk).1.length + 2)) (nI_add _ _) ?_
  refine mw_ialdN (k := (12 * kk + 3 * (rk_rth rs kk).1.length + 2)) J hK hP 0 (mw_ov_is (i := 5) ho.1 (by decide) h5) rfl (by omega) (by decide) d_Md_give_44 ?_
  refine mw_top (x' := rk_iv (rk_at (rk_rth rs kk).2 2)) (hhd.2 2 (by decide)) ?_
  refine mw_afterI hP hS hA (mw_runV (As := [.int (rk_iv (rk_at (rk_rth rs kk).2 2))]) (rest := [.int (nI (rk_val (rk_at (rk_rth rs kk).2 1) (rk_as vl))), .int (nI (rk_val (rk_at (rk_rth rs kk).2 0) (rk_as vl)))]) J hK hZ hP hS hA (mw_ov_is (i := 0) ho.1 (by decide) h0) rfl (c_Md_value l D cI cZ cP cR cC tS _ B ad cw ho sw ru dn h0 (rk_at (rk_rth rs kk).2 2) (hhd.1 2 (by decide)) vl h8) (cwV 1 hts (mw_gV k_463 k_465 s_Md_value k_8 k_466) rfl rfl rfl (by decide +kernel) ⟨Nat.le_of_ble_eq_true rfl, Nat.le_of_ble_eq_true rfl⟩) rfl hl.1 rfl (Nat.le_of_ble_eq_true rfl) d_Md_give_45 ⟨Nat.le_of_ble_eq_true rfl, Nat.le_of_ble_eq_true rfl⟩) (fun rv2 M1 H locs hw hP hS => ?_)
  obtain ⟨rfl, rfl⟩ := hw
  have htri : rk_tri (nI (rk_val (rk_at (rk_rth rs kk).2 0) (rk_as vl))) (nI (rk_val (rk_at (rk_rth rs kk).2 1) (rk_as vl))) (nI (rk_val (rk_at (rk_rth rs kk).2 2) (rk_as vl))) (rk_inst (rk_rth rs kk).2 (rk_as vl)) := ⟨_, _, _, rk_val_lt (rk_as_ok hvl), rk_val_lt (rk_as_ok hvl), rk_val_lt (rk_as_ok hvl), rfl, rfl, rfl, rfl⟩
  refine mw_afterI hP hS hA (mw_runS (As := [.int (nI (rk_val (rk_at (rk_rth rs kk).2 0) (rk_as vl))), .int (nI (rk_val (rk_at (rk_rth rs kk).2 1) (rk_as vl))), .int (nI (rk_val (rk_at (rk_rth rs kk).2 2) (rk_as vl)))]) (rest := []) J hK hZ hP hS hA (c_Md_code l D cI cZ cP cR cC tS _ (mw_ov B ad cw 12) _ _ _ (rk_inst (rk_rth rs kk).2 (rk_as vl)) htri) (cwS 3 hts (mw_gS k_429 k_430 k_8 k_431) rfl rfl rfl (by decide +kernel) ⟨Nat.le_of_ble_eq_true rfl, Nat.le_of_ble_eq_true rfl⟩) rfl hl.1 rfl (Nat.le_of_ble_eq_true rfl) d_Md_give_48 ⟨Nat.le_of_ble_eq_true rfl, Nat.le_of_ble_eq_true rfl⟩) (fun rc M1 H locs hw hP hS => ?_)
  obtain ⟨rfl, rfl⟩ := hw
  refine lv_istore (lv' := [(4, .int (nI (rk_inst (rk_rth rs kk).2 (rk_as vl)))), (3, .int (nI (12 * kk + 3 * (rk_rth rs kk).1.length))), (0, .ref (ad 0)), (1, .int (nI kk)), (2, .int 1)]) hx hb d_Md_give_51 hl (by decide) rfl (fun ls hl => ?_)
  refine lv_iload_n hx hb d_Md_give_53 rfl (lv_at hl 4 rfl) ?_
  refine lv_if_eq (tgt := 70) hx hb d_Md_give_54 (by decide) (fun c_54 => absurd c_54 (by decide)) (fun c_54 => ?_)
  refine lv_aload_n hx hb d_Md_give_57 rfl (lv_at hl 2 rfl) ?_
  refine mw_get (v := .ref (ad 3)) (ci := 7) (C := R_Md) (T := T_Md) (N := 14) J i_Md hK hP (mw_ov_is (i := 0) ho.1 (by decide) h0) rfl 2 (by decide) (hts _ k_380) (fun _ h9 => h9) rfl d_Md_give_58 ?_
  refine lv_iload hx hb d_Md_give_61 (lv_at hl 0 rfl) ?_
  refine lv_dup2_11 hx hb d_Md_give_63 rfl rfl ?_
  refine mw_nald (k := (rk_inst (rk_rth rs kk).2 (rk_as vl))) J hK hP 0 (mw_ov_is (i := 3) ho.1 (by decide) h3) rfl hz (by decide) d_Md_give_64 ?_
  refine lv_iconst (v := 1) hx hb d_Md_give_65 (by decide) ?_
  refine mw_top (x' := nI 1) rfl ?_
  refine lv_iadd hx hb d_Md_give_66 ?_
  refine mw_top (x' := nI (sp (rk_inst (rk_rth rs kk).2 (rk_as vl)) + 1)) (nI_add _ _) ?_
  refine mw_nast (k := (rk_inst (rk_rth rs kk).2 (rk_as vl))) (x := (sp (rk_inst (rk_rth rs kk).2 (rk_as vl)) + 1)) J hK hP hS 0 (mw_ov_is (i := 3) ho.1 (by decide) h3) rfl hz (by decide) d_Md_give_67 (fun H locs hP hS => ?_)
  rw [mw_ov_set ho.1 (by decide)] at hP
  have hP : mw_P D k_cl (mw_ov B ad (va_up cw 3 (.inl (cI, 32768, .inl (rk_nf (va_up sp (rk_inst (rk_rth rs kk).2 (rk_as vl)) (sp (rk_inst (rk_rth rs kk).2 (rk_as vl)) + 1)))))) 12) _ H := hP
  refine lv_iconst (v := 1) hx hb d_Md_give_68 (by decide) ?_
  exact mw_zret J hr hlk rfl hP hS d_Md_give_69 (⟨rfl, rfl⟩)

set_option maxHeartbeats 4000000 in
set_option maxRecDepth 100000 in
theorem c_Md_give0 (l : Launch) (D : va_G) (cI cZ cP cR cC : ClassId) (tS : Nat) (sz : Nat) (B : mw_M) (ad : Nat → Nat) (cw : Nat → va_E) (ho : m_ov B ad) (ru dn : Nat) (L : List Nat) (hrw : m_row cI cZ ad cw ru dn L) (rs : List rk_Ru) (it : Nat → Int32) (bd : Nat → Nat) (h5 : cw 5 = .inl (cI, 156, .inl it)) (h6 : cw 6 = .inl (cI, 13, .inl (rk_nf bd))) (hru : m_rul it bd rs) (kk : Nat) (hkk : kk < rs.length) (vl : Nat → Nat) (h8 : cw 8 = .inl (cI, 9, .inl (rk_nf vl))) (hvl : ∀ i, vl i < 32) :
    Met l y_Md_give (.code y_Md_give b_Md_give 5 (some .boolean) :: gw) ({ frames := 1, cells := 0, slots := 0, locals := 22 }) (va_Pc [.ref (ad 0), .int (nI kk), .int 0] (mw_B D k_cl (k_tys cI cZ cP cR cC) (k_g tS) (mw_ov B ad cw 12) sz)) (va_Qi (fun (r : Int32) (M1 : mw_M) => ∃ cw1 L1, M1 = mw_ov B ad cw1 12 ∧ m_row cI cZ ad cw1 ru dn L1 ∧ (∀ i, i ≠ 0 → i ≠ 2 → i ≠ 4 → cw1 i = cw i) ∧ ((r = 1 ∧ (rk_inst (rk_rth rs kk).2 (rk_as vl)) ∈ L ∧ L1 = L) ∨ (r = 1 ∧ (rk_inst (rk_rth rs kk).2 (rk_as vl)) ∉ L ∧ L1 = L ++ [(rk_inst (rk_rth rs kk).2 (rk_as vl))]) ∨ (r = 0 ∧ L1 = L ∧ (rk_inst (rk_rth rs kk).2 (rk_as vl)) ∉ L ∧ L.length = 300))) (mw_E D k_cl (mw_ov B ad cw 12) sz) (mw_A (mw_ov B ad cw 12) sz)) 0 0 (mw_A (mw_ov B ad cw 12) sz) := by
  refine mw_met (by decide) rfl (Nat.le_of_ble_eq_true rfl) ?_
  intro p e s m below meth c hsz J hr hlk hnm hK hZ hP hS hA ls hl
  subst hsz
  have hx := J.1
  have hb := J.2.1
  have hts := J.2.2.2.2
  have hl : lv_has ls 5 [(0, .ref (ad 0)), (1, .int (nI kk)), (2, .int 0)] := hl
  have h0 := hrw.1
  have hr12 := hru.1
  obtain ⟨hok, hbd, hrd, hhd⟩ := hru.2 kk hkk
  have hn3 : (rk_rth rs kk).1.length ≤ 3 := hok.2.1
  have hn1 : 0 < (rk_rth rs kk).1.length := hok.1
  have hz : (rk_inst (rk_rth rs kk).2 (rk_as vl)) < 32768 := rk_inst_lt (rk_as_ok hvl)
  refine lv_bipush (v := 12) hx hb d_Md_give_0 (by decide) ?_
  refine mw_top (x' := nI 12) rfl ?_
  refine lv_iload_n hx hb d_Md_give_2 rfl (lv_at hl 1 rfl) ?_
  refine lv_imul hx hb d_Md_give_3 ?_
  refine mw_top (x' := nI (12 * kk)) (pk_mul _ _) ?_
  refine lv_iconst (v := 3) hx hb d_Md_give_4 (by decide) ?_
  refine mw_top (x' := nI 3) rfl ?_
  refine lv_aload_n hx hb d_Md_give_5 rfl (lv_at hl 0 rfl) ?_
  refine mw_get (v := .ref (ad 6)) (ci := 7) (C := R_Md) (T := T_Md) (N := 14) J i_Md hK hP (mw_ov_is (i := 0) ho.1 (by decide) h0) rfl 6 (by decide) (hts _ k_384) (fun _ h9 => h9) rfl d_Md_give_6 ?_
  refine lv_iload_n hx hb d_Md_give_9 rfl (lv_at hl 1 rfl) ?_
  refine mw_nald (k := kk) J hK hP 0 (mw_ov_is (i := 6) ho.1 (by decide) h6) rfl (by omega) (by decide) d_Md_give_10 ?_
  refine mw_top (x' := nI (rk_rth rs kk).1.length) (by rw [hbd]) ?_
  refine lv_imul hx hb d_Md_give_11 ?_
  refine mw_top (x' := nI (3 * (rk_rth rs kk).1.length)) (pk_mul _ _) ?_
  refine lv_iadd hx hb d_Md_give_12 ?_
  refine mw_top (x' := nI (12 * kk + 3 * (rk_rth rs kk).1.length)) (nI_add _ _) ?_
  refine lv_istore_n (lv' := [(3, .int (nI (12 * kk + 3 * (rk_rth rs kk).1.length))), (0, .ref (ad 0)), (1, .int (nI kk)), (2, .int 0)]) hx hb d_Md_give_13 rfl hl (by decide) rfl (fun ls hl => ?_)
  refine lv_aload_n hx hb d_Md_give_14 rfl (lv_at hl 1 rfl) ?_
  refine lv_aload_n hx hb d_Md_give_15 rfl (lv_at hl 1 rfl) ?_
  refine mw_get (v := .ref (ad 5)) (ci := 7) (C := R_Md) (T := T_Md) (N := 14) J i_Md hK hP (mw_ov_is (i := 0) ho.1 (by decide) h0) rfl 5 (by decide) (hts _ k_383) (fun _ h9 => h9) rfl d_Md_give_16 ?_
  refine lv_iload_n hx hb d_Md_give_19 rfl (lv_at hl 0 rfl) ?_
  refine mw_ialdN (k := (12 * kk + 3 * (rk_rth rs kk).1.length)) J hK hP 0 (mw_ov_is (i := 5) ho.1 (by decide) h5) rfl (by omega) (by decide) d_Md_give_20 ?_
  refine mw_top (x' := rk_iv (rk_at (rk_rth rs kk).2 0)) (hhd.2 0 (by decide)) ?_
  refine mw_afterI hP hS hA (mw_runV (As := [.int (rk_iv (rk_at (rk_rth rs kk).2 0))]) (rest := []) J hK hZ hP hS hA (mw_ov_is (i := 0) ho.1 (by decide) h0) rfl (c_Md_value l D cI cZ cP cR cC tS _ B ad cw ho L.length ru dn h0 (rk_at (rk_rth rs kk).2 0) (hhd.1 0 (by decide)) vl h8) (cwV 1 hts (mw_gV k_463 k_465 s_Md_value k_8 k_466) rfl rfl rfl (by decide +kernel) ⟨Nat.le_of_ble_eq_true rfl, Nat.le_of_ble_eq_true rfl⟩) rfl hl.1 rfl (Nat.le_of_ble_eq_true rfl) d_Md_give_21 ⟨Nat.le_of_ble_eq_true rfl, Nat.le_of_ble_eq_true rfl⟩) (fun rv0 M1 H locs hw hP hS => ?_)
  obtain ⟨rfl, rfl⟩ := hw
  refine lv_aload_n hx hb d_Md_give_24 rfl (lv_at hl 1 rfl) ?_
  refine lv_aload_n hx hb d_Md_give_25 rfl (lv_at hl 1 rfl) ?_
  refine mw_get (v := .ref (ad 5)) (ci := 7) (C := R_Md) (T := T_Md) (N := 14) J i_Md hK hP (mw_ov_is (i := 0) ho.1 (by decide) h0) rfl 5 (by decide) (hts _ k_383) (fun _ h9 => h9) rfl d_Md_give_26 ?_
  refine lv_iload_n hx hb d_Md_give_29 rfl (lv_at hl 0 rfl) ?_
  refine lv_iconst (v := 1) hx hb d_Md_give_30 (by decide) ?_
  refine mw_top (x' := nI 1) rfl ?_
  refine lv_iadd hx hb d_Md_give_31 ?_
  refine mw_top (x' := nI (12 * kk + 3 * (rk_rth rs kk).1.length + 1)) (nI_add _ _) ?_
  refine mw_ialdN (k := (12 * kk + 3 * (rk_rth rs kk).1.length + 1)) J hK hP 0 (mw_ov_is (i := 5) ho.1 (by decide) h5) rfl (by omega) (by decide) d_Md_give_32 ?_
  refine mw_top (x' := rk_iv (rk_at (rk_rth rs kk).2 1)) (hhd.2 1 (by decide)) ?_
  refine mw_afterI hP hS hA (mw_runV (As := [.int (rk_iv (rk_at (rk_rth rs kk).2 1))]) (rest := [.int (nI (rk_val (rk_at (rk_rth rs kk).2 0) (rk_as vl)))]) J hK hZ hP hS hA (mw_ov_is (i := 0) ho.1 (by decide) h0) rfl (c_Md_value l D cI cZ cP cR cC tS _ B ad cw ho L.length ru dn h0 (rk_at (rk_rth rs kk).2 1) (hhd.1 1 (by decide)) vl h8) (cwV 1 hts (mw_gV k_463 k_465 s_Md_value k_8 k_466) rfl rfl rfl (by decide +kernel) ⟨Nat.le_of_ble_eq_true rfl, Nat.le_of_ble_eq_true rfl⟩) rfl hl.1 rfl (Nat.le_of_ble_eq_true rfl) d_Md_give_33 ⟨Nat.le_of_ble_eq_true rfl, Nat.le_of_ble_eq_true rfl⟩) (fun rv1 M1 H locs hw hP hS => ?_)
  obtain ⟨rfl, rfl⟩ := hw
  refine lv_aload_n hx hb d_Md_give_36 rfl (lv_at hl 1 rfl) ?_
  refine lv_aload_n hx hb d_Md_give_37 rfl (lv_at hl 1 rfl) ?_
  refine mw_get (v := .ref (ad 5)) (ci := 7) (C := R_Md) (T := T_Md) (N := 14) J i_Md hK hP (mw_ov_is (i := 0) ho.1 (by decide) h0) rfl 5 (by decide) (hts _ k_383) (fun _ h9 => h9) rfl d_Md_give_38 ?_
  refine lv_iload_n hx hb d_Md_give_41 rfl (lv_at hl 0 rfl) ?_
  refine lv_iconst (v := 2) hx hb d_Md_give_42 (by decide) ?_
  refine mw_top (x' := nI 2) rfl ?_
  refine lv_iadd hx hb d_Md_give_43 ?_
  refine mw_top (x' := nI (12 * kk + 3 * (rk_rth rs kk).1.length + 2)) (nI_add _ _) ?_
  refine mw_ialdN (k := (12 * kk + 3 * (rk_rth rs kk).1.length + 2)) J hK hP 0 (mw_ov_is (i := 5) ho.1 (by decide) h5) rfl (by omega) (by decide) d_Md_give_44 ?_
  refine mw_top (x' := rk_iv (rk_at (rk_rth rs kk).2 2)) (hhd.2 2 (by decide)) ?_
  refine mw_afterI hP hS hA (mw_runV (As := [.int (rk_iv (rk_at (rk_rth rs kk).2 2))]) (rest := [.int (nI (rk_val (rk_at (rk_rth rs kk).2 1) (rk_as vl))), .int (nI (rk_val (rk_at (rk_rth rs kk).2 0) (rk_as vl)))]) J hK hZ hP hS hA (mw_ov_is (i := 0) ho.1 (by decide) h0) rfl (c_Md_value l D cI cZ cP cR cC tS _ B ad cw ho L.length ru dn h0 (rk_at (rk_rth rs kk).2 2) (hhd.1 2 (by decide)) vl h8) (cwV 1 hts (mw_gV k_463 k_465 s_Md_value k_8 k_466) rfl rfl rfl (by decide +kernel) ⟨Nat.le_of_ble_eq_true rfl, Nat.le_of_ble_eq_true rfl⟩) rfl hl.1 rfl (Nat.le_of_ble_eq_true rfl) d_Md_give_45 ⟨Nat.le_of_ble_eq_true rfl, Nat.le_of_ble_eq_true rfl⟩) (fun rv2 M1 H locs hw hP hS => ?_)
  obtain ⟨rfl, rfl⟩ := hw
  have htri : rk_tri (nI (rk_val (rk_at (rk_rth rs kk).2 0) (rk_as vl))) (nI (rk_val (rk_at (rk_rth rs kk).2 1) (rk_as vl))) (nI (rk_val (rk_at (rk_rth rs kk).2 2) (rk_as vl))) (rk_inst (rk_rth rs kk).2 (rk_as vl)) := ⟨_, _, _, rk_val_lt (rk_as_ok hvl), rk_val_lt (rk_as_ok hvl), rk_val_lt (rk_as_ok hvl), rfl, rfl, rfl, rfl⟩
  refine mw_afterI hP hS hA (mw_runS (As := [.int (nI (rk_val (rk_at (rk_rth rs kk).2 0) (rk_as vl))), .int (nI (rk_val (rk_at (rk_rth rs kk).2 1) (rk_as vl))), .int (nI (rk_val (rk_at (rk_rth rs kk).2 2) (rk_as vl)))]) (rest := []) J hK hZ hP hS hA (c_Md_code l D cI cZ cP cR cC tS _ (mw_ov B ad cw 12) _ _ _ (rk_inst (rk_rth rs kk).2 (rk_as vl)) htri) (cwS 3 hts (mw_gS k_429 k_430 k_8 k_431) rfl rfl rfl (by decide +kernel) ⟨Nat.le_of_ble_eq_true rfl, Nat.le_of_ble_eq_true rfl⟩) rfl hl.1 rfl (Nat.le_of_ble_eq_true rfl) d_Md_give_48 ⟨Nat.le_of_ble_eq_true rfl, Nat.le_of_ble_eq_true rfl⟩) (fun rc M1 H locs hw hP hS => ?_)
  obtain ⟨rfl, rfl⟩ := hw
  refine lv_istore (lv' := [(4, .int (nI (rk_inst (rk_rth rs kk).2 (rk_as vl)))), (3, .int (nI (12 * kk + 3 * (rk_rth rs kk).1.length))), (0, .ref (ad 0)), (1, .int (nI kk)), (2, .int 0)]) hx hb d_Md_give_51 hl (by decide) rfl (fun ls hl => ?_)
  refine lv_iload_n hx hb d_Md_give_53 rfl (lv_at hl 4 rfl) ?_
  refine lv_if_eq (tgt := 70) hx hb d_Md_give_54 (by decide) (fun c_54 => ?_) (fun c_54 => absurd (rfl) c_54)
  refine lv_aload_n hx hb d_Md_give_70 rfl (lv_at hl 2 rfl) ?_
  refine lv_iload hx hb d_Md_give_71 (lv_at hl 0 rfl) ?_
  refine mw_afterI hP hS hA (mw_runV (As := [.int (nI (rk_inst (rk_rth rs kk).2 (rk_as vl)))]) (rest := []) J hK hZ hP hS hA (mw_ov_is (i := 0) ho.1 (by decide) h0) rfl (c_Md_come l D cI cZ cP cR cC tS _ B ad cw ho ru dn L hrw (rk_inst (rk_rth rs kk).2 (rk_as vl)) hz) (cwV 1 hts (mw_gV k_436 k_438 s_Md_come k_8 k_439) rfl rfl rfl (by decide +kernel) ⟨Nat.le_of_ble_eq_true rfl, Nat.le_of_ble_eq_true rfl⟩) rfl hl.1 rfl (Nat.le_of_ble_eq_true rfl) d_Md_give_73 ⟨Nat.le_of_ble_eq_true rfl, Nat.le_of_ble_eq_true rfl⟩) (fun r9 M1 H locs hw hP hS => ?_)
  obtain ⟨cw1, L1, rfl, g1, g2, g3⟩ := hw
  exact mw_zret J hr hlk (by rcases g3 with ⟨h, _⟩ | ⟨h, _⟩ | ⟨h, _⟩ <;> rw [h] <;> rfl) hP hS d_Md_give_76 (⟨cw1, L1, rfl, g1, g2, g3⟩)

set_option maxHeartbeats 4000000 in
set_option maxRecDepth 100000 in
theorem c_Md_allCases1 (l : Launch) (D : va_G) (cI cZ cP cR cC : ClassId) (tS : Nat) (sz : Nat) (B : mw_M) (ad : Nat → Nat) (cw : Nat → va_E) (ho : m_ov B ad) (ru dn : Nat) (L : List Nat) (hrw : m_row cI cZ ad cw ru dn L) (rs : List rk_Ru) (it : Nat → Int32) (bd : Nat → Nat) (h5 : cw 5 = .inl (cI, 156, .inl it)) (h6 : cw 6 = .inl (cI, 13, .inl (rk_nf bd))) (hru : m_rul it bd rs) (kk : Nat) (hkk : kk < rs.length) (vl : Nat → Nat) (h8 : cw 8 = .inl (cI, 9, .inl (rk_nf vl))) (hvl : ∀ i, vl i < 32) (bn : Nat → Nat) (h9 : cw 9 = .inl (cI, 9, .inl (rk_nf bn))) (hbn : ∀ j, j < 9 → bn j = 0) (pl : Nat → Int32) (h10 : cw 10 = .inl (cI, 3, .inl pl)) (sp : Nat → Nat) (h3 : cw 3 = .inl (cI, 32768, .inl (rk_nf sp))) :
    Met l y_Md_allCases (.code y_Md_allCases b_Md_allCases 6 (some .boolean) :: gw) ({ frames := 2, cells := 0, slots := 0, locals := 51 }) (va_Pc [.ref (ad 0), .int (nI kk), .int 1] (mw_B D k_cl (k_tys cI cZ cP cR cC) (k_g tS) (mw_ov B ad cw 12) sz)) (va_Qi (fun (r : Int32) (M1 : mw_M) => ∃ cw1 sp1, M1 = mw_ov B ad cw1 12 ∧ m_row cI cZ ad cw1 ru dn L ∧ cw1 3 = .inl (cI, 32768, .inl (rk_nf sp1)) ∧ (∃ vl1, cw1 8 = .inl (cI, 9, .inl (rk_nf vl1)) ∧ ∀ i, vl1 i < 32) ∧ (∃ bn1, cw1 9 = .inl (cI, 9, .inl (rk_nf bn1))) ∧ (∃ pl1, cw1 10 = .inl (cI, 3, .inl pl1)) ∧ (∀ i, i ≠ 0 → i ≠ 2 → i ≠ 3 → i ≠ 4 → i ≠ 8 → i ≠ 9 → i ≠ 10 → cw1 i = cw i) ∧ r = 1 ∧ ∀ c, sp1 c = sp c + rk_sup L (rk_rth rs kk) c) (mw_E D k_cl (mw_ov B ad cw 12) sz) (mw_A (mw_ov B ad cw 12) sz)) 0 0 (mw_A (mw_ov B ad cw 12) sz) := by
  refine mw_met (by decide) rfl (Nat.le_of_ble_eq_true rfl) ?_
  intro p e s m below meth c hsz J hr hlk hnm hK hZ hP hS hA ls hl
  subst hsz
  have hx := J.1
  have hb := J.2.1
  have hts := J.2.2.2.2
  have hl : lv_has ls 6 [(0, .ref (ad 0)), (1, .int (nI kk)), (2, .int 1)] := hl
  have h0 := hrw.1
  have hr12 := hru.1
  obtain ⟨hok, hbd, hrd, hhd⟩ := hru.2 kk hkk
  have hn3 : (rk_rth rs kk).1.length ≤ 3 := hok.2.1
  have hn1 : 0 < (rk_rth rs kk).1.length := hok.1
  refine lv_aload_n hx hb d_Md_allCases_0 rfl (lv_at hl 0 rfl) ?_
  refine mw_get (v := .ref (ad 6)) (ci := 7) (C := R_Md) (T := T_Md) (N := 14) J i_Md hK hP (mw_ov_is (i := 0) ho.1 (by decide) h0) rfl 6 (by decide) (hts _ k_384) (fun _ h9 => h9) rfl d_Md_allCases_1 ?_
  refine lv_iload_n hx hb d_Md_allCases_4 rfl (lv_at hl 1 rfl) ?_
  refine mw_nald (k := kk) J hK hP 0 (mw_ov_is (i := 6) ho.1 (by decide) h6) rfl (by omega) (by decide) d_Md_allCases_5 ?_
  refine mw_top (x' := nI (rk_rth rs kk).1.length) (by rw [hbd]) ?_
  refine lv_istore_n (lv' := [(3, .int (nI (rk_rth rs kk).1.length)), (0, .ref (ad 0)), (1, .int (nI kk)), (2, .int 1)]) hx hb d_Md_allCases_6 rfl hl (by decide) rfl (fun ls hl => ?_)
  refine lv_iconst (v := 0) hx hb d_Md_allCases_7 (by decide) ?_
  refine mw_top (x' := nI 1 + (-1)) (by decide) ?_
  refine lv_istore (lv' := [(4, .int (nI 1 + (-1))), (3, .int (nI (rk_rth rs kk).1.length)), (0, .ref (ad 0)), (1, .int (nI kk)), (2, .int 1)]) hx hb d_Md_allCases_8 hl (by decide) rfl (fun ls hl => ?_)
  refine lv_aload_n hx hb d_Md_allCases_10 rfl (lv_at hl 2 rfl) ?_
  refine mw_get (v := .ref (ad 10)) (ci := 7) (C := R_Md) (T := T_Md) (N := 14) J i_Md hK hP (mw_ov_is (i := 0) ho.1 (by decide) h0) rfl 12 (by decide) (hts _ k_390) (fun _ h9 => h9) rfl d_Md_allCases_11 ?_
  refine lv_iconst (v := 0) hx hb d_Md_allCases_14 (by decide) ?_
  refine mw_top (x' := nI 0) nI_0.symm ?_
  refine lv_iconst (v := (-1)) hx hb d_Md_allCases_15 (by decide) ?_
  refine mw_iastN (k := 0) J hK hP hS 0 (mw_ov_is (i := 10) ho.1 (by decide) h10) rfl (by decide) (by decide) d_Md_allCases_16 (fun H locs hP hS => ?_)
  rw [mw_ov_set ho.1 (by decide)] at hP
  have hP : mw_P D k_cl (mw_ov B ad (va_up cw 10 (.inl (cI, 3, .inl (upd pl 0 (-1))))) 12) _ H := hP
  have hst0 : m_hd (rk_rth rs kk) L vl bn (upd pl 0 (-1)) (fun _ => 0) 1 := m_hd_start hn1 hbn
  have hrw1 : m_row cI cZ ad (va_up cw 10 (.inl (cI, 3, .inl (upd pl 0 (-1))))) ru dn L := by exact m_row_s hrw rfl rfl rfl
  have h81 : (va_up cw 10 (.inl (cI, 3, .inl (upd pl 0 (-1))))) 8 = .inl (cI, 9, .inl (rk_nf vl)) := h8
  have h91 : (va_up cw 10 (.inl (cI, 3, .inl (upd pl 0 (-1))))) 9 = .inl (cI, 9, .inl (rk_nf bn)) := h9
  have h31 : (va_up cw 10 (.inl (cI, 3, .inl (upd pl 0 (-1))))) 3 = .inl (cI, 32768, .inl (rk_nf sp)) := h3
  refine mw_loopm (W' := fun H locs ls => W p l e _ s m _ below meth c H locs _ _ _ (F0 m 17 ls [])) 110174432 (fun i H locs ls => ∃ (cx : Nat → va_E), ∃ (p2 : Nat → Nat), ∃ (D2 : Nat), ∃ (vx : Nat → Nat), ∃ (bx : Nat → Nat), ∃ (plx : Nat → Int32), ∃ (sx : Nat → Nat), lv_has ls 6 [(0, .ref (ad 0)), (1, .int (nI kk)), (2, .int 1), (3, .int (nI (rk_rth rs kk).1.length)), (4, .int (nI D2 + (-1)))] ∧ (m_row cI cZ ad cx ru dn L) ∧ (cx 3 = .inl (cI, 32768, .inl (rk_nf sx))) ∧ (cx 8 = .inl (cI, 9, .inl (rk_nf vx))) ∧ (cx 9 = .inl (cI, 9, .inl (rk_nf bx))) ∧ (cx 10 = .inl (cI, 3, .inl plx)) ∧ (∀ i, i ≠ 0 → i ≠ 2 → i ≠ 3 → i ≠ 4 → i ≠ 8 → i ≠ 9 → i ≠ 10 → cx i = cw i) ∧ (∀ j, vx j < 32) ∧ (m_hd (rk_rth rs kk) L vx bx plx p2 D2) ∧ (rk_I1 L (rk_rth rs kk) sp sx p2 D2) ∧ (i = rk_mes p2 D2) ∧ mw_P D k_cl (mw_ov B ad cx 12) (mw_A (mw_ov B ad cw 12) s.heap.size) H ∧ va_S (mw_A (mw_ov B ad cw 12) s.heap.size) s.heap H locs) ?_ 110174432 (rk_mes (fun _ => 0) 1) (Nat.sub_le _ _) (by decide) _ _ _ ⟨_, (fun _ => 0), 1, vl, bn, _, sp, lv_sub hl [2, 3, 4, 1, 0] rfl, hrw1, h31, h81, h91, rfl, (fun i a0 a2 a3 a4 a8 a9 a10 => va_up_ne _ _ a10), hvl, hst0, (rk_I1_start rfl), rfl, hP, hS⟩
  intro i H locs ls hi_17 hI_17 ih_17
  obtain ⟨cx, p2, D2, vx, bx, plx, sx, hl, hrx, hx3, hx8, hx9, hx10, hxo, hvx, hhx, hIx, hme, hP, hS⟩ := hI_17
  have hD3 : D2 ≤ (rk_rth rs kk).1.length := hhx.1
  obtain ⟨-, ⟨rw0, hx4, hrow⟩, -, hL3, hnd, hlt⟩ := id hrx
  refine lv_iload hx hb d_Md_allCases_17 (lv_at hl 4 rfl) ?_
  refine lv_if_lt (tgt := 182) hx hb d_Md_allCases_19 (by decide) (fun c_19 => ?_) (fun c_19 => ?_)
  · have hD0 : D2 = 0 := (rk_m1_0 (by omega)).mp c_19
    refine lv_iconst (v := 1) hx hb d_Md_allCases_182 (by decide) ?_
    exact mw_zret J hr hlk rfl hP hS d_Md_allCases_183 (⟨cx, sx, rfl, hrx, hx3, ⟨vx, hx8, hvx⟩, ⟨bx, hx9⟩, ⟨plx, hx10⟩, hxo, rfl, fun c => by have := hIx c; rw [hD0] at this; exact this⟩)
  · obtain ⟨d, rfl⟩ : ∃ d, D2 = d + 1 := ⟨D2 - 1, by have : ¬ D2 = 0 := fun z => c_19 ((rk_m1_0 (by omega)).mpr z); omega⟩
    rw [pk_m1] at hl
    have hpc := hhx.2.2.1 d rfl
    have hqd := hhx.2.2.2.2.1 d rfl
    have hbx := hhx.2.2.2.2.2 d rfl
    have hdn : d < (rk_rth rs kk).1.length := hhx.1
    refine lv_bipush (v := 12) hx hb d_Md_allCases_22 (by decide) ?_
    refine mw_top (x' := nI 12) rfl ?_
    refine lv_iload_n hx hb d_Md_allCases_24 rfl (lv_at hl 1 rfl) ?_
    refine lv_imul hx hb d_Md_allCases_25 ?_
    refine mw_top (x' := nI (12 * kk)) (pk_mul _ _) ?_
    refine lv_iconst (v := 3) hx hb d_Md_allCases_26 (by decide) ?_
    refine mw_top (x' := nI 3) rfl ?_
    refine lv_iload hx hb d_Md_allCases_27 (lv_at hl 4 rfl) ?_
    refine lv_imul hx hb d_Md_allCases_29 ?_
    refine mw_top (x' := nI (3 * d)) (pk_mul _ _) ?_
    refine lv_iadd hx hb d_Md_allCases_30 ?_
    refine mw_top (x' := nI (12 * kk + 3 * d)) (nI_add _ _) ?_
    refine lv_istore (lv' := [(5, .int (nI (12 * kk + 3 * d))), (0, .ref (ad 0)), (1, .int (nI kk)), (2, .int 1), (3, .int (nI (rk_rth rs kk).1.length)), (4, .int (nI d))]) hx hb d_Md_allCases_31 hl (by decide) rfl (fun ls hl => ?_)
    refine lv_aload_n hx hb d_Md_allCases_33 rfl (lv_at hl 1 rfl) ?_
    refine mw_get (v := .ref (ad 10)) (ci := 7) (C := R_Md) (T := T_Md) (N := 14) J i_Md hK hP (mw_ov_is (i := 0) ho.1 (by decide) hrx.1) rfl 12 (by decide) (hts _ k_390) (fun _ h9 => h9) rfl d_Md_allCases_34 ?_
    refine lv_iload hx hb d_Md_allCases_37 (lv_at hl 5 rfl) ?_
    refine mw_ialdN (k := d) J hK hP 0 (mw_ov_is (i := 10) ho.1 (by decide) hx10) rfl (by omega) (by decide) d_Md_allCases_39 ?_
    refine mw_top (x' := nI (p2 d) + (-1)) hpc ?_
    refine lv_if_lt (tgt := 54) hx hb d_Md_allCases_40 (by decide) (fun c_40 => ?_) (fun c_40 => ?_)
    · have hq0 : p2 d = 0 := (rk_m1_0 (by omega)).mp c_40
      obtain ⟨cy, by0, hcy, hy9, hyo, hbz⟩ : ∃ cy by0, mw_ov B ad cy 12 = mw_ov B ad cx 12 ∧ cy 9 = .inl (cI, 9, .inl (rk_nf by0)) ∧ (∀ i, i ≠ 9 → cy i = cx i) ∧ ∀ x, x < 8 → by0 (x + 1) = rk_ocs (rk_rth rs kk) d x := ⟨cx, bx, rfl, hx9, fun _ _ => rfl, fun x hx => by rw [hbx x hx, if_pos hq0]; rfl⟩
      rw [← hcy] at hP
      refine lv_aload_n hx hb d_Md_allCases_54 rfl (lv_at hl 1 rfl) ?_
      refine mw_get (v := .ref (ad 10)) (ci := 7) (C := R_Md) (T := T_Md) (N := 14) J i_Md hK hP (mw_ov_is (i := 0) ho.1 (by decide) ((hyo 0 (by decide)).trans hrx.1)) rfl 12 (by decide) (hts _ k_390) (fun _ h9 => h9) rfl d_Md_allCases_55 ?_
      refine lv_iload hx hb d_Md_allCases_58 (lv_at hl 5 rfl) ?_
      refine lv_dup2_11 hx hb d_Md_allCases_60 rfl rfl ?_
      refine mw_ialdN (k := d) J hK hP 0 (mw_ov_is (i := 10) ho.1 (by decide) ((hyo 10 (by decide)).trans hx10)) rfl (by omega) (by decide) d_Md_allCases_61 ?_
      refine mw_top (x' := nI (p2 d) + (-1)) hpc ?_
      refine lv_iconst (v := 1) hx hb d_Md_allCases_62 (by decide) ?_
      refine lv_iadd hx hb d_Md_allCases_63 ?_
      refine mw_top (x' := nI (p2 d)) (rk_m1p1 _) ?_
      refine mw_iastN (k := d) J hK hP hS 0 (mw_ov_is (i := 10) ho.1 (by decide) ((hyo 10 (by decide)).trans hx10)) rfl (by omega) (by decide) d_Md_allCases_64 (fun H locs hP hS => ?_)
      rw [mw_ov_set ho.1 (by decide)] at hP
      have hP : mw_P D k_cl (mw_ov B ad (va_up cy 10 (.inl (cI, 3, .inl (upd plx d (nI (p2 d)))))) 12) _ H := hP
      refine mw_loop (W' := fun H locs ls => W p l e _ s m _ below meth c H locs _ _ _ (F0 m 65 ls [])) L.length (fun t H locs ls => ∃ (cz : Nat → va_E), ∃ (vz : Nat → Nat), ∃ (bz : Nat → Nat), ∃ (plz : Nat → Int32), lv_has ls 6 [(0, .ref (ad 0)), (1, .int (nI kk)), (2, .int 1), (3, .int (nI (rk_rth rs kk).1.length)), (4, .int (nI d)), (5, .int (nI (12 * kk + 3 * d)))] ∧ (cz 8 = .inl (cI, 9, .inl (rk_nf vz))) ∧ (cz 9 = .inl (cI, 9, .inl (rk_nf bz))) ∧ (cz 10 = .inl (cI, 3, .inl plz)) ∧ (∀ i, i ≠ 8 → i ≠ 9 → i ≠ 10 → cz i = cx i) ∧ (∀ j, vz j < 32) ∧ (∀ x, x < 8 → 0 < rk_ocs (rk_rth rs kk) d x → vz (x + 1) = vx (x + 1)) ∧ (∀ x, x < 8 → bz (x + 1) = rk_ocs (rk_rth rs kk) d x) ∧ (plz d = nI t) ∧ (∀ j, j ≠ d → plz j = plx j) ∧ (p2 d ≤ t) ∧ (∀ t1, p2 d ≤ t1 → t1 < t → ∀ v, rk_okV v → rk_pre (rk_rth rs kk) (rk_w L p2) d v → rk_inst (rk_nth (rk_rth rs kk) d) v ≠ L.getD t1 0) ∧ mw_P D k_cl (mw_ov B ad cz 12) (mw_A (mw_ov B ad cw 12) s.heap.size) H ∧ va_S (mw_A (mw_ov B ad cw 12) s.heap.size) s.heap H locs) ?_ L.length (p2 d) (by omega) (by omega) _ _ _ ⟨_, vx, by0, _, lv_sub hl [1, 2, 3, 4, 5, 0] rfl, ((va_up_ne _ _ (by decide)).trans ((hyo 8 (by decide)).trans hx8)), ((va_up_ne _ _ (by decide)).trans hy9), rfl, (fun i a8 a9 a10 => (va_up_ne _ _ a10).trans (hyo i a9)), hvx, (fun _ _ _ => rfl), hbz, pk_us, (fun j hj => pk_un hj), (Nat.le_refl _), (fun t1 a b => absurd b (by omega)), hP, hS⟩
      intro t H locs ls hi_65 hI ih_65
      obtain ⟨cz, vz, bz, plz, hl, z8, z9, z10, hzo, hvz, hvk, hbz, hpz, hpzo, hqt, hnt, hP, hS⟩ := hI
      refine lv_aload_n hx hb d_Md_allCases_65 rfl (lv_at hl 0 rfl) ?_
      refine mw_get (v := .ref (ad 10)) (ci := 7) (C := R_Md) (T := T_Md) (N := 14) J i_Md hK hP (mw_ov_is (i := 0) ho.1 (by decide) ((hzo 0 (by decide) (by decide) (by decide)).trans hrx.1)) rfl 12 (by decide) (hts _ k_390) (fun _ h9 => h9) rfl d_Md_allCases_66 ?_
      refine lv_iload hx hb d_Md_allCases_69 (lv_at hl 4 rfl) ?_
      refine mw_ialdN (k := d) J hK hP 0 (mw_ov_is (i := 10) ho.1 (by decide) z10) rfl (by omega) (by decide) d_Md_allCases_71 ?_
      refine mw_top (x' := nI t) hpz ?_
      refine lv_aload_n hx hb d_Md_allCases_72 rfl (lv_at hl 0 rfl) ?_
      refine mw_get (v := .int (nI L.length)) (ci := 7) (C := R_Md) (T := T_Md) (N := 14) J i_Md hK hP (mw_ov_is (i := 0) ho.1 (by decide) ((hzo 0 (by decide) (by decide) (by decide)).trans hrx.1)) rfl 4 (by decide) (hts _ k_382) (fun _ h9 => h9) rfl d_Md_allCases_73 ?_
      refine lv_icmp_ge (tgt := 118) hx hb d_Md_allCases_76 (by decide) (fun c_76 => ?_) (fun c_76 => ?_)
      · have c_76 : L.length ≤ t := (nI_leI (by omega) (by omega)).mp c_76
        have hte : t = L.length := by omega
        refine lv_aload_n hx hb d_Md_allCases_118 rfl (lv_at hl 0 rfl) ?_
        refine mw_get (v := .ref (ad 10)) (ci := 7) (C := R_Md) (T := T_Md) (N := 14) J i_Md hK hP (mw_ov_is (i := 0) ho.1 (by decide) ((hzo 0 (by decide) (by decide) (by decide)).trans hrx.1)) rfl 12 (by decide) (hts _ k_390) (fun _ h9 => h9) rfl d_Md_allCases_119 ?_
        refine lv_iload hx hb d_Md_allCases_122 (lv_at hl 4 rfl) ?_
        refine mw_ialdN (k := d) J hK hP 0 (mw_ov_is (i := 10) ho.1 (by decide) z10) rfl (by omega) (by decide) d_Md_allCases_124 ?_
        refine mw_top (x' := nI t) hpz ?_
        refine lv_aload_n hx hb d_Md_allCases_125 rfl (lv_at hl 0 rfl) ?_
        refine mw_get (v := .int (nI L.length)) (ci := 7) (C := R_Md) (T := T_Md) (N := 14) J i_Md hK hP (mw_ov_is (i := 0) ho.1 (by decide) ((hzo 0 (by decide) (by decide) (by decide)).trans hrx.1)) rfl 4 (by decide) (hts _ k_382) (fun _ h9 => h9) rfl d_Md_allCases_126 ?_
        refine lv_icmp_ne (tgt := 146) hx hb d_Md_allCases_129 (by decide) (fun c_129 => absurd (by rw [hte]) c_129) (fun c_129 => ?_)
        refine lv_aload_n hx hb d_Md_allCases_132 rfl (lv_at hl 0 rfl) ?_
        refine mw_get (v := .ref (ad 10)) (ci := 7) (C := R_Md) (T := T_Md) (N := 14) J i_Md hK hP (mw_ov_is (i := 0) ho.1 (by decide) ((hzo 0 (by decide) (by decide) (by decide)).trans hrx.1)) rfl 12 (by decide) (hts _ k_390) (fun _ h9 => h9) rfl d_Md_allCases_133 ?_
        refine lv_iload hx hb d_Md_allCases_136 (lv_at hl 4 rfl) ?_
        refine lv_iconst (v := (-1)) hx hb d_Md_allCases_138 (by decide) ?_
        refine mw_iastN (k := d) J hK hP hS 0 (mw_ov_is (i := 10) ho.1 (by decide) z10) rfl (by omega) (by decide) d_Md_allCases_139 (fun H locs hP hS => ?_)
        rw [mw_ov_set ho.1 (by decide)] at hP
        have hP : mw_P D k_cl (mw_ov B ad (va_up cz 10 (.inl (cI, 3, .inl (upd plz d (-1))))) 12) _ H := hP
        have hh2 := m_hd_up (pl2 := upd plz d (-1)) (rk_okR_nth hok) hhx hvk hbz (fun j hj => (pk_un hj).trans (hpzo j hj))
        refine lv_iinc (v := nI d + (-1)) (lv' := [(4, .int (nI d + (-1))), (0, .ref (ad 0)), (1, .int (nI kk)), (2, .int 1), (3, .int (nI (rk_rth rs kk).1.length)), (5, .int (nI (12 * kk + 3 * d)))]) hx hb d_Md_allCases_140 hl (k := 4) rfl (rfl) (by decide) rfl (fun ls hl => ?_)
        refine lv_goto (tgt := 179) hx hb d_Md_allCases_143 (by decide) ?_
        refine lv_goto (tgt := 17) hx hb d_Md_allCases_179 (by decide) ?_
        exact ih_17 (rk_mes (va_up p2 (d - 1) (p2 (d - 1) + 1)) d) _ _ _ (by rw [hme]; exact rk_mes_up (by omega) (fun j hj => Nat.le_trans (m_hd_le hhx j hj) hL3)) (rk_mes_le (by omega) (fun j hj => Nat.le_trans (m_hd_le hh2 j hj) hL3)) ⟨(va_up cz 10 (.inl (cI, 3, .inl (upd plz d (-1))))), _, d, vz, bz, _, sx, lv_sub hl [1, 2, 3, 4, 0] rfl, (m_row_s hrx (hzo 0 (by decide) (by decide) (by decide)) (hzo 2 (by decide) (by decide) (by decide)) (hzo 4 (by decide) (by decide) (by decide))), ((hzo 3 (by decide) (by decide) (by decide)).trans hx3), z8, z9, rfl, (fun i a0 a2 a3 a4 a8 a9 a10 => (va_up_ne _ _ a10).trans ((hzo i a8 a9 a10).trans (hxo i a0 a2 a3 a4 a8 a9 a10))), hvz, hh2, (rk_I1_up (by omega) (rk_I1_skip hIx (by omega) (by omega) (by rw [← hte]; exact hnt)) (fun j hj => (hhx.2.2.2.1 j (by omega)).1)), rfl, hP, hS⟩
      · have c_76 : ¬ (L.length ≤ t) := fun z => c_76 ((nI_leI (by omega) (by omega)).mpr z)
        refine lv_aload_n hx hb d_Md_allCases_79 rfl (lv_at hl 0 rfl) ?_
        refine lv_aload_n hx hb d_Md_allCases_80 rfl (lv_at hl 0 rfl) ?_
        refine mw_get (v := .ref (ad 5)) (ci := 7) (C := R_Md) (T := T_Md) (N := 14) J i_Md hK hP (mw_ov_is (i := 0) ho.1 (by decide) ((hzo 0 (by decide) (by decide) (by decide)).trans hrx.1)) rfl 5 (by decide) (hts _ k_383) (fun _ h9 => h9) rfl d_Md_allCases_81 ?_
        refine lv_iload hx hb d_Md_allCases_84 (lv_at hl 5 rfl) ?_
        refine lv_aload_n hx hb d_Md_allCases_86 rfl (lv_at hl 0 rfl) ?_
        refine mw_get (v := .ref (ad 4)) (ci := 7) (C := R_Md) (T := T_Md) (N := 14) J i_Md hK hP (mw_ov_is (i := 0) ho.1 (by decide) ((hzo 0 (by decide) (by decide) (by decide)).trans hrx.1)) rfl 3 (by decide) (hts _ k_381) (fun _ h9 => h9) rfl d_Md_allCases_87 ?_
        refine lv_aload_n hx hb d_Md_allCases_90 rfl (lv_at hl 0 rfl) ?_
        refine mw_get (v := .ref (ad 10)) (ci := 7) (C := R_Md) (T := T_Md) (N := 14) J i_Md hK hP (mw_ov_is (i := 0) ho.1 (by decide) ((hzo 0 (by decide) (by decide) (by decide)).trans hrx.1)) rfl 12 (by decide) (hts _ k_390) (fun _ h9 => h9) rfl d_Md_allCases_91 ?_
        refine lv_iload hx hb d_Md_allCases_94 (lv_at hl 4 rfl) ?_
        refine mw_ialdN (k := d) J hK hP 0 (mw_ov_is (i := 10) ho.1 (by decide) z10) rfl (by omega) (by decide) d_Md_allCases_96 ?_
        refine mw_top (x' := nI t) hpz ?_
        refine mw_nald (k := t) J hK hP 0 (mw_ov_is (i := 4) ho.1 (by decide) ((hzo 4 (by decide) (by decide) (by decide)).trans hx4)) rfl (by omega) (by decide) d_Md_allCases_97 ?_
        refine mw_top (x' := nI (L.getD t 0)) (by rw [hrow t (by omega)]) ?_
        refine mw_afterI hP hS hA (mw_runV (As := [.ref (ad 5), .int (nI (12 * kk + 3 * d)), .int (nI (L.getD t 0))]) (rest := []) J hK hZ hP hS hA (mw_ov_is (i := 0) ho.1 (by decide) ((hzo 0 (by decide) (by decide) (by decide)).trans hrx.1)) rfl (c_Md_bind l D cI cZ cP cR cC tS _ B ad cz ho L.length ru dn ((hzo 0 (by decide) (by decide) (by decide)).trans hrx.1) 5 156 (Or.inl rfl) it ((hzo 5 (by decide) (by decide) (by decide)).trans ((hxo 5 (by decide) (by decide) (by decide) (by decide) (by decide) (by decide) (by decide)).trans h5)) (12 * kk + 3 * d) (by decide) (by omega) (rk_nth (rk_rth rs kk) d) (hrd d hdn) (L.getD t 0) (hlt _ (rk_getD_mem (by omega))) vz bz (rk_ocs (rk_rth rs kk) d) z8 z9 hvz hbz (fun x hx => by have := rk_ocs_le (rk_rth rs kk) x d; omega)) (cwV 3 hts (mw_gV k_452 k_454 s_Md_bind k_8 k_455) rfl rfl rfl (by decide +kernel) ⟨Nat.le_of_ble_eq_true rfl, Nat.le_of_ble_eq_true rfl⟩) rfl hl.1 rfl (Nat.le_of_ble_eq_true rfl) d_Md_allCases_98 ⟨Nat.le_of_ble_eq_true rfl, Nat.le_of_ble_eq_true rfl⟩) (fun rb M1 H locs hw hP hS => ?_)
        obtain ⟨c3, v3, b3, rfl, g8, g9, g3o, hv3, hvk3, hbc⟩ := hw
        have hvk3x : ∀ x, x < 8 → 0 < rk_ocs (rk_rth rs kk) d x → v3 (x + 1) = vx (x + 1) := fun x hx h => (hvk3 x hx h).trans (hvk x hx h)
        have hprz := rk_pre_keep (fun j hj => rk_okR_nth hok j (by omega)) (m_hd_pre hhx) hvk
        refine lv_if_ne (tgt := 118) hx hb d_Md_allCases_101 (by decide) (fun c_101 => ?_) (fun c_101 => ?_)
        · obtain ⟨-, hb3, hin3⟩ := hbc.resolve_right (fun g => c_101 g.1)
          refine lv_aload_n hx hb d_Md_allCases_118 rfl (lv_at hl 0 rfl) ?_
          refine mw_get (v := .ref (ad 10)) (ci := 7) (C := R_Md) (T := T_Md) (N := 14) J i_Md hK hP (mw_ov_is (i := 0) ho.1 (by decide) (((g3o 0 (by decide) (by decide)).trans (hzo 0 (by decide) (by decide) (by decide))).trans hrx.1)) rfl 12 (by decide) (hts _ k_390) (fun _ h9 => h9) rfl d_Md_allCases_119 ?_
          refine lv_iload hx hb d_Md_allCases_122 (lv_at hl 4 rfl) ?_
          refine mw_ialdN (k := d) J hK hP 0 (mw_ov_is (i := 10) ho.1 (by decide) ((g3o 10 (by decide) (by decide)).trans z10)) rfl (by omega) (by decide) d_Md_allCases_124 ?_
          refine mw_top (x' := nI t) hpz ?_
          refine lv_aload_n hx hb d_Md_allCases_125 rfl (lv_at hl 0 rfl) ?_
          refine mw_get (v := .int (nI L.length)) (ci := 7) (C := R_Md) (T := T_Md) (N := 14) J i_Md hK hP (mw_ov_is (i := 0) ho.1 (by decide) (((g3o 0 (by decide) (by decide)).trans (hzo 0 (by decide) (by decide) (by decide))).trans hrx.1)) rfl 4 (by decide) (hts _ k_382) (fun _ h9 => h9) rfl d_Md_allCases_126 ?_
          refine lv_icmp_ne (tgt := 146) hx hb d_Md_allCases_129 (by decide) (fun c_129 => ?_) (fun c_129 => absurd c_129 (fun z => absurd ((nI_eq (by omega) (by omega)).mp z) (by omega)))
          refine lv_iload hx hb d_Md_allCases_146 (lv_at hl 4 rfl) ?_
          refine lv_iconst (v := 1) hx hb d_Md_allCases_148 (by decide) ?_
          refine lv_iadd hx hb d_Md_allCases_149 ?_
          refine mw_top (x' := nI (d + 1)) (nI_1 d) ?_
          refine lv_iload_n hx hb d_Md_allCases_150 rfl (lv_at hl 3 rfl) ?_
          refine lv_icmp_ge (tgt := 168) hx hb d_Md_allCases_151 (by decide) (fun c_151 => ?_) (fun c_151 => ?_)
          · have c_151 : ((rk_rth rs kk).1.length) ≤ (d + 1) := (nI_leI (by omega) (by omega)).mp c_151
            refine lv_aload_n hx hb d_Md_allCases_168 rfl (lv_at hl 0 rfl) ?_
            refine lv_iload_n hx hb d_Md_allCases_169 rfl (lv_at hl 1 rfl) ?_
            refine lv_iload_n hx hb d_Md_allCases_170 rfl (lv_at hl 2 rfl) ?_
            refine mw_afterI hP hS hA (mw_runV (As := [.int (nI kk), .int 1]) (rest := []) J hK hZ hP hS hA (mw_ov_is (i := 0) ho.1 (by decide) (((g3o 0 (by decide) (by decide)).trans (hzo 0 (by decide) (by decide) (by decide))).trans hrx.1)) rfl (c_Md_give1 l D cI cZ cP cR cC tS _ B ad c3 ho L.length ru dn (((g3o 0 (by decide) (by decide)).trans (hzo 0 (by decide) (by decide) (by decide))).trans hrx.1) rs it bd (((g3o 5 (by decide) (by decide)).trans (hzo 5 (by decide) (by decide) (by decide))).trans ((hxo 5 (by decide) (by decide) (by decide) (by decide) (by decide) (by decide) (by decide)).trans h5)) (((g3o 6 (by decide) (by decide)).trans (hzo 6 (by decide) (by decide) (by decide))).trans ((hxo 6 (by decide) (by decide) (by decide) (by decide) (by decide) (by decide) (by decide)).trans h6)) hru kk hkk v3 g8 hv3 sx (((g3o 3 (by decide) (by decide)).trans (hzo 3 (by decide) (by decide) (by decide))).trans hx3)) (cwV 2 hts (mw_gV k_459 k_461 s_Md_give k_8 k_462) rfl rfl rfl (by decide +kernel) ⟨Nat.le_of_ble_eq_true rfl, Nat.le_of_ble_eq_true rfl⟩) rfl hl.1 rfl (Nat.le_of_ble_eq_true rfl) d_Md_allCases_171 ⟨Nat.le_of_ble_eq_true rfl, Nat.le_of_ble_eq_true rfl⟩) (fun r9 M1 H locs hw hP hS => ?_)
            obtain ⟨rfl, rfl⟩ := hw
            have hh2 := m_hd_give (N' := []) (pl2 := plz) (rk_okR_nth hok) hhx (by omega) hvk3x hb3 hpz hpzo
            refine lv_if_ne (tgt := 179) hx hb d_Md_allCases_174 (by decide) (fun c_174 => ?_) (fun c_174 => absurd c_174 (by decide))
            refine lv_goto (tgt := 17) hx hb d_Md_allCases_179 (by decide) ?_
            exact ih_17 (rk_mes (va_up p2 d (t + 1)) (d + 1)) _ _ _ (by rw [hme]; exact rk_mes_give (by omega) (by omega)) (rk_mes_le (by omega) (fun j hj => Nat.le_trans (m_hd_le hh2 j hj) (by simpa using hL3))) ⟨(va_up c3 3 (.inl (cI, 32768, .inl (rk_nf (va_up sx (rk_inst (rk_rth rs kk).2 (rk_as v3)) (sx (rk_inst (rk_rth rs kk).2 (rk_as v3)) + 1)))))), _, (d + 1), v3, b3, plz, _, (by rw [pk_m1]; exact lv_sub hl [0, 1, 2, 3, 4] rfl), (m_row_s hrx ((g3o 0 (by decide) (by decide)).trans (hzo 0 (by decide) (by decide) (by decide))) ((g3o 2 (by decide) (by decide)).trans (hzo 2 (by decide) (by decide) (by decide))) ((g3o 4 (by decide) (by decide)).trans (hzo 4 (by decide) (by decide) (by decide)))), rfl, g8, g9, ((g3o 10 (by decide) (by decide)).trans z10), (fun i a0 a2 a3 a4 a8 a9 a10 => (va_up_ne _ _ a3).trans ((g3o i a8 a9).trans ((hzo i a8 a9 a10).trans (hxo i a0 a2 a3 a4 a8 a9 a10)))), hv3, (by have := hh2; rw [List.append_nil] at this; exact this), (rk_I1_give hok (by omega) (by omega) (rk_as_ok hv3) (rk_pre_keep (fun j hj => rk_okR_nth hok j (by omega)) (m_hd_pre hhx) hvk3x) hin3 (rk_I1_skip hIx (by omega) (by omega) hnt)), rfl, hP, hS⟩
          · have c_151 : ¬ (((rk_rth rs kk).1.length) ≤ (d + 1)) := fun z => c_151 ((nI_leI (by omega) (by omega)).mpr z)
            refine lv_iinc (v := nI (d + 1)) (lv' := [(4, .int (nI (d + 1))), (0, .ref (ad 0)), (1, .int (nI kk)), (2, .int 1), (3, .int (nI (rk_rth rs kk).1.length)), (5, .int (nI (12 * kk + 3 * d)))]) hx hb d_Md_allCases_154 hl (k := 4) rfl (nI_1 d) (by decide) rfl (fun ls hl => ?_)
            refine lv_aload_n hx hb d_Md_allCases_157 rfl (lv_at hl 1 rfl) ?_
            refine mw_get (v := .ref (ad 10)) (ci := 7) (C := R_Md) (T := T_Md) (N := 14) J i_Md hK hP (mw_ov_is (i := 0) ho.1 (by decide) (((g3o 0 (by decide) (by decide)).trans (hzo 0 (by decide) (by decide) (by decide))).trans hrx.1)) rfl 12 (by decide) (hts _ k_390) (fun _ h9 => h9) rfl d_Md_allCases_158 ?_
            refine lv_iload hx hb d_Md_allCases_161 (lv_at hl 0 rfl) ?_
            refine lv_iconst (v := (-1)) hx hb d_Md_allCases_163 (by decide) ?_
            refine mw_iastN (k := (d + 1)) J hK hP hS 0 (mw_ov_is (i := 10) ho.1 (by decide) ((g3o 10 (by decide) (by decide)).trans z10)) rfl (by omega) (by decide) d_Md_allCases_164 (fun H locs hP hS => ?_)
            rw [mw_ov_set ho.1 (by decide)] at hP
            have hP : mw_P D k_cl (mw_ov B ad (va_up c3 10 (.inl (cI, 3, .inl (upd plz (d + 1) (-1))))) 12) _ H := hP
            have hh2 := m_hd_down (pl2 := upd plz (d + 1) (-1)) (rk_okR_nth hok) hhx (by omega) (by omega) hvk3x hin3 hb3 ((pk_un (by omega)).trans hpz) pk_us (fun j h1 h2 => (pk_un h2).trans (hpzo j h1))
            refine lv_goto (tgt := 179) hx hb d_Md_allCases_165 (by decide) ?_
            refine lv_goto (tgt := 17) hx hb d_Md_allCases_179 (by decide) ?_
            exact ih_17 (rk_mes (va_up (va_up p2 d t) (d + 1) 0) (d + 2)) _ _ _ (by rw [hme]; exact rk_mes_down (by omega) (by omega)) (rk_mes_le (by omega) (fun j hj => Nat.le_trans (m_hd_le hh2 j hj) hL3)) ⟨(va_up c3 10 (.inl (cI, 3, .inl (upd plz (d + 1) (-1))))), _, (d + 2), v3, b3, _, sx, (by rw [pk_m1]; exact lv_sub hl [1, 2, 3, 4, 0] rfl), (m_row_s hrx ((g3o 0 (by decide) (by decide)).trans (hzo 0 (by decide) (by decide) (by decide))) ((g3o 2 (by decide) (by decide)).trans (hzo 2 (by decide) (by decide) (by decide))) ((g3o 4 (by decide) (by decide)).trans (hzo 4 (by decide) (by decide) (by decide)))), (((g3o 3 (by decide) (by decide)).trans (hzo 3 (by decide) (by decide) (by decide))).trans hx3), g8, g9, rfl, (fun i a0 a2 a3 a4 a8 a9 a10 => (va_up_ne _ _ a10).trans ((g3o i a8 a9).trans ((hzo i a8 a9 a10).trans (hxo i a0 a2 a3 a4 a8 a9 a10)))), hv3, hh2, (rk_I1_down (rk_I1_skip hIx (by omega) (by omega) hnt)), rfl, hP, hS⟩
        · obtain ⟨-, hb3, hno3⟩ := hbc.resolve_left (fun g => by rw [g.1] at c_101; exact absurd c_101 (by decide))
          have hnt2 : ∀ t1, p2 d ≤ t1 → t1 < t + 1 → ∀ v, rk_okV v → rk_pre (rk_rth rs kk) (rk_w L p2) d v → rk_inst (rk_nth (rk_rth rs kk) d) v ≠ L.getD t1 0 := fun t1 a b v hv hp => by
            by_cases e : t1 = t
            · rw [e]
              exact rk_no_pre hvz hprz hno3 v hv hp
            · exact hnt t1 a (by omega) v hv hp
          refine lv_aload_n hx hb d_Md_allCases_104 rfl (lv_at hl 0 rfl) ?_
          refine mw_get (v := .ref (ad 10)) (ci := 7) (C := R_Md) (T := T_Md) (N := 14) J i_Md hK hP (mw_ov_is (i := 0) ho.1 (by decide) (((g3o 0 (by decide) (by decide)).trans (hzo 0 (by decide) (by decide) (by decide))).trans hrx.1)) rfl 12 (by decide) (hts _ k_390) (fun _ h9 => h9) rfl d_Md_allCases_105 ?_
          refine lv_iload hx hb d_Md_allCases_108 (lv_at hl 4 rfl) ?_
          refine lv_dup2_11 hx hb d_Md_allCases_110 rfl rfl ?_
          refine mw_ialdN (k := d) J hK hP 0 (mw_ov_is (i := 10) ho.1 (by decide) ((g3o 10 (by decide) (by decide)).trans z10)) rfl (by omega) (by decide) d_Md_allCases_111 ?_
          refine mw_top (x' := nI t) hpz ?_
          refine lv_iconst (v := 1) hx hb d_Md_allCases_112 (by decide) ?_
          refine lv_iadd hx hb d_Md_allCases_113 ?_
          refine mw_top (x' := nI (t + 1)) (nI_1 t) ?_
          refine mw_iastN (k := d) J hK hP hS 0 (mw_ov_is (i := 10) ho.1 (by decide) ((g3o 10 (by decide) (by decide)).trans z10)) rfl (by omega) (by decide) d_Md_allCases_114 (fun H locs hP hS => ?_)
          rw [mw_ov_set ho.1 (by decide)] at hP
          have hP : mw_P D k_cl (mw_ov B ad (va_up c3 10 (.inl (cI, 3, .inl (upd plz d (nI (t + 1)))))) 12) _ H := hP
          refine lv_goto (tgt := 65) hx hb d_Md_allCases_115 (by decide) ?_
          exact ih_65 _ _ _ (by omega) ⟨(va_up c3 10 (.inl (cI, 3, .inl (upd plz d (nI (t + 1)))))), v3, b3, (upd plz d (nI (t + 1))), lv_sub hl [0, 1, 2, 3, 4, 5] rfl, g8, g9, rfl, (fun i a8 a9 a10 => (va_up_ne _ _ a10).trans ((g3o i a8 a9).trans (hzo i a8 a9 a10))), hv3, hvk3x, hb3, pk_us, (fun j hj => (pk_un hj).trans (hpzo j hj)), (by omega), (fun t1 a b v hv hp => hnt2 t1 a b v hv hp), hP, hS⟩
    · have hq0 : ¬ p2 d = 0 := fun z => c_40 ((rk_m1_0 (by omega)).mpr z)
      refine lv_aload_n hx hb d_Md_allCases_43 rfl (lv_at hl 1 rfl) ?_
      refine lv_aload_n hx hb d_Md_allCases_44 rfl (lv_at hl 1 rfl) ?_
      refine mw_get (v := .ref (ad 5)) (ci := 7) (C := R_Md) (T := T_Md) (N := 14) J i_Md hK hP (mw_ov_is (i := 0) ho.1 (by decide) hrx.1) rfl 5 (by decide) (hts _ k_383) (fun _ h9 => h9) rfl d_Md_allCases_45 ?_
      refine lv_iload hx hb d_Md_allCases_48 (lv_at hl 0 rfl) ?_
      refine lv_iconst (v := 3) hx hb d_Md_allCases_50 (by decide) ?_
      refine mw_top (x' := nI 3) rfl ?_
      refine mw_afterV hP hS hA (mw_runV (As := [.ref (ad 5), .int (nI (12 * kk + 3 * d)), .int (nI 3)]) (rest := []) J hK hZ hP hS hA (mw_ov_is (i := 0) ho.1 (by decide) hrx.1) rfl (c_Md_loosen l D cI cZ cP cR cC tS _ B ad cx ho L.length ru dn hrx.1 5 156 (Or.inl rfl) it ((hxo 5 (by decide) (by decide) (by decide) (by decide) (by decide) (by decide) (by decide)).trans h5) (12 * kk + 3 * d) (by decide) (by omega) (rk_nth (rk_rth rs kk) d) (hrd d hdn) 3 (Nat.le_refl 3) bx (rk_ocs (rk_rth rs kk) d) hx9 (fun x hx => by rw [hbx x hx, if_neg hq0])) (cwV 3 hts (mw_gV k_448 k_450 s_Md_loosen k_8 k_451) rfl rfl rfl (by decide +kernel) ⟨Nat.le_of_ble_eq_true rfl, Nat.le_of_ble_eq_true rfl⟩) rfl hl.1 rfl (Nat.le_of_ble_eq_true rfl) d_Md_allCases_51 ⟨Nat.le_of_ble_eq_true rfl, Nat.le_of_ble_eq_true rfl⟩) (fun M1 H locs hw hP hS => ?_)
      obtain ⟨cy, by0, rfl, hy9, hyo, hbz⟩ := hw
      refine lv_aload_n hx hb d_Md_allCases_54 rfl (lv_at hl 1 rfl) ?_
      refine mw_get (v := .ref (ad 10)) (ci := 7) (C := R_Md) (T := T_Md) (N := 14) J i_Md hK hP (mw_ov_is (i := 0) ho.1 (by decide) ((hyo 0 (by decide)).trans hrx.1)) rfl 12 (by decide) (hts _ k_390) (fun _ h9 => h9) rfl d_Md_allCases_55 ?_
      refine lv_iload hx hb d_Md_allCases_58 (lv_at hl 5 rfl) ?_
      refine lv_dup2_11 hx hb d_Md_allCases_60 rfl rfl ?_
      refine mw_ialdN (k := d) J hK hP 0 (mw_ov_is (i := 10) ho.1 (by decide) ((hyo 10 (by decide)).trans hx10)) rfl (by omega) (by decide) d_Md_allCases_61 ?_
      refine mw_top (x' := nI (p2 d) + (-1)) hpc ?_
      refine lv_iconst (v := 1) hx hb d_Md_allCases_62 (by decide) ?_
      refine lv_iadd hx hb d_Md_allCases_63 ?_
      refine mw_top (x' := nI (p2 d)) (rk_m1p1 _) ?_
      refine mw_iastN (k := d) J hK hP hS 0 (mw_ov_is (i := 10) ho.1 (by decide) ((hyo 10 (by decide)).trans hx10)) rfl (by omega) (by decide) d_Md_allCases_64 (fun H locs hP hS => ?_)
      rw [mw_ov_set ho.1 (by decide)] at hP
      have hP : mw_P D k_cl (mw_ov B ad (va_up cy 10 (.inl (cI, 3, .inl (upd plx d (nI (p2 d)))))) 12) _ H := hP
      refine mw_loop (W' := fun H locs ls => W p l e _ s m _ below meth c H locs _ _ _ (F0 m 65 ls [])) L.length (fun t H locs ls => ∃ (cz : Nat → va_E), ∃ (vz : Nat → Nat), ∃ (bz : Nat → Nat), ∃ (plz : Nat → Int32), lv_has ls 6 [(0, .ref (ad 0)), (1, .int (nI kk)), (2, .int 1), (3, .int (nI (rk_rth rs kk).1.length)), (4, .int (nI d)), (5, .int (nI (12 * kk + 3 * d)))] ∧ (cz 8 = .inl (cI, 9, .inl (rk_nf vz))) ∧ (cz 9 = .inl (cI, 9, .inl (rk_nf bz))) ∧ (cz 10 = .inl (cI, 3, .inl plz)) ∧ (∀ i, i ≠ 8 → i ≠ 9 → i ≠ 10 → cz i = cx i) ∧ (∀ j, vz j < 32) ∧ (∀ x, x < 8 → 0 < rk_ocs (rk_rth rs kk) d x → vz (x + 1) = vx (x + 1)) ∧ (∀ x, x < 8 → bz (x + 1) = rk_ocs (rk_rth rs kk) d x) ∧ (plz d = nI t) ∧ (∀ j, j ≠ d → plz j = plx j) ∧ (p2 d ≤ t) ∧ (∀ t1, p2 d ≤ t1 → t1 < t → ∀ v, rk_okV v → rk_pre (rk_rth rs kk) (rk_w L p2) d v → rk_inst (rk_nth (rk_rth rs kk) d) v ≠ L.getD t1 0) ∧ mw_P D k_cl (mw_ov B ad cz 12) (mw_A (mw_ov B ad cw 12) s.heap.size) H ∧ va_S (mw_A (mw_ov B ad cw 12) s.heap.size) s.heap H locs) ?_ L.length (p2 d) (by omega) (by omega) _ _ _ ⟨_, vx, by0, _, lv_sub hl [1, 2, 3, 4, 5, 0] rfl, ((va_up_ne _ _ (by decide)).trans ((hyo 8 (by decide)).trans hx8)), ((va_up_ne _ _ (by decide)).trans hy9), rfl, (fun i a8 a9 a10 => (va_up_ne _ _ a10).trans (hyo i a9)), hvx, (fun _ _ _ => rfl), hbz, pk_us, (fun j hj => pk_un hj), (Nat.le_refl _), (fun t1 a b => absurd b (by omega)), hP, hS⟩
      intro t H locs ls hi_65 hI ih_65
      obtain ⟨cz, vz, bz, plz, hl, z8, z9, z10, hzo, hvz, hvk, hbz, hpz, hpzo, hqt, hnt, hP, hS⟩ := hI
      refine lv_aload_n hx hb d_Md_allCases_65 rfl (lv_at hl 0 rfl) ?_
      refine mw_get (v := .ref (ad 10)) (ci := 7) (C := R_Md) (T := T_Md) (N := 14) J i_Md hK hP (mw_ov_is (i := 0) ho.1 (by decide) ((hzo 0 (by decide) (by decide) (by decide)).trans hrx.1)) rfl 12 (by decide) (hts _ k_390) (fun _ h9 => h9) rfl d_Md_allCases_66 ?_
      refine lv_iload hx hb d_Md_allCases_69 (lv_at hl 4 rfl) ?_
      refine mw_ialdN (k := d) J hK hP 0 (mw_ov_is (i := 10) ho.1 (by decide) z10) rfl (by omega) (by decide) d_Md_allCases_71 ?_
      refine mw_top (x' := nI t) hpz ?_
      refine lv_aload_n hx hb d_Md_allCases_72 rfl (lv_at hl 0 rfl) ?_
      refine mw_get (v := .int (nI L.length)) (ci := 7) (C := R_Md) (T := T_Md) (N := 14) J i_Md hK hP (mw_ov_is (i := 0) ho.1 (by decide) ((hzo 0 (by decide) (by decide) (by decide)).trans hrx.1)) rfl 4 (by decide) (hts _ k_382) (fun _ h9 => h9) rfl d_Md_allCases_73 ?_
      refine lv_icmp_ge (tgt := 118) hx hb d_Md_allCases_76 (by decide) (fun c_76 => ?_) (fun c_76 => ?_)
      · have c_76 : L.length ≤ t := (nI_leI (by omega) (by omega)).mp c_76
        have hte : t = L.length := by omega
        refine lv_aload_n hx hb d_Md_allCases_118 rfl (lv_at hl 0 rfl) ?_
        refine mw_get (v := .ref (ad 10)) (ci := 7) (C := R_Md) (T := T_Md) (N := 14) J i_Md hK hP (mw_ov_is (i := 0) ho.1 (by decide) ((hzo 0 (by decide) (by decide) (by decide)).trans hrx.1)) rfl 12 (by decide) (hts _ k_390) (fun _ h9 => h9) rfl d_Md_allCases_119 ?_
        refine lv_iload hx hb d_Md_allCases_122 (lv_at hl 4 rfl) ?_
        refine mw_ialdN (k := d) J hK hP 0 (mw_ov_is (i := 10) ho.1 (by decide) z10) rfl (by omega) (by decide) d_Md_allCases_124 ?_
        refine mw_top (x' := nI t) hpz ?_
        refine lv_aload_n hx hb d_Md_allCases_125 rfl (lv_at hl 0 rfl) ?_
        refine mw_get (v := .int (nI L.length)) (ci := 7) (C := R_Md) (T := T_Md) (N := 14) J i_Md hK hP (mw_ov_is (i := 0) ho.1 (by decide) ((hzo 0 (by decide) (by decide) (by decide)).trans hrx.1)) rfl 4 (by decide) (hts _ k_382) (fun _ h9 => h9) rfl d_Md_allCases_126 ?_
        refine lv_icmp_ne (tgt := 146) hx hb d_Md_allCases_129 (by decide) (fun c_129 => absurd (by rw [hte]) c_129) (fun c_129 => ?_)
        refine lv_aload_n hx hb d_Md_allCases_132 rfl (lv_at hl 0 rfl) ?_
        refine mw_get (v := .ref (ad 10)) (ci := 7) (C := R_Md) (T := T_Md) (N := 14) J i_Md hK hP (mw_ov_is (i := 0) ho.1 (by decide) ((hzo 0 (by decide) (by decide) (by decide)).trans hrx.1)) rfl 12 (by decide) (hts _ k_390) (fun _ h9 => h9) rfl d_Md_allCases_133 ?_
        refine lv_iload hx hb d_Md_allCases_136 (lv_at hl 4 rfl) ?_
        refine lv_iconst (v := (-1)) hx hb d_Md_allCases_138 (by decide) ?_
        refine mw_iastN (k := d) J hK hP hS 0 (mw_ov_is (i := 10) ho.1 (by decide) z10) rfl (by omega) (by decide) d_Md_allCases_139 (fun H locs hP hS => ?_)
        rw [mw_ov_set ho.1 (by decide)] at hP
        have hP : mw_P D k_cl (mw_ov B ad (va_up cz 10 (.inl (cI, 3, .inl (upd plz d (-1))))) 12) _ H := hP
        have hh2 := m_hd_up (pl2 := upd plz d (-1)) (rk_okR_nth hok) hhx hvk hbz (fun j hj => (pk_un hj).trans (hpzo j hj))
        refine lv_iinc (v := nI d + (-1)) (lv' := [(4, .int (nI d + (-1))), (0, .ref (ad 0)), (1, .int (nI kk)), (2, .int 1), (3, .int (nI (rk_rth rs kk).1.length)), (5, .int (nI (12 * kk + 3 * d)))]) hx hb d_Md_allCases_140 hl (k := 4) rfl (rfl) (by decide) rfl (fun ls hl => ?_)
        refine lv_goto (tgt := 179) hx hb d_Md_allCases_143 (by decide) ?_
        refine lv_goto (tgt := 17) hx hb d_Md_allCases_179 (by decide) ?_
        exact ih_17 (rk_mes (va_up p2 (d - 1) (p2 (d - 1) + 1)) d) _ _ _ (by rw [hme]; exact rk_mes_up (by omega) (fun j hj => Nat.le_trans (m_hd_le hhx j hj) hL3)) (rk_mes_le (by omega) (fun j hj => Nat.le_trans (m_hd_le hh2 j hj) hL3)) ⟨(va_up cz 10 (.inl (cI, 3, .inl (upd plz d (-1))))), _, d, vz, bz, _, sx, lv_sub hl [1, 2, 3, 4, 0] rfl, (m_row_s hrx (hzo 0 (by decide) (by decide) (by decide)) (hzo 2 (by decide) (by decide) (by decide)) (hzo 4 (by decide) (by decide) (by decide))), ((hzo 3 (by decide) (by decide) (by decide)).trans hx3), z8, z9, rfl, (fun i a0 a2 a3 a4 a8 a9 a10 => (va_up_ne _ _ a10).trans ((hzo i a8 a9 a10).trans (hxo i a0 a2 a3 a4 a8 a9 a10))), hvz, hh2, (rk_I1_up (by omega) (rk_I1_skip hIx (by omega) (by omega) (by rw [← hte]; exact hnt)) (fun j hj => (hhx.2.2.2.1 j (by omega)).1)), rfl, hP, hS⟩
      · have c_76 : ¬ (L.length ≤ t) := fun z => c_76 ((nI_leI (by omega) (by omega)).mpr z)
        refine lv_aload_n hx hb d_Md_allCases_79 rfl (lv_at hl 0 rfl) ?_
        refine lv_aload_n hx hb d_Md_allCases_80 rfl (lv_at hl 0 rfl) ?_
        refine mw_get (v := .ref (ad 5)) (ci := 7) (C := R_Md) (T := T_Md) (N := 14) J i_Md hK hP (mw_ov_is (i := 0) ho.1 (by decide) ((hzo 0 (by decide) (by decide) (by decide)).trans hrx.1)) rfl 5 (by decide) (hts _ k_383) (fun _ h9 => h9) rfl d_Md_allCases_81 ?_
        refine lv_iload hx hb d_Md_allCases_84 (lv_at hl 5 rfl) ?_
        refine lv_aload_n hx hb d_Md_allCases_86 rfl (lv_at hl 0 rfl) ?_
        refine mw_get (v := .ref (ad 4)) (ci := 7) (C := R_Md) (T := T_Md) (N := 14) J i_Md hK hP (mw_ov_is (i := 0) ho.1 (by decide) ((hzo 0 (by decide) (by decide) (by decide)).trans hrx.1)) rfl 3 (by decide) (hts _ k_381) (fun _ h9 => h9) rfl d_Md_allCases_87 ?_
        refine lv_aload_n hx hb d_Md_allCases_90 rfl (lv_at hl 0 rfl) ?_
        refine mw_get (v := .ref (ad 10)) (ci := 7) (C := R_Md) (T := T_Md) (N := 14) J i_Md hK hP (mw_ov_is (i := 0) ho.1 (by decide) ((hzo 0 (by decide) (by decide) (by decide)).trans hrx.1)) rfl 12 (by decide) (hts _ k_390) (fun _ h9 => h9) rfl d_Md_allCases_91 ?_
        refine lv_iload hx hb d_Md_allCases_94 (lv_at hl 4 rfl) ?_
        refine mw_ialdN (k := d) J hK hP 0 (mw_ov_is (i := 10) ho.1 (by decide) z10) rfl (by omega) (by decide) d_Md_allCases_96 ?_
        refine mw_top (x' := nI t) hpz ?_
        refine mw_nald (k := t) J hK hP 0 (mw_ov_is (i := 4) ho.1 (by decide) ((hzo 4 (by decide) (by decide) (by decide)).trans hx4)) rfl (by omega) (by decide) d_Md_allCases_97 ?_
        refine mw_top (x' := nI (L.getD t 0)) (by rw [hrow t (by omega)]) ?_
        refine mw_afterI hP hS hA (mw_runV (As := [.ref (ad 5), .int (nI (12 * kk + 3 * d)), .int (nI (L.getD t 0))]) (rest := []) J hK hZ hP hS hA (mw_ov_is (i := 0) ho.1 (by decide) ((hzo 0 (by decide) (by decide) (by decide)).trans hrx.1)) rfl (c_Md_bind l D cI cZ cP cR cC tS _ B ad cz ho L.length ru dn ((hzo 0 (by decide) (by decide) (by decide)).trans hrx.1) 5 156 (Or.inl rfl) it ((hzo 5 (by decide) (by decide) (by decide)).trans ((hxo 5 (by decide) (by decide) (by decide) (by decide) (by decide) (by decide) (by decide)).trans h5)) (12 * kk + 3 * d) (by decide) (by omega) (rk_nth (rk_rth rs kk) d) (hrd d hdn) (L.getD t 0) (hlt _ (rk_getD_mem (by omega))) vz bz (rk_ocs (rk_rth rs kk) d) z8 z9 hvz hbz (fun x hx => by have := rk_ocs_le (rk_rth rs kk) x d; omega)) (cwV 3 hts (mw_gV k_452 k_454 s_Md_bind k_8 k_455) rfl rfl rfl (by decide +kernel) ⟨Nat.le_of_ble_eq_true rfl, Nat.le_of_ble_eq_true rfl⟩) rfl hl.1 rfl (Nat.le_of_ble_eq_true rfl) d_Md_allCases_98 ⟨Nat.le_of_ble_eq_true rfl, Nat.le_of_ble_eq_true rfl⟩) (fun rb M1 H locs hw hP hS => ?_)
        obtain ⟨c3, v3, b3, rfl, g8, g9, g3o, hv3, hvk3, hbc⟩ := hw
        have hvk3x : ∀ x, x < 8 → 0 < rk_ocs (rk_rth rs kk) d x → v3 (x + 1) = vx (x + 1) := fun x hx h => (hvk3 x hx h).trans (hvk x hx h)
        have hprz := rk_pre_keep (fun j hj => rk_okR_nth hok j (by omega)) (m_hd_pre hhx) hvk
        refine lv_if_ne (tgt := 118) hx hb d_Md_allCases_101 (by decide) (fun c_101 => ?_) (fun c_101 => ?_)
        · obtain ⟨-, hb3, hin3⟩ := hbc.resolve_right (fun g => c_101 g.1)
          refine lv_aload_n hx hb d_Md_allCases_118 rfl (lv_at hl 0 rfl) ?_
          refine mw_get (v := .ref (ad 10)) (ci := 7) (C := R_Md) (T := T_Md) (N := 14) J i_Md hK hP (mw_ov_is (i := 0) ho.1 (by decide) (((g3o 0 (by decide) (by decide)).trans (hzo 0 (by decide) (by decide) (by decide))).trans hrx.1)) rfl 12 (by decide) (hts _ k_390) (fun _ h9 => h9) rfl d_Md_allCases_119 ?_
          refine lv_iload hx hb d_Md_allCases_122 (lv_at hl 4 rfl) ?_
          refine mw_ialdN (k := d) J hK hP 0 (mw_ov_is (i := 10) ho.1 (by decide) ((g3o 10 (by decide) (by decide)).trans z10)) rfl (by omega) (by decide) d_Md_allCases_124 ?_
          refine mw_top (x' := nI t) hpz ?_
          refine lv_aload_n hx hb d_Md_allCases_125 rfl (lv_at hl 0 rfl) ?_
          refine mw_get (v := .int (nI L.length)) (ci := 7) (C := R_Md) (T := T_Md) (N := 14) J i_Md hK hP (mw_ov_is (i := 0) ho.1 (by decide) (((g3o 0 (by decide) (by decide)).trans (hzo 0 (by decide) (by decide) (by decide))).trans hrx.1)) rfl 4 (by decide) (hts _ k_382) (fun _ h9 => h9) rfl d_Md_allCases_126 ?_
          refine lv_icmp_ne (tgt := 146) hx hb d_Md_allCases_129 (by decide) (fun c_129 => ?_) (fun c_129 => absurd c_129 (fun z => absurd ((nI_eq (by omega) (by omega)).mp z) (by omega)))
          refine lv_iload hx hb d_Md_allCases_146 (lv_at hl 4 rfl) ?_
          refine lv_iconst (v := 1) hx hb d_Md_allCases_148 (by decide) ?_
          refine lv_iadd hx hb d_Md_allCases_149 ?_
          refine mw_top (x' := nI (d + 1)) (nI_1 d) ?_
          refine lv_iload_n hx hb d_Md_allCases_150 rfl (lv_at hl 3 rfl) ?_
          refine lv_icmp_ge (tgt := 168) hx hb d_Md_allCases_151 (by decide) (fun c_151 => ?_) (fun c_151 => ?_)
          · have c_151 : ((rk_rth rs kk).1.length) ≤ (d + 1) := (nI_leI (by omega) (by omega)).mp c_151
            refine lv_aload_n hx hb d_Md_allCases_168 rfl (lv_at hl 0 rfl) ?_
            refine lv_iload_n hx hb d_Md_allCases_169 rfl (lv_at hl 1 rfl) ?_
            refine lv_iload_n hx hb d_Md_allCases_170 rfl (lv_at hl 2 rfl) ?_
            refine mw_afterI hP hS hA (mw_runV (As := [.int (nI kk), .int 1]) (rest := []) J hK hZ hP hS hA (mw_ov_is (i := 0) ho.1 (by decide) (((g3o 0 (by decide) (by decide)).trans (hzo 0 (by decide) (by decide) (by decide))).trans hrx.1)) rfl (c_Md_give1 l D cI cZ cP cR cC tS _ B ad c3 ho L.length ru dn (((g3o 0 (by decide) (by decide)).trans (hzo 0 (by decide) (by decide) (by decide))).trans hrx.1) rs it bd (((g3o 5 (by decide) (by decide)).trans (hzo 5 (by decide) (by decide) (by decide))).trans ((hxo 5 (by decide) (by decide) (by decide) (by decide) (by decide) (by decide) (by decide)).trans h5)) (((g3o 6 (by decide) (by decide)).trans (hzo 6 (by decide) (by decide) (by decide))).trans ((hxo 6 (by decide) (by decide) (by decide) (by decide) (by decide) (by decide) (by decide)).trans h6)) hru kk hkk v3 g8 hv3 sx (((g3o 3 (by decide) (by decide)).trans (hzo 3 (by decide) (by decide) (by decide))).trans hx3)) (cwV 2 hts (mw_gV k_459 k_461 s_Md_give k_8 k_462) rfl rfl rfl (by decide +kernel) ⟨Nat.le_of_ble_eq_true rfl, Nat.le_of_ble_eq_true rfl⟩) rfl hl.1 rfl (Nat.le_of_ble_eq_true rfl) d_Md_allCases_171 ⟨Nat.le_of_ble_eq_true rfl, Nat.le_of_ble_eq_true rfl⟩) (fun r9 M1 H locs hw hP hS => ?_)
            obtain ⟨rfl, rfl⟩ := hw
            have hh2 := m_hd_give (N' := []) (pl2 := plz) (rk_okR_nth hok) hhx (by omega) hvk3x hb3 hpz hpzo
            refine lv_if_ne (tgt := 179) hx hb d_Md_allCases_174 (by decide) (fun c_174 => ?_) (fun c_174 => absurd c_174 (by decide))
            refine lv_goto (tgt := 17) hx hb d_Md_allCases_179 (by decide) ?_
            exact ih_17 (rk_mes (va_up p2 d (t + 1)) (d + 1)) _ _ _ (by rw [hme]; exact rk_mes_give (by omega) (by omega)) (rk_mes_le (by omega) (fun j hj => Nat.le_trans (m_hd_le hh2 j hj) (by simpa using hL3))) ⟨(va_up c3 3 (.inl (cI, 32768, .inl (rk_nf (va_up sx (rk_inst (rk_rth rs kk).2 (rk_as v3)) (sx (rk_inst (rk_rth rs kk).2 (rk_as v3)) + 1)))))), _, (d + 1), v3, b3, plz, _, (by rw [pk_m1]; exact lv_sub hl [0, 1, 2, 3, 4] rfl), (m_row_s hrx ((g3o 0 (by decide) (by decide)).trans (hzo 0 (by decide) (by decide) (by decide))) ((g3o 2 (by decide) (by decide)).trans (hzo 2 (by decide) (by decide) (by decide))) ((g3o 4 (by decide) (by decide)).trans (hzo 4 (by decide) (by decide) (by decide)))), rfl, g8, g9, ((g3o 10 (by decide) (by decide)).trans z10), (fun i a0 a2 a3 a4 a8 a9 a10 => (va_up_ne _ _ a3).trans ((g3o i a8 a9).trans ((hzo i a8 a9 a10).trans (hxo i a0 a2 a3 a4 a8 a9 a10)))), hv3, (by have := hh2; rw [List.append_nil] at this; exact this), (rk_I1_give hok (by omega) (by omega) (rk_as_ok hv3) (rk_pre_keep (fun j hj => rk_okR_nth hok j (by omega)) (m_hd_pre hhx) hvk3x) hin3 (rk_I1_skip hIx (by omega) (by omega) hnt)), rfl, hP, hS⟩
          · have c_151 : ¬ (((rk_rth rs kk).1.length) ≤ (d + 1)) := fun z => c_151 ((nI_leI (by omega) (by omega)).mpr z)
            refine lv_iinc (v := nI (d + 1)) (lv' := [(4, .int (nI (d + 1))), (0, .ref (ad 0)), (1, .int (nI kk)), (2, .int 1), (3, .int (nI (rk_rth rs kk).1.length)), (5, .int (nI (12 * kk + 3 * d)))]) hx hb d_Md_allCases_154 hl (k := 4) rfl (nI_1 d) (by decide) rfl (fun ls hl => ?_)
            refine lv_aload_n hx hb d_Md_allCases_157 rfl (lv_at hl 1 rfl) ?_
            refine mw_get (v := .ref (ad 10)) (ci := 7) (C := R_Md) (T := T_Md) (N := 14) J i_Md hK hP (mw_ov_is (i := 0) ho.1 (by decide) (((g3o 0 (by decide) (by decide)).trans (hzo 0 (by decide) (by decide) (by decide))).trans hrx.1)) rfl 12 (by decide) (hts _ k_390) (fun _ h9 => h9) rfl d_Md_allCases_158 ?_
            refine lv_iload hx hb d_Md_allCases_161 (lv_at hl 0 rfl) ?_
            refine lv_iconst (v := (-1)) hx hb d_Md_allCases_163 (by decide) ?_
            refine mw_iastN (k := (d + 1)) J hK hP hS 0 (mw_ov_is (i := 10) ho.1 (by decide) ((g3o 10 (by decide) (by decide)).trans z10)) rfl (by omega) (by decide) d_Md_allCases_164 (fun H locs hP hS => ?_)
            rw [mw_ov_set ho.1 (by decide)] at hP
            have hP : mw_P D k_cl (mw_ov B ad (va_up c3 10 (.inl (cI, 3, .inl (upd plz (d + 1) (-1))))) 12) _ H := hP
            have hh2 := m_hd_down (pl2 := upd plz (d + 1) (-1)) (rk_okR_nth hok) hhx (by omega) (by omega) hvk3x hin3 hb3 ((pk_un (by omega)).trans hpz) pk_us (fun j h1 h2 => (pk_un h2).trans (hpzo j h1))
            refine lv_goto (tgt := 179) hx hb d_Md_allCases_165 (by decide) ?_
            refine lv_goto (tgt := 17) hx hb d_Md_allCases_179 (by decide) ?_
            exact ih_17 (rk_mes (va_up (va_up p2 d t) (d + 1) 0) (d + 2)) _ _ _ (by rw [hme]; exact rk_mes_down (by omega) (by omega)) (rk_mes_le (by omega) (fun j hj => Nat.le_trans (m_hd_le hh2 j hj) hL3)) ⟨(va_up c3 10 (.inl (cI, 3, .inl (upd plz (d + 1) (-1))))), _, (d + 2), v3, b3, _, sx, (by rw [pk_m1]; exact lv_sub hl [1, 2, 3, 4, 0] rfl), (m_row_s hrx ((g3o 0 (by decide) (by decide)).trans (hzo 0 (by decide) (by decide) (by decide))) ((g3o 2 (by decide) (by decide)).trans (hzo 2 (by decide) (by decide) (by decide))) ((g3o 4 (by decide) (by decide)).trans (hzo 4 (by decide) (by decide) (by decide)))), (((g3o 3 (by decide) (by decide)).trans (hzo 3 (by decide) (by decide) (by decide))).trans hx3), g8, g9, rfl, (fun i a0 a2 a3 a4 a8 a9 a10 => (va_up_ne _ _ a10).trans ((g3o i a8 a9).trans ((hzo i a8 a9 a10).trans (hxo i a0 a2 a3 a4 a8 a9 a10)))), hv3, hh2, (rk_I1_down (rk_I1_skip hIx (by omega) (by omega) hnt)), rfl, hP, hS⟩
        · obtain ⟨-, hb3, hno3⟩ := hbc.resolve_left (fun g => by rw [g.1] at c_101; exact absurd c_101 (by decide))
          have hnt2 : ∀ t1, p2 d ≤ t1 → t1 < t + 1 → ∀ v, rk_okV v → rk_pre (rk_rth rs kk) (rk_w L p2) d v → rk_inst (rk_nth (rk_rth rs kk) d) v ≠ L.getD t1 0 := fun t1 a b v hv hp => by
            by_cases e : t1 = t
            · rw [e]
              exact rk_no_pre hvz hprz hno3 v hv hp
            · exact hnt t1 a (by omega) v hv hp
          refine lv_aload_n hx hb d_Md_allCases_104 rfl (lv_at hl 0 rfl) ?_
          refine mw_get (v := .ref (ad 10)) (ci := 7) (C := R_Md) (T := T_Md) (N := 14) J i_Md hK hP (mw_ov_is (i := 0) ho.1 (by decide) (((g3o 0 (by decide) (by decide)).trans (hzo 0 (by decide) (by decide) (by decide))).trans hrx.1)) rfl 12 (by decide) (hts _ k_390) (fun _ h9 => h9) rfl d_Md_allCases_105 ?_
          refine lv_iload hx hb d_Md_allCases_108 (lv_at hl 4 rfl) ?_
          refine lv_dup2_11 hx hb d_Md_allCases_110 rfl rfl ?_
          refine mw_ialdN (k := d) J hK hP 0 (mw_ov_is (i := 10) ho.1 (by decide) ((g3o 10 (by decide) (by decide)).trans z10)) rfl (by omega) (by decide) d_Md_allCases_111 ?_
          refine mw_top (x' := nI t) hpz ?_
          refine lv_iconst (v := 1) hx hb d_Md_allCases_112 (by decide) ?_
          refine lv_iadd hx hb d_Md_allCases_113 ?_
          refine mw_top (x' := nI (t + 1)) (nI_1 t) ?_
          refine mw_iastN (k := d) J hK hP hS 0 (mw_ov_is (i := 10) ho.1 (by decide) ((g3o 10 (by decide) (by decide)).trans z10)) rfl (by omega) (by decide) d_Md_allCases_114 (fun H locs hP hS => ?_)
          rw [mw_ov_set ho.1 (by decide)] at hP
          have hP : mw_P D k_cl (mw_ov B ad (va_up c3 10 (.inl (cI, 3, .inl (upd plz d (nI (t + 1)))))) 12) _ H := hP
          refine lv_goto (tgt := 65) hx hb d_Md_allCases_115 (by decide) ?_
          exact ih_65 _ _ _ (by omega) ⟨(va_up c3 10 (.inl (cI, 3, .inl (upd plz d (nI (t + 1)))))), v3, b3, (upd plz d (nI (t + 1))), lv_sub hl [0, 1, 2, 3, 4, 5] rfl, g8, g9, rfl, (fun i a8 a9 a10 => (va_up_ne _ _ a10).trans ((g3o i a8 a9).trans (hzo i a8 a9 a10))), hv3, hvk3x, hb3, pk_us, (fun j hj => (pk_un hj).trans (hpzo j hj)), (by omega), (fun t1 a b v hv hp => hnt2 t1 a b v hv hp), hP, hS⟩

set_option maxHeartbeats 4000000 in
set_option maxRecDepth 100000 in
theorem c_Md_allCases0 (l : Launch) (D : va_G) (cI cZ cP cR cC : ClassId) (tS : Nat) (sz : Nat) (B : mw_M) (ad : Nat → Nat) (cw : Nat → va_E) (ho : m_ov B ad) (ru dn : Nat) (L : List Nat) (hrw : m_row cI cZ ad cw ru dn L) (rs : List rk_Ru) (it : Nat → Int32) (bd : Nat → Nat) (h5 : cw 5 = .inl (cI, 156, .inl it)) (h6 : cw 6 = .inl (cI, 13, .inl (rk_nf bd))) (hru : m_rul it bd rs) (kk : Nat) (hkk : kk < rs.length) (vl : Nat → Nat) (h8 : cw 8 = .inl (cI, 9, .inl (rk_nf vl))) (hvl : ∀ i, vl i < 32) (bn : Nat → Nat) (h9 : cw 9 = .inl (cI, 9, .inl (rk_nf bn))) (hbn : ∀ j, j < 9 → bn j = 0) (pl : Nat → Int32) (h10 : cw 10 = .inl (cI, 3, .inl pl)) :
    Met l y_Md_allCases (.code y_Md_allCases b_Md_allCases 6 (some .boolean) :: gw) ({ frames := 2, cells := 0, slots := 0, locals := 51 }) (va_Pc [.ref (ad 0), .int (nI kk), .int 0] (mw_B D k_cl (k_tys cI cZ cP cR cC) (k_g tS) (mw_ov B ad cw 12) sz)) (va_Qi (fun (r : Int32) (M1 : mw_M) => ∃ cw1 N1, M1 = mw_ov B ad cw1 12 ∧ m_row cI cZ ad cw1 ru dn (L ++ N1) ∧ cw1 3 = cw 3 ∧ (∃ vl1, cw1 8 = .inl (cI, 9, .inl (rk_nf vl1)) ∧ ∀ i, vl1 i < 32) ∧ (∃ bn1, cw1 9 = .inl (cI, 9, .inl (rk_nf bn1))) ∧ (∃ pl1, cw1 10 = .inl (cI, 3, .inl pl1)) ∧ (∀ i, i ≠ 0 → i ≠ 2 → i ≠ 3 → i ≠ 4 → i ≠ 8 → i ≠ 9 → i ≠ 10 → cw1 i = cw i) ∧ (∀ z, z ∈ N1 → rk_gen L rs z) ∧ ((r = 1 ∧ ∀ v, rk_case (rk_rth rs kk) (· ∈ L) v → rk_inst (rk_rth rs kk).2 v ∈ L ++ N1) ∨ (r = 0 ∧ (L ++ N1).length = 300 ∧ ∃ z, z ∉ L ++ N1 ∧ rk_gen L rs z))) (mw_E D k_cl (mw_ov B ad cw 12) sz) (mw_A (mw_ov B ad cw 12) sz)) 0 0 (mw_A (mw_ov B ad cw 12) sz) := by
  refine mw_met (by decide) rfl (Nat.le_of_ble_eq_true rfl) ?_
  intro p e s m below meth c hsz J hr hlk hnm hK hZ hP hS hA ls hl
  subst hsz
  have hx := J.1
  have hb := J.2.1
  have hts := J.2.2.2.2
  have hl : lv_has ls 6 [(0, .ref (ad 0)), (1, .int (nI kk)), (2, .int 0)] := hl
  have h0 := hrw.1
  have hr12 := hru.1
  obtain ⟨hok, hbd, hrd, hhd⟩ := hru.2 kk hkk
  have hn3 : (rk_rth rs kk).1.length ≤ 3 := hok.2.1
  have hn1 : 0 < (rk_rth rs kk).1.length := hok.1
  refine lv_aload_n hx hb d_Md_allCases_0 rfl (lv_at hl 0 rfl) ?_
  refine mw_get (v := .ref (ad 6)) (ci := 7) (C := R_Md) (T := T_Md) (N := 14) J i_Md hK hP (mw_ov_is (i := 0) ho.1 (by decide) h0) rfl 6 (by decide) (hts _ k_384) (fun _ h9 => h9) rfl d_Md_allCases_1 ?_
  refine lv_iload_n hx hb d_Md_allCases_4 rfl (lv_at hl 1 rfl) ?_
  refine mw_nald (k := kk) J hK hP 0 (mw_ov_is (i := 6) ho.1 (by decide) h6) rfl (by omega) (by decide) d_Md_allCases_5 ?_
  refine mw_top (x' := nI (rk_rth rs kk).1.length) (by rw [hbd]) ?_
  refine lv_istore_n (lv' := [(3, .int (nI (rk_rth rs kk).1.length)), (0, .ref (ad 0)), (1, .int (nI kk)), (2, .int 0)]) hx hb d_Md_allCases_6 rfl hl (by decide) rfl (fun ls hl => ?_)
  refine lv_iconst (v := 0) hx hb d_Md_allCases_7 (by decide) ?_
  refine mw_top (x' := nI 1 + (-1)) (by decide) ?_
  refine lv_istore (lv' := [(4, .int (nI 1 + (-1))), (3, .int (nI (rk_rth rs kk).1.length)), (0, .ref (ad 0)), (1, .int (nI kk)), (2, .int 0)]) hx hb d_Md_allCases_8 hl (by decide) rfl (fun ls hl => ?_)
  refine lv_aload_n hx hb d_Md_allCases_10 rfl (lv_at hl 2 rfl) ?_
  refine mw_get (v := .ref (ad 10)) (ci := 7) (C := R_Md) (T := T_Md) (N := 14) J i_Md hK hP (mw_ov_is (i := 0) ho.1 (by decide) h0) rfl 12 (by decide) (hts _ k_390) (fun _ h9 => h9) rfl d_Md_allCases_11 ?_
  refine lv_iconst (v := 0) hx hb d_Md_allCases_14 (by decide) ?_
  refine mw_top (x' := nI 0) nI_0.symm ?_
  refine lv_iconst (v := (-1)) hx hb d_Md_allCases_15 (by decide) ?_
  refine mw_iastN (k := 0) J hK hP hS 0 (mw_ov_is (i := 10) ho.1 (by decide) h10) rfl (by decide) (by decide) d_Md_allCases_16 (fun H locs hP hS => ?_)
  rw [mw_ov_set ho.1 (by decide)] at hP
  have hP : mw_P D k_cl (mw_ov B ad (va_up cw 10 (.inl (cI, 3, .inl (upd pl 0 (-1))))) 12) _ H := hP
  have hst0 : m_hd (rk_rth rs kk) (L ++ []) vl bn (upd pl 0 (-1)) (fun _ => 0) 1 := m_hd_start hn1 hbn
  have hrw1 : m_row cI cZ ad (va_up cw 10 (.inl (cI, 3, .inl (upd pl 0 (-1))))) ru dn (L ++ []) := by rw [List.append_nil]; exact m_row_s hrw rfl rfl rfl
  have h81 : (va_up cw 10 (.inl (cI, 3, .inl (upd pl 0 (-1))))) 8 = .inl (cI, 9, .inl (rk_nf vl)) := h8
  have h91 : (va_up cw 10 (.inl (cI, 3, .inl (upd pl 0 (-1))))) 9 = .inl (cI, 9, .inl (rk_nf bn)) := h9
  have h31 : (va_up cw 10 (.inl (cI, 3, .inl (upd pl 0 (-1))))) 3 = cw 3 := rfl
  refine mw_loopm (W' := fun H locs ls => W p l e _ s m _ below meth c H locs _ _ _ (F0 m 17 ls [])) 110174432 (fun i H locs ls => ∃ (cx : Nat → va_E), ∃ (p2 : Nat → Nat), ∃ (D2 : Nat), ∃ (vx : Nat → Nat), ∃ (bx : Nat → Nat), ∃ (plx : Nat → Int32), ∃ (N1 : List Nat), lv_has ls 6 [(0, .ref (ad 0)), (1, .int (nI kk)), (2, .int 0), (3, .int (nI (rk_rth rs kk).1.length)), (4, .int (nI D2 + (-1)))] ∧ (m_row cI cZ ad cx ru dn (L ++ N1)) ∧ (cx 3 = cw 3) ∧ (∀ z, z ∈ N1 → rk_gen L rs z) ∧ (cx 8 = .inl (cI, 9, .inl (rk_nf vx))) ∧ (cx 9 = .inl (cI, 9, .inl (rk_nf bx))) ∧ (cx 10 = .inl (cI, 3, .inl plx)) ∧ (∀ i, i ≠ 0 → i ≠ 2 → i ≠ 3 → i ≠ 4 → i ≠ 8 → i ≠ 9 → i ≠ 10 → cx i = cw i) ∧ (∀ j, vx j < 32) ∧ (m_hd (rk_rth rs kk) (L ++ N1) vx bx plx p2 D2) ∧ (rk_I0 L (L ++ N1) (rk_rth rs kk) p2 D2) ∧ (i = rk_mes p2 D2) ∧ mw_P D k_cl (mw_ov B ad cx 12) (mw_A (mw_ov B ad cw 12) s.heap.size) H ∧ va_S (mw_A (mw_ov B ad cw 12) s.heap.size) s.heap H locs) ?_ 110174432 (rk_mes (fun _ => 0) 1) (Nat.sub_le _ _) (by decide) _ _ _ ⟨_, (fun _ => 0), 1, vl, bn, _, [], lv_sub hl [2, 3, 4, 1, 0] rfl, hrw1, h31, (fun z hz => absurd hz List.not_mem_nil), h81, h91, rfl, (fun i a0 a2 a3 a4 a8 a9 a10 => va_up_ne _ _ a10), hvl, hst0, (rk_I0_start rfl), rfl, hP, hS⟩
  intro i H locs ls hi_17 hI_17 ih_17
  obtain ⟨cx, p2, D2, vx, bx, plx, N1, hl, hrx, hx3, hgx, hx8, hx9, hx10, hxo, hvx, hhx, hIx, hme, hP, hS⟩ := hI_17
  have hD3 : D2 ≤ (rk_rth rs kk).1.length := hhx.1
  obtain ⟨-, ⟨rw0, hx4, hrow⟩, -, hL3, hnd, hlt⟩ := id hrx
  refine lv_iload hx hb d_Md_allCases_17 (lv_at hl 4 rfl) ?_
  refine lv_if_lt (tgt := 182) hx hb d_Md_allCases_19 (by decide) (fun c_19 => ?_) (fun c_19 => ?_)
  · have hD0 : D2 = 0 := (rk_m1_0 (by omega)).mp c_19
    refine lv_iconst (v := 1) hx hb d_Md_allCases_182 (by decide) ?_
    exact mw_zret J hr hlk rfl hP hS d_Md_allCases_183 (⟨cx, N1, rfl, hrx, hx3, ⟨vx, hx8, hvx⟩, ⟨bx, hx9⟩, ⟨plx, hx10⟩, hxo, hgx, Or.inl ⟨rfl, by rw [hD0] at hIx; exact hIx⟩⟩)
  · obtain ⟨d, rfl⟩ : ∃ d, D2 = d + 1 := ⟨D2 - 1, by have : ¬ D2 = 0 := fun z => c_19 ((rk_m1_0 (by omega)).mpr z); omega⟩
    rw [pk_m1] at hl
    have hpc := hhx.2.2.1 d rfl
    have hqd := hhx.2.2.2.2.1 d rfl
    have hbx := hhx.2.2.2.2.2 d rfl
    have hdn : d < (rk_rth rs kk).1.length := hhx.1
    refine lv_bipush (v := 12) hx hb d_Md_allCases_22 (by decide) ?_
    refine mw_top (x' := nI 12) rfl ?_
    refine lv_iload_n hx hb d_Md_allCases_24 rfl (lv_at hl 1 rfl) ?_
    refine lv_imul hx hb d_Md_allCases_25 ?_
    refine mw_top (x' := nI (12 * kk)) (pk_mul _ _) ?_
    refine lv_iconst (v := 3) hx hb d_Md_allCases_26 (by decide) ?_
    refine mw_top (x' := nI 3) rfl ?_
    refine lv_iload hx hb d_Md_allCases_27 (lv_at hl 4 rfl) ?_
    refine lv_imul hx hb d_Md_allCases_29 ?_
    refine mw_top (x' := nI (3 * d)) (pk_mul _ _) ?_
    refine lv_iadd hx hb d_Md_allCases_30 ?_
    refine mw_top (x' := nI (12 * kk + 3 * d)) (nI_add _ _) ?_
    refine lv_istore (lv' := [(5, .int (nI (12 * kk + 3 * d))), (0, .ref (ad 0)), (1, .int (nI kk)), (2, .int 0), (3, .int (nI (rk_rth rs kk).1.length)), (4, .int (nI d))]) hx hb d_Md_allCases_31 hl (by decide) rfl (fun ls hl => ?_)
    refine lv_aload_n hx hb d_Md_allCases_33 rfl (lv_at hl 1 rfl) ?_
    refine mw_get (v := .ref (ad 10)) (ci := 7) (C := R_Md) (T := T_Md) (N := 14) J i_Md hK hP (mw_ov_is (i := 0) ho.1 (by decide) hrx.1) rfl 12 (by decide) (hts _ k_390) (fun _ h9 => h9) rfl d_Md_allCases_34 ?_
    refine lv_iload hx hb d_Md_allCases_37 (lv_at hl 5 rfl) ?_
    refine mw_ialdN (k := d) J hK hP 0 (mw_ov_is (i := 10) ho.1 (by decide) hx10) rfl (by omega) (by decide) d_Md_allCases_39 ?_
    refine mw_top (x' := nI (p2 d) + (-1)) hpc ?_
    refine lv_if_lt (tgt := 54) hx hb d_Md_allCases_40 (by decide) (fun c_40 => ?_) (fun c_40 => ?_)
    · have hq0 : p2 d = 0 := (rk_m1_0 (by omega)).mp c_40
      obtain ⟨cy, by0, hcy, hy9, hyo, hbz⟩ : ∃ cy by0, mw_ov B ad cy 12 = mw_ov B ad cx 12 ∧ cy 9 = .inl (cI, 9, .inl (rk_nf by0)) ∧ (∀ i, i ≠ 9 → cy i = cx i) ∧ ∀ x, x < 8 → by0 (x + 1) = rk_ocs (rk_rth rs kk) d x := ⟨cx, bx, rfl, hx9, fun _ _ => rfl, fun x hx => by rw [hbx x hx, if_pos hq0]; rfl⟩
      rw [← hcy] at hP
      refine lv_aload_n hx hb d_Md_allCases_54 rfl (lv_at hl 1 rfl) ?_
      refine mw_get (v := .ref (ad 10)) (ci := 7) (C := R_Md) (T := T_Md) (N := 14) J i_Md hK hP (mw_ov_is (i := 0) ho.1 (by decide) ((hyo 0 (by decide)).trans hrx.1)) rfl 12 (by decide) (hts _ k_390) (fun _ h9 => h9) rfl d_Md_allCases_55 ?_
      refine lv_iload hx hb d_Md_allCases_58 (lv_at hl 5 rfl) ?_
      refine lv_dup2_11 hx hb d_Md_allCases_60 rfl rfl ?_
      refine mw_ialdN (k := d) J hK hP 0 (mw_ov_is (i := 10) ho.1 (by decide) ((hyo 10 (by decide)).trans hx10)) rfl (by omega) (by decide) d_Md_allCases_61 ?_
      refine mw_top (x' := nI (p2 d) + (-1)) hpc ?_
      refine lv_iconst (v := 1) hx hb d_Md_allCases_62 (by decide) ?_
      refine lv_iadd hx hb d_Md_allCases_63 ?_
      refine mw_top (x' := nI (p2 d)) (rk_m1p1 _) ?_
      refine mw_iastN (k := d) J hK hP hS 0 (mw_ov_is (i := 10) ho.1 (by decide) ((hyo 10 (by decide)).trans hx10)) rfl (by omega) (by decide) d_Md_allCases_64 (fun H locs hP hS => ?_)
      rw [mw_ov_set ho.1 (by decide)] at hP
      have hP : mw_P D k_cl (mw_ov B ad (va_up cy 10 (.inl (cI, 3, .inl (upd plx d (nI (p2 d)))))) 12) _ H := hP
      refine mw_loop (W' := fun H locs ls => W p l e _ s m _ below meth c H locs _ _ _ (F0 m 65 ls [])) ((L ++ N1).length) (fun t H locs ls => ∃ (cz : Nat → va_E), ∃ (vz : Nat → Nat), ∃ (bz : Nat → Nat), ∃ (plz : Nat → Int32), lv_has ls 6 [(0, .ref (ad 0)), (1, .int (nI kk)), (2, .int 0), (3, .int (nI (rk_rth rs kk).1.length)), (4, .int (nI d)), (5, .int (nI (12 * kk + 3 * d)))] ∧ (cz 8 = .inl (cI, 9, .inl (rk_nf vz))) ∧ (cz 9 = .inl (cI, 9, .inl (rk_nf bz))) ∧ (cz 10 = .inl (cI, 3, .inl plz)) ∧ (∀ i, i ≠ 8 → i ≠ 9 → i ≠ 10 → cz i = cx i) ∧ (∀ j, vz j < 32) ∧ (∀ x, x < 8 → 0 < rk_ocs (rk_rth rs kk) d x → vz (x + 1) = vx (x + 1)) ∧ (∀ x, x < 8 → bz (x + 1) = rk_ocs (rk_rth rs kk) d x) ∧ (plz d = nI t) ∧ (∀ j, j ≠ d → plz j = plx j) ∧ (p2 d ≤ t) ∧ (∀ t1, p2 d ≤ t1 → t1 < t → ∀ v, rk_okV v → rk_pre (rk_rth rs kk) (rk_w (L ++ N1) p2) d v → rk_inst (rk_nth (rk_rth rs kk) d) v ≠ (L ++ N1).getD t1 0) ∧ mw_P D k_cl (mw_ov B ad cz 12) (mw_A (mw_ov B ad cw 12) s.heap.size) H ∧ va_S (mw_A (mw_ov B ad cw 12) s.heap.size) s.heap H locs) ?_ ((L ++ N1).length) (p2 d) (by omega) (by omega) _ _ _ ⟨_, vx, by0, _, lv_sub hl [1, 2, 3, 4, 5, 0] rfl, ((va_up_ne _ _ (by decide)).trans ((hyo 8 (by decide)).trans hx8)), ((va_up_ne _ _ (by decide)).trans hy9), rfl, (fun i a8 a9 a10 => (va_up_ne _ _ a10).trans (hyo i a9)), hvx, (fun _ _ _ => rfl), hbz, pk_us, (fun j hj => pk_un hj), (Nat.le_refl _), (fun t1 a b => absurd b (by omega)), hP, hS⟩
      intro t H locs ls hi_65 hI ih_65
      obtain ⟨cz, vz, bz, plz, hl, z8, z9, z10, hzo, hvz, hvk, hbz, hpz, hpzo, hqt, hnt, hP, hS⟩ := hI
      refine lv_aload_n hx hb d_Md_allCases_65 rfl (lv_at hl 0 rfl) ?_
      refine mw_get (v := .ref (ad 10)) (ci := 7) (C := R_Md) (T := T_Md) (N := 14) J i_Md hK hP (mw_ov_is (i := 0) ho.1 (by decide) ((hzo 0 (by decide) (by decide) (by decide)).trans hrx.1)) rfl 12 (by decide) (hts _ k_390) (fun _ h9 => h9) rfl d_Md_allCases_66 ?_
      refine lv_iload hx hb d_Md_allCases_69 (lv_at hl 4 rfl) ?_
      refine mw_ialdN (k := d) J hK hP 0 (mw_ov_is (i := 10) ho.1 (by decide) z10) rfl (by omega) (by decide) d_Md_allCases_71 ?_
      refine mw_top (x' := nI t) hpz ?_
      refine lv_aload_n hx hb d_Md_allCases_72 rfl (lv_at hl 0 rfl) ?_
      refine mw_get (v := .int (nI ((L ++ N1).length))) (ci := 7) (C := R_Md) (T := T_Md) (N := 14) J i_Md hK hP (mw_ov_is (i := 0) ho.1 (by decide) ((hzo 0 (by decide) (by decide) (by decide)).trans hrx.1)) rfl 4 (by decide) (hts _ k_382) (fun _ h9 => h9) rfl d_Md_allCases_73 ?_
      refine lv_icmp_ge (tgt := 118) hx hb d_Md_allCases_76 (by decide) (fun c_76 => ?_) (fun c_76 => ?_)
      · have c_76 : ((L ++ N1).length) ≤ t := (nI_leI (by omega) (by omega)).mp c_76
        have hte : t = (L ++ N1).length := by omega
        refine lv_aload_n hx hb d_Md_allCases_118 rfl (lv_at hl 0 rfl) ?_
        refine mw_get (v := .ref (ad 10)) (ci := 7) (C := R_Md) (T := T_Md) (N := 14) J i_Md hK hP (mw_ov_is (i := 0) ho.1 (by decide) ((hzo 0 (by decide) (by decide) (by decide)).trans hrx.1)) rfl 12 (by decide) (hts _ k_390) (fun _ h9 => h9) rfl d_Md_allCases_119 ?_
        refine lv_iload hx hb d_Md_allCases_122 (lv_at hl 4 rfl) ?_
        refine mw_ialdN (k := d) J hK hP 0 (mw_ov_is (i := 10) ho.1 (by decide) z10) rfl (by omega) (by decide) d_Md_allCases_124 ?_
        refine mw_top (x' := nI t) hpz ?_
        refine lv_aload_n hx hb d_Md_allCases_125 rfl (lv_at hl 0 rfl) ?_
        refine mw_get (v := .int (nI ((L ++ N1).length))) (ci := 7) (C := R_Md) (T := T_Md) (N := 14) J i_Md hK hP (mw_ov_is (i := 0) ho.1 (by decide) ((hzo 0 (by decide) (by decide) (by decide)).trans hrx.1)) rfl 4 (by decide) (hts _ k_382) (fun _ h9 => h9) rfl d_Md_allCases_126 ?_
        refine lv_icmp_ne (tgt := 146) hx hb d_Md_allCases_129 (by decide) (fun c_129 => absurd (by rw [hte]) c_129) (fun c_129 => ?_)
        refine lv_aload_n hx hb d_Md_allCases_132 rfl (lv_at hl 0 rfl) ?_
        refine mw_get (v := .ref (ad 10)) (ci := 7) (C := R_Md) (T := T_Md) (N := 14) J i_Md hK hP (mw_ov_is (i := 0) ho.1 (by decide) ((hzo 0 (by decide) (by decide) (by decide)).trans hrx.1)) rfl 12 (by decide) (hts _ k_390) (fun _ h9 => h9) rfl d_Md_allCases_133 ?_
        refine lv_iload hx hb d_Md_allCases_136 (lv_at hl 4 rfl) ?_
        refine lv_iconst (v := (-1)) hx hb d_Md_allCases_138 (by decide) ?_
        refine mw_iastN (k := d) J hK hP hS 0 (mw_ov_is (i := 10) ho.1 (by decide) z10) rfl (by omega) (by decide) d_Md_allCases_139 (fun H locs hP hS => ?_)
        rw [mw_ov_set ho.1 (by decide)] at hP
        have hP : mw_P D k_cl (mw_ov B ad (va_up cz 10 (.inl (cI, 3, .inl (upd plz d (-1))))) 12) _ H := hP
        have hh2 := m_hd_up (pl2 := upd plz d (-1)) (rk_okR_nth hok) hhx hvk hbz (fun j hj => (pk_un hj).trans (hpzo j hj))
        refine lv_iinc (v := nI d + (-1)) (lv' := [(4, .int (nI d + (-1))), (0, .ref (ad 0)), (1, .int (nI kk)), (2, .int 0), (3, .int (nI (rk_rth rs kk).1.length)), (5, .int (nI (12 * kk + 3 * d)))]) hx hb d_Md_allCases_140 hl (k := 4) rfl (rfl) (by decide) rfl (fun ls hl => ?_)
        refine lv_goto (tgt := 179) hx hb d_Md_allCases_143 (by decide) ?_
        refine lv_goto (tgt := 17) hx hb d_Md_allCases_179 (by decide) ?_
        exact ih_17 (rk_mes (va_up p2 (d - 1) (p2 (d - 1) + 1)) d) _ _ _ (by rw [hme]; exact rk_mes_up (by omega) (fun j hj => Nat.le_trans (m_hd_le hhx j hj) hL3)) (rk_mes_le (by omega) (fun j hj => Nat.le_trans (m_hd_le hh2 j hj) hL3)) ⟨(va_up cz 10 (.inl (cI, 3, .inl (upd plz d (-1))))), _, d, vz, bz, _, N1, lv_sub hl [1, 2, 3, 4, 0] rfl, (m_row_s hrx (hzo 0 (by decide) (by decide) (by decide)) (hzo 2 (by decide) (by decide) (by decide)) (hzo 4 (by decide) (by decide) (by decide))), ((hzo 3 (by decide) (by decide) (by decide)).trans hx3), hgx, z8, z9, rfl, (fun i a0 a2 a3 a4 a8 a9 a10 => (va_up_ne _ _ a10).trans ((hzo i a8 a9 a10).trans (hxo i a0 a2 a3 a4 a8 a9 a10))), hvz, hh2, (rk_I0_up (by omega) (rk_I0_skip hIx (by rw [← hte]; exact hnt))), rfl, hP, hS⟩
      · have c_76 : ¬ (((L ++ N1).length) ≤ t) := fun z => c_76 ((nI_leI (by omega) (by omega)).mpr z)
        refine lv_aload_n hx hb d_Md_allCases_79 rfl (lv_at hl 0 rfl) ?_
        refine lv_aload_n hx hb d_Md_allCases_80 rfl (lv_at hl 0 rfl) ?_
        refine mw_get (v := .ref (ad 5)) (ci := 7) (C := R_Md) (T := T_Md) (N := 14) J i_Md hK hP (mw_ov_is (i := 0) ho.1 (by decide) ((hzo 0 (by decide) (by decide) (by decide)).trans hrx.1)) rfl 5 (by decide) (hts _ k_383) (fun _ h9 => h9) rfl d_Md_allCases_81 ?_
        refine lv_iload hx hb d_Md_allCases_84 (lv_at hl 5 rfl) ?_
        refine lv_aload_n hx hb d_Md_allCases_86 rfl (lv_at hl 0 rfl) ?_
        refine mw_get (v := .ref (ad 4)) (ci := 7) (C := R_Md) (T := T_Md) (N := 14) J i_Md hK hP (mw_ov_is (i := 0) ho.1 (by decide) ((hzo 0 (by decide) (by decide) (by decide)).trans hrx.1)) rfl 3 (by decide) (hts _ k_381) (fun _ h9 => h9) rfl d_Md_allCases_87 ?_
        refine lv_aload_n hx hb d_Md_allCases_90 rfl (lv_at hl 0 rfl) ?_
        refine mw_get (v := .ref (ad 10)) (ci := 7) (C := R_Md) (T := T_Md) (N := 14) J i_Md hK hP (mw_ov_is (i := 0) ho.1 (by decide) ((hzo 0 (by decide) (by decide) (by decide)).trans hrx.1)) rfl 12 (by decide) (hts _ k_390) (fun _ h9 => h9) rfl d_Md_allCases_91 ?_
        refine lv_iload hx hb d_Md_allCases_94 (lv_at hl 4 rfl) ?_
        refine mw_ialdN (k := d) J hK hP 0 (mw_ov_is (i := 10) ho.1 (by decide) z10) rfl (by omega) (by decide) d_Md_allCases_96 ?_
        refine mw_top (x' := nI t) hpz ?_
        refine mw_nald (k := t) J hK hP 0 (mw_ov_is (i := 4) ho.1 (by decide) ((hzo 4 (by decide) (by decide) (by decide)).trans hx4)) rfl (by omega) (by decide) d_Md_allCases_97 ?_
        refine mw_top (x' := nI ((L ++ N1).getD t 0)) (by rw [hrow t (by omega)]) ?_
        refine mw_afterI hP hS hA (mw_runV (As := [.ref (ad 5), .int (nI (12 * kk + 3 * d)), .int (nI ((L ++ N1).getD t 0))]) (rest := []) J hK hZ hP hS hA (mw_ov_is (i := 0) ho.1 (by decide) ((hzo 0 (by decide) (by decide) (by decide)).trans hrx.1)) rfl (c_Md_bind l D cI cZ cP cR cC tS _ B ad cz ho (L ++ N1).length ru dn ((hzo 0 (by decide) (by decide) (by decide)).trans hrx.1) 5 156 (Or.inl rfl) it ((hzo 5 (by decide) (by decide) (by decide)).trans ((hxo 5 (by decide) (by decide) (by decide) (by decide) (by decide) (by decide) (by decide)).trans h5)) (12 * kk + 3 * d) (by decide) (by omega) (rk_nth (rk_rth rs kk) d) (hrd d hdn) ((L ++ N1).getD t 0) (hlt _ (rk_getD_mem (by omega))) vz bz (rk_ocs (rk_rth rs kk) d) z8 z9 hvz hbz (fun x hx => by have := rk_ocs_le (rk_rth rs kk) x d; omega)) (cwV 3 hts (mw_gV k_452 k_454 s_Md_bind k_8 k_455) rfl rfl rfl (by decide +kernel) ⟨Nat.le_of_ble_eq_true rfl, Nat.le_of_ble_eq_true rfl⟩) rfl hl.1 rfl (Nat.le_of_ble_eq_true rfl) d_Md_allCases_98 ⟨Nat.le_of_ble_eq_true rfl, Nat.le_of_ble_eq_true rfl⟩) (fun rb M1 H locs hw hP hS => ?_)
        obtain ⟨c3, v3, b3, rfl, g8, g9, g3o, hv3, hvk3, hbc⟩ := hw
        have hvk3x : ∀ x, x < 8 → 0 < rk_ocs (rk_rth rs kk) d x → v3 (x + 1) = vx (x + 1) := fun x hx h => (hvk3 x hx h).trans (hvk x hx h)
        have hprz := rk_pre_keep (fun j hj => rk_okR_nth hok j (by omega)) (m_hd_pre hhx) hvk
        refine lv_if_ne (tgt := 118) hx hb d_Md_allCases_101 (by decide) (fun c_101 => ?_) (fun c_101 => ?_)
        · obtain ⟨-, hb3, hin3⟩ := hbc.resolve_right (fun g => c_101 g.1)
          refine lv_aload_n hx hb d_Md_allCases_118 rfl (lv_at hl 0 rfl) ?_
          refine mw_get (v := .ref (ad 10)) (ci := 7) (C := R_Md) (T := T_Md) (N := 14) J i_Md hK hP (mw_ov_is (i := 0) ho.1 (by decide) (((g3o 0 (by decide) (by decide)).trans (hzo 0 (by decide) (by decide) (by decide))).trans hrx.1)) rfl 12 (by decide) (hts _ k_390) (fun _ h9 => h9) rfl d_Md_allCases_119 ?_
          refine lv_iload hx hb d_Md_allCases_122 (lv_at hl 4 rfl) ?_
          refine mw_ialdN (k := d) J hK hP 0 (mw_ov_is (i := 10) ho.1 (by decide) ((g3o 10 (by decide) (by decide)).trans z10)) rfl (by omega) (by decide) d_Md_allCases_124 ?_
          refine mw_top (x' := nI t) hpz ?_
          refine lv_aload_n hx hb d_Md_allCases_125 rfl (lv_at hl 0 rfl) ?_
          refine mw_get (v := .int (nI ((L ++ N1).length))) (ci := 7) (C := R_Md) (T := T_Md) (N := 14) J i_Md hK hP (mw_ov_is (i := 0) ho.1 (by decide) (((g3o 0 (by decide) (by decide)).trans (hzo 0 (by decide) (by decide) (by decide))).trans hrx.1)) rfl 4 (by decide) (hts _ k_382) (fun _ h9 => h9) rfl d_Md_allCases_126 ?_
          refine lv_icmp_ne (tgt := 146) hx hb d_Md_allCases_129 (by decide) (fun c_129 => ?_) (fun c_129 => absurd c_129 (fun z => absurd ((nI_eq (by omega) (by omega)).mp z) (by omega)))
          refine lv_iload hx hb d_Md_allCases_146 (lv_at hl 4 rfl) ?_
          refine lv_iconst (v := 1) hx hb d_Md_allCases_148 (by decide) ?_
          refine lv_iadd hx hb d_Md_allCases_149 ?_
          refine mw_top (x' := nI (d + 1)) (nI_1 d) ?_
          refine lv_iload_n hx hb d_Md_allCases_150 rfl (lv_at hl 3 rfl) ?_
          refine lv_icmp_ge (tgt := 168) hx hb d_Md_allCases_151 (by decide) (fun c_151 => ?_) (fun c_151 => ?_)
          · have c_151 : ((rk_rth rs kk).1.length) ≤ (d + 1) := (nI_leI (by omega) (by omega)).mp c_151
            refine lv_aload_n hx hb d_Md_allCases_168 rfl (lv_at hl 0 rfl) ?_
            refine lv_iload_n hx hb d_Md_allCases_169 rfl (lv_at hl 1 rfl) ?_
            refine lv_iload_n hx hb d_Md_allCases_170 rfl (lv_at hl 2 rfl) ?_
            refine mw_afterI hP hS hA (mw_runV (As := [.int (nI kk), .int 0]) (rest := []) J hK hZ hP hS hA (mw_ov_is (i := 0) ho.1 (by decide) (((g3o 0 (by decide) (by decide)).trans (hzo 0 (by decide) (by decide) (by decide))).trans hrx.1)) rfl (c_Md_give0 l D cI cZ cP cR cC tS _ B ad c3 ho ru dn (L ++ N1) (m_row_s hrx ((g3o 0 (by decide) (by decide)).trans (hzo 0 (by decide) (by decide) (by decide))) ((g3o 2 (by decide) (by decide)).trans (hzo 2 (by decide) (by decide) (by decide))) ((g3o 4 (by decide) (by decide)).trans (hzo 4 (by decide) (by decide) (by decide)))) rs it bd (((g3o 5 (by decide) (by decide)).trans (hzo 5 (by decide) (by decide) (by decide))).trans ((hxo 5 (by decide) (by decide) (by decide) (by decide) (by decide) (by decide) (by decide)).trans h5)) (((g3o 6 (by decide) (by decide)).trans (hzo 6 (by decide) (by decide) (by decide))).trans ((hxo 6 (by decide) (by decide) (by decide) (by decide) (by decide) (by decide) (by decide)).trans h6)) hru kk hkk v3 g8 hv3) (cwV 2 hts (mw_gV k_459 k_461 s_Md_give k_8 k_462) rfl rfl rfl (by decide +kernel) ⟨Nat.le_of_ble_eq_true rfl, Nat.le_of_ble_eq_true rfl⟩) rfl hl.1 rfl (Nat.le_of_ble_eq_true rfl) d_Md_allCases_171 ⟨Nat.le_of_ble_eq_true rfl, Nat.le_of_ble_eq_true rfl⟩) (fun r9 M1 H locs hw hP hS => ?_)
            obtain ⟨c4, L4, rfl, g4r, g4o, hcs⟩ := hw
            have hpr3 := rk_pre_keep (fun j hj => rk_okR_nth hok j (by omega)) (m_hd_pre hhx) hvk3x
            have hgz : rk_gen L rs (rk_inst (rk_rth rs kk).2 (rk_as v3)) := rk_gen_case (K := L ++ N1) hkk (fun k hk => (List.mem_append.mp hk).elim rk_gen_in (hgx k)) (rk_body_case (by omega) (fun j hj => (hhx.2.2.2.1 j (by omega)).1) (by omega) (rk_as_ok hv3) hpr3 hin3)
            refine lv_if_ne (tgt := 179) hx hb d_Md_allCases_174 (by decide) (fun c_174 => ?_) (fun c_174 => ?_)
            · obtain ⟨N4, rfl, hz4, hN4⟩ : ∃ N4, L4 = (L ++ N1) ++ N4 ∧ (rk_inst (rk_rth rs kk).2 (rk_as v3)) ∈ (L ++ N1) ++ N4 ∧ ∀ z, z ∈ N4 → z = (rk_inst (rk_rth rs kk).2 (rk_as v3)) := by
                rcases hcs with ⟨_, h1, h2⟩ | ⟨_, _, h2⟩ | ⟨h, _⟩
                · exact ⟨[], by rw [h2, List.append_nil], by rw [List.append_nil]; exact h1, fun z hz => absurd hz List.not_mem_nil⟩
                · exact ⟨[(rk_inst (rk_rth rs kk).2 (rk_as v3))], h2, by simp, fun z hz => List.mem_singleton.mp hz⟩
                · exact absurd h c_174
              have hg4 : ∀ z, z ∈ N1 ++ N4 → rk_gen L rs z := fun z hz => (List.mem_append.mp hz).elim (hgx z) (fun h => by rw [hN4 z h]; exact hgz)
              have hh2 := m_hd_give (N' := N4) (pl2 := plz) (rk_okR_nth hok) hhx (by omega) hvk3x hb3 hpz hpzo
              have hI4 := rk_I0_give (N' := N4) hok (by omega) (fun j hj => (hhx.2.2.2.1 j (by omega)).1) (rk_as_ok hv3) hpr3 hin3 hz4 (rk_I0_skip hIx hnt)
              have hL34 := g4r.2.2.2.1
              refine lv_goto (tgt := 17) hx hb d_Md_allCases_179 (by decide) ?_
              exact ih_17 (rk_mes (va_up p2 d (t + 1)) (d + 1)) _ _ _ (by rw [hme]; exact rk_mes_give (by omega) (by omega)) (rk_mes_le (by omega) (fun j hj => Nat.le_trans (m_hd_le hh2 j hj) hL34)) ⟨c4, _, (d + 1), v3, b3, plz, (N1 ++ N4), (by rw [pk_m1]; exact lv_sub hl [0, 1, 2, 3, 4] rfl), (by rw [← List.append_assoc]; exact g4r), ((g4o 3 (by decide) (by decide) (by decide)).trans (((g3o 3 (by decide) (by decide)).trans (hzo 3 (by decide) (by decide) (by decide))).trans hx3)), hg4, ((g4o 8 (by decide) (by decide) (by decide)).trans g8), ((g4o 9 (by decide) (by decide) (by decide)).trans g9), ((g4o 10 (by decide) (by decide) (by decide)).trans ((g3o 10 (by decide) (by decide)).trans z10)), (fun i a0 a2 a3 a4 a8 a9 a10 => (g4o i a0 a2 a4).trans ((g3o i a8 a9).trans ((hzo i a8 a9 a10).trans (hxo i a0 a2 a3 a4 a8 a9 a10)))), hv3, (by rw [← List.append_assoc]; exact hh2), (by rw [← List.append_assoc]; exact hI4), rfl, hP, hS⟩
            · obtain ⟨-, hL4, hz4, h300⟩ := (hcs.resolve_left (fun g => by rw [g.1] at c_174; exact absurd c_174 (by decide))).resolve_left (fun g => by rw [g.1] at c_174; exact absurd c_174 (by decide))
              rw [hL4] at g4r
              refine lv_iconst (v := 0) hx hb d_Md_allCases_177 (by decide) ?_
              exact mw_zret J hr hlk rfl hP hS d_Md_allCases_178 (⟨c4, N1, rfl, g4r, (g4o 3 (by decide) (by decide) (by decide)).trans (((g3o 3 (by decide) (by decide)).trans (hzo 3 (by decide) (by decide) (by decide))).trans hx3), ⟨v3, (g4o 8 (by decide) (by decide) (by decide)).trans g8, hv3⟩, ⟨b3, (g4o 9 (by decide) (by decide) (by decide)).trans g9⟩, ⟨plz, (g4o 10 (by decide) (by decide) (by decide)).trans ((g3o 10 (by decide) (by decide)).trans z10)⟩, fun i a0 a2 a3 a4 a8 a9 a10 => (g4o i a0 a2 a4).trans ((g3o i a8 a9).trans ((hzo i a8 a9 a10).trans (hxo i a0 a2 a3 a4 a8 a9 a10))), hgx, Or.inr ⟨rfl, h300, _, hz4, hgz⟩⟩)
          · have c_151 : ¬ (((rk_rth rs kk).1.length) ≤ (d + 1)) := fun z => c_151 ((nI_leI (by omega) (by omega)).mpr z)
            refine lv_iinc (v := nI (d + 1)) (lv' := [(4, .int (nI (d + 1))), (0, .ref (ad 0)), (1, .int (nI kk)), (2, .int 0), (3, .int (nI (rk_rth rs kk).1.length)), (5, .int (nI (12 * kk + 3 * d)))]) hx hb d_Md_allCases_154 hl (k := 4) rfl (nI_1 d) (by decide) rfl (fun ls hl => ?_)
            refine lv_aload_n hx hb d_Md_allCases_157 rfl (lv_at hl 1 rfl) ?_
            refine mw_get (v := .ref (ad 10)) (ci := 7) (C := R_Md) (T := T_Md) (N := 14) J i_Md hK hP (mw_ov_is (i := 0) ho.1 (by decide) (((g3o 0 (by decide) (by decide)).trans (hzo 0 (by decide) (by decide) (by decide))).trans hrx.1)) rfl 12 (by decide) (hts _ k_390) (fun _ h9 => h9) rfl d_Md_allCases_158 ?_
            refine lv_iload hx hb d_Md_allCases_161 (lv_at hl 0 rfl) ?_
            refine lv_iconst (v := (-1)) hx hb d_Md_allCases_163 (by decide) ?_
            refine mw_iastN (k := (d + 1)) J hK hP hS 0 (mw_ov_is (i := 10) ho.1 (by decide) ((g3o 10 (by decide) (by decide)).trans z10)) rfl (by omega) (by decide) d_Md_allCases_164 (fun H locs hP hS => ?_)
            rw [mw_ov_set ho.1 (by decide)] at hP
            have hP : mw_P D k_cl (mw_ov B ad (va_up c3 10 (.inl (cI, 3, .inl (upd plz (d + 1) (-1))))) 12) _ H := hP
            have hh2 := m_hd_down (pl2 := upd plz (d + 1) (-1)) (rk_okR_nth hok) hhx (by omega) (by omega) hvk3x hin3 hb3 ((pk_un (by omega)).trans hpz) pk_us (fun j h1 h2 => (pk_un h2).trans (hpzo j h1))
            refine lv_goto (tgt := 179) hx hb d_Md_allCases_165 (by decide) ?_
            refine lv_goto (tgt := 17) hx hb d_Md_allCases_179 (by decide) ?_
            exact ih_17 (rk_mes (va_up (va_up p2 d t) (d + 1) 0) (d + 2)) _ _ _ (by rw [hme]; exact rk_mes_down (by omega) (by omega)) (rk_mes_le (by omega) (fun j hj => Nat.le_trans (m_hd_le hh2 j hj) hL3)) ⟨(va_up c3 10 (.inl (cI, 3, .inl (upd plz (d + 1) (-1))))), _, (d + 2), v3, b3, _, N1, (by rw [pk_m1]; exact lv_sub hl [1, 2, 3, 4, 0] rfl), (m_row_s hrx ((g3o 0 (by decide) (by decide)).trans (hzo 0 (by decide) (by decide) (by decide))) ((g3o 2 (by decide) (by decide)).trans (hzo 2 (by decide) (by decide) (by decide))) ((g3o 4 (by decide) (by decide)).trans (hzo 4 (by decide) (by decide) (by decide)))), (((g3o 3 (by decide) (by decide)).trans (hzo 3 (by decide) (by decide) (by decide))).trans hx3), hgx, g8, g9, rfl, (fun i a0 a2 a3 a4 a8 a9 a10 => (va_up_ne _ _ a10).trans ((g3o i a8 a9).trans ((hzo i a8 a9 a10).trans (hxo i a0 a2 a3 a4 a8 a9 a10)))), hv3, hh2, (rk_I0_down (rk_I0_skip hIx hnt)), rfl, hP, hS⟩
        · obtain ⟨-, hb3, hno3⟩ := hbc.resolve_left (fun g => by rw [g.1] at c_101; exact absurd c_101 (by decide))
          have hnt2 : ∀ t1, p2 d ≤ t1 → t1 < t + 1 → ∀ v, rk_okV v → rk_pre (rk_rth rs kk) (rk_w (L ++ N1) p2) d v → rk_inst (rk_nth (rk_rth rs kk) d) v ≠ (L ++ N1).getD t1 0 := fun t1 a b v hv hp => by
            by_cases e : t1 = t
            · rw [e]
              exact rk_no_pre hvz hprz hno3 v hv hp
            · exact hnt t1 a (by omega) v hv hp
          refine lv_aload_n hx hb d_Md_allCases_104 rfl (lv_at hl 0 rfl) ?_
          refine mw_get (v := .ref (ad 10)) (ci := 7) (C := R_Md) (T := T_Md) (N := 14) J i_Md hK hP (mw_ov_is (i := 0) ho.1 (by decide) (((g3o 0 (by decide) (by decide)).trans (hzo 0 (by decide) (by decide) (by decide))).trans hrx.1)) rfl 12 (by decide) (hts _ k_390) (fun _ h9 => h9) rfl d_Md_allCases_105 ?_
          refine lv_iload hx hb d_Md_allCases_108 (lv_at hl 4 rfl) ?_
          refine lv_dup2_11 hx hb d_Md_allCases_110 rfl rfl ?_
          refine mw_ialdN (k := d) J hK hP 0 (mw_ov_is (i := 10) ho.1 (by decide) ((g3o 10 (by decide) (by decide)).trans z10)) rfl (by omega) (by decide) d_Md_allCases_111 ?_
          refine mw_top (x' := nI t) hpz ?_
          refine lv_iconst (v := 1) hx hb d_Md_allCases_112 (by decide) ?_
          refine lv_iadd hx hb d_Md_allCases_113 ?_
          refine mw_top (x' := nI (t + 1)) (nI_1 t) ?_
          refine mw_iastN (k := d) J hK hP hS 0 (mw_ov_is (i := 10) ho.1 (by decide) ((g3o 10 (by decide) (by decide)).trans z10)) rfl (by omega) (by decide) d_Md_allCases_114 (fun H locs hP hS => ?_)
          rw [mw_ov_set ho.1 (by decide)] at hP
          have hP : mw_P D k_cl (mw_ov B ad (va_up c3 10 (.inl (cI, 3, .inl (upd plz d (nI (t + 1)))))) 12) _ H := hP
          refine lv_goto (tgt := 65) hx hb d_Md_allCases_115 (by decide) ?_
          exact ih_65 _ _ _ (by omega) ⟨(va_up c3 10 (.inl (cI, 3, .inl (upd plz d (nI (t + 1)))))), v3, b3, (upd plz d (nI (t + 1))), lv_sub hl [0, 1, 2, 3, 4, 5] rfl, g8, g9, rfl, (fun i a8 a9 a10 => (va_up_ne _ _ a10).trans ((g3o i a8 a9).trans (hzo i a8 a9 a10))), hv3, hvk3x, hb3, pk_us, (fun j hj => (pk_un hj).trans (hpzo j hj)), (by omega), (fun t1 a b v hv hp => hnt2 t1 a b v hv hp), hP, hS⟩
    · have hq0 : ¬ p2 d = 0 := fun z => c_40 ((rk_m1_0 (by omega)).mpr z)
      refine lv_aload_n hx hb d_Md_allCases_43 rfl (lv_at hl 1 rfl) ?_
      refine lv_aload_n hx hb d_Md_allCases_44 rfl (lv_at hl 1 rfl) ?_
      refine mw_get (v := .ref (ad 5)) (ci := 7) (C := R_Md) (T := T_Md) (N := 14) J i_Md hK hP (mw_ov_is (i := 0) ho.1 (by decide) hrx.1) rfl 5 (by decide) (hts _ k_383) (fun _ h9 => h9) rfl d_Md_allCases_45 ?_
      refine lv_iload hx hb d_Md_allCases_48 (lv_at hl 0 rfl) ?_
      refine lv_iconst (v := 3) hx hb d_Md_allCases_50 (by decide) ?_
      refine mw_top (x' := nI 3) rfl ?_
      refine mw_afterV hP hS hA (mw_runV (As := [.ref (ad 5), .int (nI (12 * kk + 3 * d)), .int (nI 3)]) (rest := []) J hK hZ hP hS hA (mw_ov_is (i := 0) ho.1 (by decide) hrx.1) rfl (c_Md_loosen l D cI cZ cP cR cC tS _ B ad cx ho (L ++ N1).length ru dn hrx.1 5 156 (Or.inl rfl) it ((hxo 5 (by decide) (by decide) (by decide) (by decide) (by decide) (by decide) (by decide)).trans h5) (12 * kk + 3 * d) (by decide) (by omega) (rk_nth (rk_rth rs kk) d) (hrd d hdn) 3 (Nat.le_refl 3) bx (rk_ocs (rk_rth rs kk) d) hx9 (fun x hx => by rw [hbx x hx, if_neg hq0])) (cwV 3 hts (mw_gV k_448 k_450 s_Md_loosen k_8 k_451) rfl rfl rfl (by decide +kernel) ⟨Nat.le_of_ble_eq_true rfl, Nat.le_of_ble_eq_true rfl⟩) rfl hl.1 rfl (Nat.le_of_ble_eq_true rfl) d_Md_allCases_51 ⟨Nat.le_of_ble_eq_true rfl, Nat.le_of_ble_eq_true rfl⟩) (fun M1 H locs hw hP hS => ?_)
      obtain ⟨cy, by0, rfl, hy9, hyo, hbz⟩ := hw
      refine lv_aload_n hx hb d_Md_allCases_54 rfl (lv_at hl 1 rfl) ?_
      refine mw_get (v := .ref (ad 10)) (ci := 7) (C := R_Md) (T := T_Md) (N := 14) J i_Md hK hP (mw_ov_is (i := 0) ho.1 (by decide) ((hyo 0 (by decide)).trans hrx.1)) rfl 12 (by decide) (hts _ k_390) (fun _ h9 => h9) rfl d_Md_allCases_55 ?_
      refine lv_iload hx hb d_Md_allCases_58 (lv_at hl 5 rfl) ?_
      refine lv_dup2_11 hx hb d_Md_allCases_60 rfl rfl ?_
      refine mw_ialdN (k := d) J hK hP 0 (mw_ov_is (i := 10) ho.1 (by decide) ((hyo 10 (by decide)).trans hx10)) rfl (by omega) (by decide) d_Md_allCases_61 ?_
      refine mw_top (x' := nI (p2 d) + (-1)) hpc ?_
      refine lv_iconst (v := 1) hx hb d_Md_allCases_62 (by decide) ?_
      refine lv_iadd hx hb d_Md_allCases_63 ?_
      refine mw_top (x' := nI (p2 d)) (rk_m1p1 _) ?_
      refine mw_iastN (k := d) J hK hP hS 0 (mw_ov_is (i := 10) ho.1 (by decide) ((hyo 10 (by decide)).trans hx10)) rfl (by omega) (by decide) d_Md_allCases_64 (fun H locs hP hS => ?_)
      rw [mw_ov_set ho.1 (by decide)] at hP
      have hP : mw_P D k_cl (mw_ov B ad (va_up cy 10 (.inl (cI, 3, .inl (upd plx d (nI (p2 d)))))) 12) _ H := hP
      refine mw_loop (W' := fun H locs ls => W p l e _ s m _ below meth c H locs _ _ _ (F0 m 65 ls [])) ((L ++ N1).length) (fun t H locs ls => ∃ (cz : Nat → va_E), ∃ (vz : Nat → Nat), ∃ (bz : Nat → Nat), ∃ (plz : Nat → Int32), lv_has ls 6 [(0, .ref (ad 0)), (1, .int (nI kk)), (2, .int 0), (3, .int (nI (rk_rth rs kk).1.length)), (4, .int (nI d)), (5, .int (nI (12 * kk + 3 * d)))] ∧ (cz 8 = .inl (cI, 9, .inl (rk_nf vz))) ∧ (cz 9 = .inl (cI, 9, .inl (rk_nf bz))) ∧ (cz 10 = .inl (cI, 3, .inl plz)) ∧ (∀ i, i ≠ 8 → i ≠ 9 → i ≠ 10 → cz i = cx i) ∧ (∀ j, vz j < 32) ∧ (∀ x, x < 8 → 0 < rk_ocs (rk_rth rs kk) d x → vz (x + 1) = vx (x + 1)) ∧ (∀ x, x < 8 → bz (x + 1) = rk_ocs (rk_rth rs kk) d x) ∧ (plz d = nI t) ∧ (∀ j, j ≠ d → plz j = plx j) ∧ (p2 d ≤ t) ∧ (∀ t1, p2 d ≤ t1 → t1 < t → ∀ v, rk_okV v → rk_pre (rk_rth rs kk) (rk_w (L ++ N1) p2) d v → rk_inst (rk_nth (rk_rth rs kk) d) v ≠ (L ++ N1).getD t1 0) ∧ mw_P D k_cl (mw_ov B ad cz 12) (mw_A (mw_ov B ad cw 12) s.heap.size) H ∧ va_S (mw_A (mw_ov B ad cw 12) s.heap.size) s.heap H locs) ?_ ((L ++ N1).length) (p2 d) (by omega) (by omega) _ _ _ ⟨_, vx, by0, _, lv_sub hl [1, 2, 3, 4, 5, 0] rfl, ((va_up_ne _ _ (by decide)).trans ((hyo 8 (by decide)).trans hx8)), ((va_up_ne _ _ (by decide)).trans hy9), rfl, (fun i a8 a9 a10 => (va_up_ne _ _ a10).trans (hyo i a9)), hvx, (fun _ _ _ => rfl), hbz, pk_us, (fun j hj => pk_un hj), (Nat.le_refl _), (fun t1 a b => absurd b (by omega)), hP, hS⟩
      intro t H locs ls hi_65 hI ih_65
      obtain ⟨cz, vz, bz, plz, hl, z8, z9, z10, hzo, hvz, hvk, hbz, hpz, hpzo, hqt, hnt, hP, hS⟩ := hI
      refine lv_aload_n hx hb d_Md_allCases_65 rfl (lv_at hl 0 rfl) ?_
      refine mw_get (v := .ref (ad 10)) (ci := 7) (C := R_Md) (T := T_Md) (N := 14) J i_Md hK hP (mw_ov_is (i := 0) ho.1 (by decide) ((hzo 0 (by decide) (by decide) (by decide)).trans hrx.1)) rfl 12 (by decide) (hts _ k_390) (fun _ h9 => h9) rfl d_Md_allCases_66 ?_
      refine lv_iload hx hb d_Md_allCases_69 (lv_at hl 4 rfl) ?_
      refine mw_ialdN (k := d) J hK hP 0 (mw_ov_is (i := 10) ho.1 (by decide) z10) rfl (by omega) (by decide) d_Md_allCases_71 ?_
      refine mw_top (x' := nI t) hpz ?_
      refine lv_aload_n hx hb d_Md_allCases_72 rfl (lv_at hl 0 rfl) ?_
      refine mw_get (v := .int (nI ((L ++ N1).length))) (ci := 7) (C := R_Md) (T := T_Md) (N := 14) J i_Md hK hP (mw_ov_is (i := 0) ho.1 (by decide) ((hzo 0 (by decide) (by decide) (by decide)).trans hrx.1)) rfl 4 (by decide) (hts _ k_382) (fun _ h9 => h9) rfl d_Md_allCases_73 ?_
      refine lv_icmp_ge (tgt := 118) hx hb d_Md_allCases_76 (by decide) (fun c_76 => ?_) (fun c_76 => ?_)
      · have c_76 : ((L ++ N1).length) ≤ t := (nI_leI (by omega) (by omega)).mp c_76
        have hte : t = (L ++ N1).length := by omega
        refine lv_aload_n hx hb d_Md_allCases_118 rfl (lv_at hl 0 rfl) ?_
        refine mw_get (v := .ref (ad 10)) (ci := 7) (C := R_Md) (T := T_Md) (N := 14) J i_Md hK hP (mw_ov_is (i := 0) ho.1 (by decide) ((hzo 0 (by decide) (by decide) (by decide)).trans hrx.1)) rfl 12 (by decide) (hts _ k_390) (fun _ h9 => h9) rfl d_Md_allCases_119 ?_
        refine lv_iload hx hb d_Md_allCases_122 (lv_at hl 4 rfl) ?_
        refine mw_ialdN (k := d) J hK hP 0 (mw_ov_is (i := 10) ho.1 (by decide) z10) rfl (by omega) (by decide) d_Md_allCases_124 ?_
        refine mw_top (x' := nI t) hpz ?_
        refine lv_aload_n hx hb d_Md_allCases_125 rfl (lv_at hl 0 rfl) ?_
        refine mw_get (v := .int (nI ((L ++ N1).length))) (ci := 7) (C := R_Md) (T := T_Md) (N := 14) J i_Md hK hP (mw_ov_is (i := 0) ho.1 (by decide) ((hzo 0 (by decide) (by decide) (by decide)).trans hrx.1)) rfl 4 (by decide) (hts _ k_382) (fun _ h9 => h9) rfl d_Md_allCases_126 ?_
        refine lv_icmp_ne (tgt := 146) hx hb d_Md_allCases_129 (by decide) (fun c_129 => absurd (by rw [hte]) c_129) (fun c_129 => ?_)
        refine lv_aload_n hx hb d_Md_allCases_132 rfl (lv_at hl 0 rfl) ?_
        refine mw_get (v := .ref (ad 10)) (ci := 7) (C := R_Md) (T := T_Md) (N := 14) J i_Md hK hP (mw_ov_is (i := 0) ho.1 (by decide) ((hzo 0 (by decide) (by decide) (by decide)).trans hrx.1)) rfl 12 (by decide) (hts _ k_390) (fun _ h9 => h9) rfl d_Md_allCases_133 ?_
        refine lv_iload hx hb d_Md_allCases_136 (lv_at hl 4 rfl) ?_
        refine lv_iconst (v := (-1)) hx hb d_Md_allCases_138 (by decide) ?_
        refine mw_iastN (k := d) J hK hP hS 0 (mw_ov_is (i := 10) ho.1 (by decide) z10) rfl (by omega) (by decide) d_Md_allCases_139 (fun H locs hP hS => ?_)
        rw [mw_ov_set ho.1 (by decide)] at hP
        have hP : mw_P D k_cl (mw_ov B ad (va_up cz 10 (.inl (cI, 3, .inl (upd plz d (-1))))) 12) _ H := hP
        have hh2 := m_hd_up (pl2 := upd plz d (-1)) (rk_okR_nth hok) hhx hvk hbz (fun j hj => (pk_un hj).trans (hpzo j hj))
        refine lv_iinc (v := nI d + (-1)) (lv' := [(4, .int (nI d + (-1))), (0, .ref (ad 0)), (1, .int (nI kk)), (2, .int 0), (3, .int (nI (rk_rth rs kk).1.length)), (5, .int (nI (12 * kk + 3 * d)))]) hx hb d_Md_allCases_140 hl (k := 4) rfl (rfl) (by decide) rfl (fun ls hl => ?_)
        refine lv_goto (tgt := 179) hx hb d_Md_allCases_143 (by decide) ?_
        refine lv_goto (tgt := 17) hx hb d_Md_allCases_179 (by decide) ?_
        exact ih_17 (rk_mes (va_up p2 (d - 1) (p2 (d - 1) + 1)) d) _ _ _ (by rw [hme]; exact rk_mes_up (by omega) (fun j hj => Nat.le_trans (m_hd_le hhx j hj) hL3)) (rk_mes_le (by omega) (fun j hj => Nat.le_trans (m_hd_le hh2 j hj) hL3)) ⟨(va_up cz 10 (.inl (cI, 3, .inl (upd plz d (-1))))), _, d, vz, bz, _, N1, lv_sub hl [1, 2, 3, 4, 0] rfl, (m_row_s hrx (hzo 0 (by decide) (by decide) (by decide)) (hzo 2 (by decide) (by decide) (by decide)) (hzo 4 (by decide) (by decide) (by decide))), ((hzo 3 (by decide) (by decide) (by decide)).trans hx3), hgx, z8, z9, rfl, (fun i a0 a2 a3 a4 a8 a9 a10 => (va_up_ne _ _ a10).trans ((hzo i a8 a9 a10).trans (hxo i a0 a2 a3 a4 a8 a9 a10))), hvz, hh2, (rk_I0_up (by omega) (rk_I0_skip hIx (by rw [← hte]; exact hnt))), rfl, hP, hS⟩
      · have c_76 : ¬ (((L ++ N1).length) ≤ t) := fun z => c_76 ((nI_leI (by omega) (by omega)).mpr z)
        refine lv_aload_n hx hb d_Md_allCases_79 rfl (lv_at hl 0 rfl) ?_
        refine lv_aload_n hx hb d_Md_allCases_80 rfl (lv_at hl 0 rfl) ?_
        refine mw_get (v := .ref (ad 5)) (ci := 7) (C := R_Md) (T := T_Md) (N := 14) J i_Md hK hP (mw_ov_is (i := 0) ho.1 (by decide) ((hzo 0 (by decide) (by decide) (by decide)).trans hrx.1)) rfl 5 (by decide) (hts _ k_383) (fun _ h9 => h9) rfl d_Md_allCases_81 ?_
        refine lv_iload hx hb d_Md_allCases_84 (lv_at hl 5 rfl) ?_
        refine lv_aload_n hx hb d_Md_allCases_86 rfl (lv_at hl 0 rfl) ?_
        refine mw_get (v := .ref (ad 4)) (ci := 7) (C := R_Md) (T := T_Md) (N := 14) J i_Md hK hP (mw_ov_is (i := 0) ho.1 (by decide) ((hzo 0 (by decide) (by decide) (by decide)).trans hrx.1)) rfl 3 (by decide) (hts _ k_381) (fun _ h9 => h9) rfl d_Md_allCases_87 ?_
        refine lv_aload_n hx hb d_Md_allCases_90 rfl (lv_at hl 0 rfl) ?_
        refine mw_get (v := .ref (ad 10)) (ci := 7) (C := R_Md) (T := T_Md) (N := 14) J i_Md hK hP (mw_ov_is (i := 0) ho.1 (by decide) ((hzo 0 (by decide) (by decide) (by decide)).trans hrx.1)) rfl 12 (by decide) (hts _ k_390) (fun _ h9 => h9) rfl d_Md_allCases_91 ?_
        refine lv_iload hx hb d_Md_allCases_94 (lv_at hl 4 rfl) ?_
        refine mw_ialdN (k := d) J hK hP 0 (mw_ov_is (i := 10) ho.1 (by decide) z10) rfl (by omega) (by decide) d_Md_allCases_96 ?_
        refine mw_top (x' := nI t) hpz ?_
        refine mw_nald (k := t) J hK hP 0 (mw_ov_is (i := 4) ho.1 (by decide) ((hzo 4 (by decide) (by decide) (by decide)).trans hx4)) rfl (by omega) (by decide) d_Md_allCases_97 ?_
        refine mw_top (x' := nI ((L ++ N1).getD t 0)) (by rw [hrow t (by omega)]) ?_
        refine mw_afterI hP hS hA (mw_runV (As := [.ref (ad 5), .int (nI (12 * kk + 3 * d)), .int (nI ((L ++ N1).getD t 0))]) (rest := []) J hK hZ hP hS hA (mw_ov_is (i := 0) ho.1 (by decide) ((hzo 0 (by decide) (by decide) (by decide)).trans hrx.1)) rfl (c_Md_bind l D cI cZ cP cR cC tS _ B ad cz ho (L ++ N1).length ru dn ((hzo 0 (by decide) (by decide) (by decide)).trans hrx.1) 5 156 (Or.inl rfl) it ((hzo 5 (by decide) (by decide) (by decide)).trans ((hxo 5 (by decide) (by decide) (by decide) (by decide) (by decide) (by decide) (by decide)).trans h5)) (12 * kk + 3 * d) (by decide) (by omega) (rk_nth (rk_rth rs kk) d) (hrd d hdn) ((L ++ N1).getD t 0) (hlt _ (rk_getD_mem (by omega))) vz bz (rk_ocs (rk_rth rs kk) d) z8 z9 hvz hbz (fun x hx => by have := rk_ocs_le (rk_rth rs kk) x d; omega)) (cwV 3 hts (mw_gV k_452 k_454 s_Md_bind k_8 k_455) rfl rfl rfl (by decide +kernel) ⟨Nat.le_of_ble_eq_true rfl, Nat.le_of_ble_eq_true rfl⟩) rfl hl.1 rfl (Nat.le_of_ble_eq_true rfl) d_Md_allCases_98 ⟨Nat.le_of_ble_eq_true rfl, Nat.le_of_ble_eq_true rfl⟩) (fun rb M1 H locs hw hP hS => ?_)
        obtain ⟨c3, v3, b3, rfl, g8, g9, g3o, hv3, hvk3, hbc⟩ := hw
        have hvk3x : ∀ x, x < 8 → 0 < rk_ocs (rk_rth rs kk) d x → v3 (x + 1) = vx (x + 1) := fun x hx h => (hvk3 x hx h).trans (hvk x hx h)
        have hprz := rk_pre_keep (fun j hj => rk_okR_nth hok j (by omega)) (m_hd_pre hhx) hvk
        refine lv_if_ne (tgt := 118) hx hb d_Md_allCases_101 (by decide) (fun c_101 => ?_) (fun c_101 => ?_)
        · obtain ⟨-, hb3, hin3⟩ := hbc.resolve_right (fun g => c_101 g.1)
          refine lv_aload_n hx hb d_Md_allCases_118 rfl (lv_at hl 0 rfl) ?_
          refine mw_get (v := .ref (ad 10)) (ci := 7) (C := R_Md) (T := T_Md) (N := 14) J i_Md hK hP (mw_ov_is (i := 0) ho.1 (by decide) (((g3o 0 (by decide) (by decide)).trans (hzo 0 (by decide) (by decide) (by decide))).trans hrx.1)) rfl 12 (by decide) (hts _ k_390) (fun _ h9 => h9) rfl d_Md_allCases_119 ?_
          refine lv_iload hx hb d_Md_allCases_122 (lv_at hl 4 rfl) ?_
          refine mw_ialdN (k := d) J hK hP 0 (mw_ov_is (i := 10) ho.1 (by decide) ((g3o 10 (by decide) (by decide)).trans z10)) rfl (by omega) (by decide) d_Md_allCases_124 ?_
          refine mw_top (x' := nI t) hpz ?_
          refine lv_aload_n hx hb d_Md_allCases_125 rfl (lv_at hl 0 rfl) ?_
          refine mw_get (v := .int (nI ((L ++ N1).length))) (ci := 7) (C := R_Md) (T := T_Md) (N := 14) J i_Md hK hP (mw_ov_is (i := 0) ho.1 (by decide) (((g3o 0 (by decide) (by decide)).trans (hzo 0 (by decide) (by decide) (by decide))).trans hrx.1)) rfl 4 (by decide) (hts _ k_382) (fun _ h9 => h9) rfl d_Md_allCases_126 ?_
          refine lv_icmp_ne (tgt := 146) hx hb d_Md_allCases_129 (by decide) (fun c_129 => ?_) (fun c_129 => absurd c_129 (fun z => absurd ((nI_eq (by omega) (by omega)).mp z) (by omega)))
          refine lv_iload hx hb d_Md_allCases_146 (lv_at hl 4 rfl) ?_
          refine lv_iconst (v := 1) hx hb d_Md_allCases_148 (by decide) ?_
          refine lv_iadd hx hb d_Md_allCases_149 ?_
          refine mw_top (x' := nI (d + 1)) (nI_1 d) ?_
          refine lv_iload_n hx hb d_Md_allCases_150 rfl (lv_at hl 3 rfl) ?_
          refine lv_icmp_ge (tgt := 168) hx hb d_Md_allCases_151 (by decide) (fun c_151 => ?_) (fun c_151 => ?_)
          · have c_151 : ((rk_rth rs kk).1.length) ≤ (d + 1) := (nI_leI (by omega) (by omega)).mp c_151
            refine lv_aload_n hx hb d_Md_allCases_168 rfl (lv_at hl 0 rfl) ?_
            refine lv_iload_n hx hb d_Md_allCases_169 rfl (lv_at hl 1 rfl) ?_
            refine lv_iload_n hx hb d_Md_allCases_170 rfl (lv_at hl 2 rfl) ?_
            refine mw_afterI hP hS hA (mw_runV (As := [.int (nI kk), .int 0]) (rest := []) J hK hZ hP hS hA (mw_ov_is (i := 0) ho.1 (by decide) (((g3o 0 (by decide) (by decide)).trans (hzo 0 (by decide) (by decide) (by decide))).trans hrx.1)) rfl (c_Md_give0 l D cI cZ cP cR cC tS _ B ad c3 ho ru dn (L ++ N1) (m_row_s hrx ((g3o 0 (by decide) (by decide)).trans (hzo 0 (by decide) (by decide) (by decide))) ((g3o 2 (by decide) (by decide)).trans (hzo 2 (by decide) (by decide) (by decide))) ((g3o 4 (by decide) (by decide)).trans (hzo 4 (by decide) (by decide) (by decide)))) rs it bd (((g3o 5 (by decide) (by decide)).trans (hzo 5 (by decide) (by decide) (by decide))).trans ((hxo 5 (by decide) (by decide) (by decide) (by decide) (by decide) (by decide) (by decide)).trans h5)) (((g3o 6 (by decide) (by decide)).trans (hzo 6 (by decide) (by decide) (by decide))).trans ((hxo 6 (by decide) (by decide) (by decide) (by decide) (by decide) (by decide) (by decide)).trans h6)) hru kk hkk v3 g8 hv3) (cwV 2 hts (mw_gV k_459 k_461 s_Md_give k_8 k_462) rfl rfl rfl (by decide +kernel) ⟨Nat.le_of_ble_eq_true rfl, Nat.le_of_ble_eq_true rfl⟩) rfl hl.1 rfl (Nat.le_of_ble_eq_true rfl) d_Md_allCases_171 ⟨Nat.le_of_ble_eq_true rfl, Nat.le_of_ble_eq_true rfl⟩) (fun r9 M1 H locs hw hP hS => ?_)
            obtain ⟨c4, L4, rfl, g4r, g4o, hcs⟩ := hw
            have hpr3 := rk_pre_keep (fun j hj => rk_okR_nth hok j (by omega)) (m_hd_pre hhx) hvk3x
            have hgz : rk_gen L rs (rk_inst (rk_rth rs kk).2 (rk_as v3)) := rk_gen_case (K := L ++ N1) hkk (fun k hk => (List.mem_append.mp hk).elim rk_gen_in (hgx k)) (rk_body_case (by omega) (fun j hj => (hhx.2.2.2.1 j (by omega)).1) (by omega) (rk_as_ok hv3) hpr3 hin3)
            refine lv_if_ne (tgt := 179) hx hb d_Md_allCases_174 (by decide) (fun c_174 => ?_) (fun c_174 => ?_)
            · obtain ⟨N4, rfl, hz4, hN4⟩ : ∃ N4, L4 = (L ++ N1) ++ N4 ∧ (rk_inst (rk_rth rs kk).2 (rk_as v3)) ∈ (L ++ N1) ++ N4 ∧ ∀ z, z ∈ N4 → z = (rk_inst (rk_rth rs kk).2 (rk_as v3)) := by
                rcases hcs with ⟨_, h1, h2⟩ | ⟨_, _, h2⟩ | ⟨h, _⟩
                · exact ⟨[], by rw [h2, List.append_nil], by rw [List.append_nil]; exact h1, fun z hz => absurd hz List.not_mem_nil⟩
                · exact ⟨[(rk_inst (rk_rth rs kk).2 (rk_as v3))], h2, by simp, fun z hz => List.mem_singleton.mp hz⟩
                · exact absurd h c_174
              have hg4 : ∀ z, z ∈ N1 ++ N4 → rk_gen L rs z := fun z hz => (List.mem_append.mp hz).elim (hgx z) (fun h => by rw [hN4 z h]; exact hgz)
              have hh2 := m_hd_give (N' := N4) (pl2 := plz) (rk_okR_nth hok) hhx (by omega) hvk3x hb3 hpz hpzo
              have hI4 := rk_I0_give (N' := N4) hok (by omega) (fun j hj => (hhx.2.2.2.1 j (by omega)).1) (rk_as_ok hv3) hpr3 hin3 hz4 (rk_I0_skip hIx hnt)
              have hL34 := g4r.2.2.2.1
              refine lv_goto (tgt := 17) hx hb d_Md_allCases_179 (by decide) ?_
              exact ih_17 (rk_mes (va_up p2 d (t + 1)) (d + 1)) _ _ _ (by rw [hme]; exact rk_mes_give (by omega) (by omega)) (rk_mes_le (by omega) (fun j hj => Nat.le_trans (m_hd_le hh2 j hj) hL34)) ⟨c4, _, (d + 1), v3, b3, plz, (N1 ++ N4), (by rw [pk_m1]; exact lv_sub hl [0, 1, 2, 3, 4] rfl), (by rw [← List.append_assoc]; exact g4r), ((g4o 3 (by decide) (by decide) (by decide)).trans (((g3o 3 (by decide) (by decide)).trans (hzo 3 (by decide) (by decide) (by decide))).trans hx3)), hg4, ((g4o 8 (by decide) (by decide) (by decide)).trans g8), ((g4o 9 (by decide) (by decide) (by decide)).trans g9), ((g4o 10 (by decide) (by decide) (by decide)).trans ((g3o 10 (by decide) (by decide)).trans z10)), (fun i a0 a2 a3 a4 a8 a9 a10 => (g4o i a0 a2 a4).trans ((g3o i a8 a9).trans ((hzo i a8 a9 a10).trans (hxo i a0 a2 a3 a4 a8 a9 a10)))), hv3, (by rw [← List.append_assoc]; exact hh2), (by rw [← List.append_assoc]; exact hI4), rfl, hP, hS⟩
            · obtain ⟨-, hL4, hz4, h300⟩ := (hcs.resolve_left (fun g => by rw [g.1] at c_174; exact absurd c_174 (by decide))).resolve_left (fun g => by rw [g.1] at c_174; exact absurd c_174 (by decide))
              rw [hL4] at g4r
              refine lv_iconst (v := 0) hx hb d_Md_allCases_177 (by decide) ?_
              exact mw_zret J hr hlk rfl hP hS d_Md_allCases_178 (⟨c4, N1, rfl, g4r, (g4o 3 (by decide) (by decide) (by decide)).trans (((g3o 3 (by decide) (by decide)).trans (hzo 3 (by decide) (by decide) (by decide))).trans hx3), ⟨v3, (g4o 8 (by decide) (by decide) (by decide)).trans g8, hv3⟩, ⟨b3, (g4o 9 (by decide) (by decide) (by decide)).trans g9⟩, ⟨plz, (g4o 10 (by decide) (by decide) (by decide)).trans ((g3o 10 (by decide) (by decide)).trans z10)⟩, fun i a0 a2 a3 a4 a8 a9 a10 => (g4o i a0 a2 a4).trans ((g3o i a8 a9).trans ((hzo i a8 a9 a10).trans (hxo i a0 a2 a3 a4 a8 a9 a10))), hgx, Or.inr ⟨rfl, h300, _, hz4, hgz⟩⟩)
          · have c_151 : ¬ (((rk_rth rs kk).1.length) ≤ (d + 1)) := fun z => c_151 ((nI_leI (by omega) (by omega)).mpr z)
            refine lv_iinc (v := nI (d + 1)) (lv' := [(4, .int (nI (d + 1))), (0, .ref (ad 0)), (1, .int (nI kk)), (2, .int 0), (3, .int (nI (rk_rth rs kk).1.length)), (5, .int (nI (12 * kk + 3 * d)))]) hx hb d_Md_allCases_154 hl (k := 4) rfl (nI_1 d) (by decide) rfl (fun ls hl => ?_)
            refine lv_aload_n hx hb d_Md_allCases_157 rfl (lv_at hl 1 rfl) ?_
            refine mw_get (v := .ref (ad 10)) (ci := 7) (C := R_Md) (T := T_Md) (N := 14) J i_Md hK hP (mw_ov_is (i := 0) ho.1 (by decide) (((g3o 0 (by decide) (by decide)).trans (hzo 0 (by decide) (by decide) (by decide))).trans hrx.1)) rfl 12 (by decide) (hts _ k_390) (fun _ h9 => h9) rfl d_Md_allCases_158 ?_
            refine lv_iload hx hb d_Md_allCases_161 (lv_at hl 0 rfl) ?_
            refine lv_iconst (v := (-1)) hx hb d_Md_allCases_163 (by decide) ?_
            refine mw_iastN (k := (d + 1)) J hK hP hS 0 (mw_ov_is (i := 10) ho.1 (by decide) ((g3o 10 (by decide) (by decide)).trans z10)) rfl (by omega) (by decide) d_Md_allCases_164 (fun H locs hP hS => ?_)
            rw [mw_ov_set ho.1 (by decide)] at hP
            have hP : mw_P D k_cl (mw_ov B ad (va_up c3 10 (.inl (cI, 3, .inl (upd plz (d + 1) (-1))))) 12) _ H := hP
            have hh2 := m_hd_down (pl2 := upd plz (d + 1) (-1)) (rk_okR_nth hok) hhx (by omega) (by omega) hvk3x hin3 hb3 ((pk_un (by omega)).trans hpz) pk_us (fun j h1 h2 => (pk_un h2).trans (hpzo j h1))
            refine lv_goto (tgt := 179) hx hb d_Md_allCases_165 (by decide) ?_
            refine lv_goto (tgt := 17) hx hb d_Md_allCases_179 (by decide) ?_
            exact ih_17 (rk_mes (va_up (va_up p2 d t) (d + 1) 0) (d + 2)) _ _ _ (by rw [hme]; exact rk_mes_down (by omega) (by omega)) (rk_mes_le (by omega) (fun j hj => Nat.le_trans (m_hd_le hh2 j hj) hL3)) ⟨(va_up c3 10 (.inl (cI, 3, .inl (upd plz (d + 1) (-1))))), _, (d + 2), v3, b3, _, N1, (by rw [pk_m1]; exact lv_sub hl [1, 2, 3, 4, 0] rfl), (m_row_s hrx ((g3o 0 (by decide) (by decide)).trans (hzo 0 (by decide) (by decide) (by decide))) ((g3o 2 (by decide) (by decide)).trans (hzo 2 (by decide) (by decide) (by decide))) ((g3o 4 (by decide) (by decide)).trans (hzo 4 (by decide) (by decide) (by decide)))), (((g3o 3 (by decide) (by decide)).trans (hzo 3 (by decide) (by decide) (by decide))).trans hx3), hgx, g8, g9, rfl, (fun i a0 a2 a3 a4 a8 a9 a10 => (va_up_ne _ _ a10).trans ((g3o i a8 a9).trans ((hzo i a8 a9 a10).trans (hxo i a0 a2 a3 a4 a8 a9 a10)))), hv3, hh2, (rk_I0_down (rk_I0_skip hIx hnt)), rfl, hP, hS⟩
        · obtain ⟨-, hb3, hno3⟩ := hbc.resolve_left (fun g => by rw [g.1] at c_101; exact absurd c_101 (by decide))
          have hnt2 : ∀ t1, p2 d ≤ t1 → t1 < t + 1 → ∀ v, rk_okV v → rk_pre (rk_rth rs kk) (rk_w (L ++ N1) p2) d v → rk_inst (rk_nth (rk_rth rs kk) d) v ≠ (L ++ N1).getD t1 0 := fun t1 a b v hv hp => by
            by_cases e : t1 = t
            · rw [e]
              exact rk_no_pre hvz hprz hno3 v hv hp
            · exact hnt t1 a (by omega) v hv hp
          refine lv_aload_n hx hb d_Md_allCases_104 rfl (lv_at hl 0 rfl) ?_
          refine mw_get (v := .ref (ad 10)) (ci := 7) (C := R_Md) (T := T_Md) (N := 14) J i_Md hK hP (mw_ov_is (i := 0) ho.1 (by decide) (((g3o 0 (by decide) (by decide)).trans (hzo 0 (by decide) (by decide) (by decide))).trans hrx.1)) rfl 12 (by decide) (hts _ k_390) (fun _ h9 => h9) rfl d_Md_allCases_105 ?_
          refine lv_iload hx hb d_Md_allCases_108 (lv_at hl 4 rfl) ?_
          refine lv_dup2_11 hx hb d_Md_allCases_110 rfl rfl ?_
          refine mw_ialdN (k := d) J hK hP 0 (mw_ov_is (i := 10) ho.1 (by decide) ((g3o 10 (by decide) (by decide)).trans z10)) rfl (by omega) (by decide) d_Md_allCases_111 ?_
          refine mw_top (x' := nI t) hpz ?_
          refine lv_iconst (v := 1) hx hb d_Md_allCases_112 (by decide) ?_
          refine lv_iadd hx hb d_Md_allCases_113 ?_
          refine mw_top (x' := nI (t + 1)) (nI_1 t) ?_
          refine mw_iastN (k := d) J hK hP hS 0 (mw_ov_is (i := 10) ho.1 (by decide) ((g3o 10 (by decide) (by decide)).trans z10)) rfl (by omega) (by decide) d_Md_allCases_114 (fun H locs hP hS => ?_)
          rw [mw_ov_set ho.1 (by decide)] at hP
          have hP : mw_P D k_cl (mw_ov B ad (va_up c3 10 (.inl (cI, 3, .inl (upd plz d (nI (t + 1)))))) 12) _ H := hP
          refine lv_goto (tgt := 65) hx hb d_Md_allCases_115 (by decide) ?_
          exact ih_65 _ _ _ (by omega) ⟨(va_up c3 10 (.inl (cI, 3, .inl (upd plz d (nI (t + 1)))))), v3, b3, (upd plz d (nI (t + 1))), lv_sub hl [0, 1, 2, 3, 4, 5] rfl, g8, g9, rfl, (fun i a8 a9 a10 => (va_up_ne _ _ a10).trans ((g3o i a8 a9).trans (hzo i a8 a9 a10))), hv3, hvk3x, hb3, pk_us, (fun j hj => (pk_un hj).trans (hpzo j hj)), (by omega), (fun t1 a b v hv hp => hnt2 t1 a b v hv hp), hP, hS⟩
