/-! RuleKeeper: rule, unrule -/
theorem k_sv_s {cI cC : ClassId} {B : mw_M} {ad : Nat → Nat} {cw cw1 : Nat → va_E} {ca : Nat} (h : ∃ cc u, k_sv cI cC B ad cw ca cc u) (h1 : cw1 1 = cw 1) (h8 : cw1 8 = cw 8) : ∃ cc u, k_sv cI cC B ad cw1 ca cc u := by
  obtain ⟨cc, u, a1, a2, a3⟩ := h
  exact ⟨cc, u, h1.trans a1, h8.trans a2, a3⟩
theorem k_tr_s {cI : ClassId} {ad : Nat → Nat} {cw cw1 : Nat → va_E} {pm : Nat} {L : List Nat} (h : k_tr cI ad cw pm L) (h2 : cw1 2 = cw 2) (h3 : cw1 3 = cw 3) (h4 : cw1 4 = cw 4) : k_tr cI ad cw1 pm L := by
  obtain ⟨fc, w, a2, a3, a4, a5⟩ := h
  exact ⟨fc, w, h2.trans a2, h3.trans a3, h4.trans a4, a5⟩
theorem rk_lfp_app {said : Nat → Bool} {rs : List rk_Ru} {r : rk_Ru} {k : Nat} (h : rk_lfp said rs k) : rk_lfp said (rs ++ [r]) k := rk_lfp_mono (fun _ h => h) (fun _ h => List.mem_append_left _ h) h
set_option maxHeartbeats 4000000 in
set_option maxRecDepth 100000 in
theorem c_Kp_rule (l : Launch) (D : va_G) (cI cZ cP cR cC : ClassId) (tS : Nat) (sz : Nat) (B : mw_M) (ad : Nat → Nat) (cw : Nat → va_E) (pm sm ca : Nat) (said : Nat → Bool) (rs : List rk_Ru) (dr : List rk_Pt) (L : List Nat) (ho : k_ov B ad) (hfz : k_fz B ad pm sm) (hkp : k_kp cI cP cR cC B ad cw pm sm ca said rs dr L) (hh : rk_holds said rs L) (hsd : ∀ j, said j = true → j < 32768) :
    Met l y_Kp_rule (.code y_Kp_rule b_Kp_rule 2 (some .int) :: gw) ({ frames := 9, cells := 3, slots := 9, locals := 211 }) (va_Pc [.ref (ad 0)] (mw_B D k_cl (k_tys cI cZ cP cR cC) (k_g tS) (mw_ov B ad cw 21) sz)) (va_Qi (fun (r : Int32) (M1 : mw_M) => ∃ rs1 dr1, sp_rule said rs dr r rs1 dr1 ∧ k_ks cI cP cR cC B ad pm sm ca said rs1 dr1 M1) (mw_E D k_cl (mw_ov B ad cw 21) sz) (mw_A (mw_ov B ad cw 21) sz)) 3 9 (mw_A (mw_ov B ad cw 21) sz) := by
  refine mw_met (by decide) rfl (Nat.le_of_ble_eq_true rfl) ?_
  intro p e s m below meth c hsz J hr hlk hnm hK hZ hP hS hA ls hl
  subst hsz
  have hx := J.1
  have hb := J.2.1
  have hts := J.2.2.2.2
  have hl : lv_has ls 2 [(0, .ref (ad 0))] := hl
  obtain ⟨hc0, ht, hsv, hbl, ⟨ws, hc5, hWs⟩, hmd, hdr⟩ := id hkp
  obtain ⟨hpm, hsm⟩ := id hfz
  have hclo := rk_holds_clo hh
  obtain ⟨fc, w, hc2, hc3, hc4, hfc, hW, hL3, hnd, hlt⟩ := id ht
  obtain ⟨hrs12, fm, hc6, hfm⟩ := id hmd
  obtain ⟨hdr4, fd, hc7, hfd⟩ := id hdr
  refine lv_aload_n hx hb d_Kp_rule_0 rfl (lv_at hl 0 rfl) ?_
  refine mw_afterI hP hS hA (mw_runV (As := []) (rest := []) J hK hZ hP hS hA (mw_ov_is (i := 0) ho.1 (by decide) hc0) rfl (c_Kp_draftIsRule l D cI cZ cP cR cC tS _ B ad cw pm sm ca said rs dr L ho hfz hkp hh hsd) (cwV 0 hts (mw_gV k_323 k_325 s_Kp_draftIsRule k_1 k_326) rfl rfl rfl (by decide +kernel) ⟨Nat.le_of_ble_eq_true rfl, Nat.le_of_ble_eq_true rfl⟩) rfl hl.1 rfl (Nat.le_of_ble_eq_true rfl) d_Kp_rule_1 ⟨Nat.le_of_ble_eq_true rfl, Nat.le_of_ble_eq_true rfl⟩) (fun r1 M1 H locs hw hP hS => ?_)
  obtain ⟨he1, hw⟩ := hw
  subst he1
  refine lv_if_ne (tgt := 14) hx hb d_Kp_rule_4 (by decide) (fun c_4 => ?_) (fun c_4 => ?_)
  · have hyes : rk_mkok dr := (hw.resolve_right (fun g => c_4 g.1)).2
    refine lv_aload_n hx hb d_Kp_rule_14 rfl (lv_at hl 0 rfl) ?_
    refine mw_get (v := .int (nI rs.length)) (ci := 6) (C := R_Kp) (T := T_Kp) (N := 7) J i_Kp hK hP (mw_ov_is (i := 0) ho.1 (by decide) hc0) rfl 5 (by decide) (hts _ k_173) (fun _ h9 => h9) rfl d_Kp_rule_15 ?_
    refine lv_bipush (v := 12) hx hb d_Kp_rule_18 (by decide) ?_
    refine mw_top (x' := nI 12) rfl ?_
    refine lv_icmp_lt (tgt := 26) hx hb d_Kp_rule_20 (by decide) (fun c_20 => ?_) (fun c_20 => ?_)
    · have c_20 : rs.length < 12 := (nI_ltI (by omega) (by omega)).mp c_20
      refine lv_aload_n hx hb d_Kp_rule_26 rfl (lv_at hl 0 rfl) ?_
      refine mw_get (v := .ref (ad 2)) (ci := 6) (C := R_Kp) (T := T_Kp) (N := 7) J i_Kp hK hP (mw_ov_is (i := 0) ho.1 (by decide) hc0) rfl 1 (by decide) (hts _ k_169) (fun _ h9 => h9) rfl d_Kp_rule_27 ?_
      refine mw_get (v := .int (nI L.length)) (ci := 1) (C := R_Tr) (T := T_Tr) (N := 3) J i_Tr hK hP (mw_ov_is (i := 2) ho.1 (by decide) hc2) rfl 2 (by decide) (hts _ k_49) (fun _ h9 => h9) rfl d_Kp_rule_30 ?_
      refine lv_istore_n (lv' := [(1, .int (nI L.length)), (0, .ref (ad 0))]) hx hb d_Kp_rule_33 rfl hl (by decide) rfl (fun ls hl => ?_)
      refine lv_aload_n hx hb d_Kp_rule_34 rfl (lv_at hl 1 rfl) ?_
      refine mw_get (v := .ref (ad 6)) (ci := 6) (C := R_Kp) (T := T_Kp) (N := 7) J i_Kp hK hP (mw_ov_is (i := 0) ho.1 (by decide) hc0) rfl 3 (by decide) (hts _ k_171) (fun _ h9 => h9) rfl d_Kp_rule_35 ?_
      refine lv_aload_n hx hb d_Kp_rule_38 rfl (lv_at hl 1 rfl) ?_
      refine mw_get (v := .int (nI rs.length)) (ci := 6) (C := R_Kp) (T := T_Kp) (N := 7) J i_Kp hK hP (mw_ov_is (i := 0) ho.1 (by decide) hc0) rfl 5 (by decide) (hts _ k_173) (fun _ h9 => h9) rfl d_Kp_rule_39 ?_
      refine lv_aload_n hx hb d_Kp_rule_42 rfl (lv_at hl 1 rfl) ?_
      refine mw_afterR hP hS hA (mw_runV (As := []) (rest := [.int (nI rs.length), .ref (ad 6)]) J hK hZ hP hS hA (mw_ov_is (i := 0) ho.1 (by decide) hc0) rfl (c_Kp_ruleOfDraft l D cI cZ cP cR cC tS _ B ad cw pm sm ca said rs dr L ho hfz hkp hh hsd hyes.1) (cwV 0 hts (mw_gV k_327 k_329 s_Kp_ruleOfDraft k_1 k_330) rfl rfl rfl (by decide +kernel) ⟨Nat.le_of_ble_eq_true rfl, Nat.le_of_ble_eq_true rfl⟩) rfl hl.1 rfl (Nat.le_of_ble_eq_true rfl) d_Kp_rule_43 ⟨Nat.le_of_ble_eq_true rfl, Nat.le_of_ble_eq_true rfl⟩) (fun r9 M1 H locs hw hP hS => ?_)
      obtain ⟨B1, he1, ho1, hB1, hru1⟩ := hw
      have he1 : M1 = mw_ov B1 ad cw 21 := he1
      subst he1
      have hru1 : k_rule cI cP B1 r9 (rk_mk dr) := hru1
      have rp1 : ∀ c, ∃ a b d, mw_ov B1 ad c 21 r9 = some (.inr (3, [.ref a, .ref b, .ref d])) := fun c => by
        obtain ⟨-, a, b, d, _, _, h, -⟩ := id hru1
        exact ⟨a, b, d, mw_ov_fr ho1.2 h⟩
      refine mw_aastN (k := rs.length) J hK hP hS 3 3 (mw_ov_is (i := 6) ho1.1 (by decide) hc6) rfl (rp1 _).choose_spec.choose_spec.choose_spec rfl (by omega) (by decide) d_Kp_rule_46 (fun H locs hP hS => ?_)
      rw [mw_ov_set ho1.1 (by decide)] at hP
      have hP : mw_P D k_cl (mw_ov B1 ad (va_up cw 6 (.inl (cR, 12, .inr (.inr (.inr (.inr (va_up fm rs.length (some r9)))))))) 21) _ H := hP
      refine lv_aload_n hx hb d_Kp_rule_47 rfl (lv_at hl 1 rfl) ?_
      refine lv_dup hx hb d_Kp_rule_48 rfl ?_
      refine mw_get (v := .int (nI rs.length)) (ci := 6) (C := R_Kp) (T := T_Kp) (N := 7) J i_Kp hK hP (mw_ov_is (i := 0) ho1.1 (by decide) hc0) rfl 5 (by decide) (hts _ k_173) (fun _ h9 => h9) rfl d_Kp_rule_49 ?_
      refine lv_iconst (v := 1) hx hb d_Kp_rule_52 (by decide) ?_
      refine mw_top (x' := nI 1) rfl ?_
      refine lv_iadd hx hb d_Kp_rule_53 ?_
      refine mw_top (x' := nI (rs.length + 1)) (nI_add _ _) ?_
      refine mw_put (v := .int (nI (rs.length + 1))) (ty := .int) (ci := 6) (C := R_Kp) (T := T_Kp) (N := 7) J i_Kp t_Kp o_Kp n_Kp hK hP hS (mw_ov_is (i := 0) ho1.1 (by decide) hc0) rfl 5 (by decide) (hts _ k_173) (fun _ h9 => h9) rfl rfl rfl rfl (Nat.le_of_ble_eq_true rfl) d_Kp_rule_54 (fun H locs hP hS => ?_)
      rw [mw_ov_set ho1.1 (by decide)] at hP
      have hP : mw_P D k_cl (mw_ov B1 ad (va_up (va_up cw 6 (.inl (cR, 12, .inr (.inr (.inr (.inr (va_up fm rs.length (some r9)))))))) 0 (.inr (6, [.ref (ad 1), .ref (ad 2), .ref sm, .ref (ad 6), .ref (ad 7), .int (nI (rs.length + 1)), .int (nI dr.length)]))) 21) _ H := hP
      have hln : (rs ++ [rk_mk dr]).length = rs.length + 1 := by rw [List.length_append]; rfl
      have hok9 : rk_okR (rk_mk dr) := rk_mk_ok hdr4 (fun i hi => by obtain ⟨a, _, h⟩ := hfd i hi; exact h.1) hyes
      have hbl1 : ∀ d, d < 3 → k_blank cI ad (va_up (va_up cw 6 (.inl (cR, 12, .inr (.inr (.inr (.inr (va_up fm rs.length (some r9)))))))) 0 (.inr (6, [.ref (ad 1), .ref (ad 2), .ref sm, .ref (ad 6), .ref (ad 7), .int (nI (rs.length + 1)), .int (nI dr.length)]))) d := fun d hd => k_blank_same (hbl d hd) (fun z hz => by rw [va_up_ne _ _ (by omega), va_up_ne _ _ (by omega)])
      have hmd1 : k_made cI cP cR B1 (va_up (va_up cw 6 (.inl (cR, 12, .inr (.inr (.inr (.inr (va_up fm rs.length (some r9)))))))) 0 (.inr (6, [.ref (ad 1), .ref (ad 2), .ref sm, .ref (ad 6), .ref (ad 7), .int (nI (rs.length + 1)), .int (nI dr.length)]))) (rs ++ [rk_mk dr]) := by
        refine ⟨by rw [hln]; omega, (va_up fm rs.length (some r9)), rfl, fun i hi => ?_⟩
        rw [hln] at hi
        by_cases e : i = rs.length
        · subst e
          exact ⟨r9, va_up_self _ _ _, by rw [rk_rth_last]; exact hru1, by rw [rk_rth_last]; exact hok9⟩
        · obtain ⟨a, g1, g2, g3⟩ := hfm i (by omega)
          rw [rk_rth_app (by omega)]
          exact ⟨a, (va_up_ne _ _ e).trans g1, k_rule_mono g2 hB1, g3⟩
      have hc01 : (va_up (va_up cw 6 (.inl (cR, 12, .inr (.inr (.inr (.inr (va_up fm rs.length (some r9)))))))) 0 (.inr (6, [.ref (ad 1), .ref (ad 2), .ref sm, .ref (ad 6), .ref (ad 7), .int (nI (rs.length + 1)), .int (nI dr.length)]))) 0 = k_k0 ad sm (rs ++ [rk_mk dr]).length dr.length := by rw [hln]; rfl
      have hpre1 : ∀ i, i < (rs ++ [rk_mk dr]).length → ∀ v, rk_case (rk_rth (rs ++ [rk_mk dr]) i) (· ∈ L.take 0) v → rk_inst (rk_rth (rs ++ [rk_mk dr]) i).2 v ∈ L := fun i hi v hv => by
        obtain ⟨-, fm1, -, hfm1⟩ := id hmd1
        obtain ⟨_, _, _, hok⟩ := hfm1 i hi
        obtain ⟨P, hP9⟩ := List.exists_mem_of_length_pos hok.1
        exact absurd (hv.2 P hP9) (by simp)
      have hpre2 : ∀ i, i + 1 < (rs ++ [rk_mk dr]).length → ∀ v, rk_case (rk_rth (rs ++ [rk_mk dr]) i) (· ∈ L.take L.length) v → rk_inst (rk_rth (rs ++ [rk_mk dr]) i).2 v ∈ L := fun i hi v hv => by
        rw [hln] at hi
        rw [rk_rth_app (by omega), List.take_length] at hv
        rw [rk_rth_app (by omega)]
        exact hclo i (by omega) v hv
      refine lv_aload_n hx hb d_Kp_rule_57 rfl (lv_at hl 1 rfl) ?_
      refine lv_iconst (v := 0) hx hb d_Kp_rule_58 (by decide) ?_
      refine mw_top (x' := nI 0) nI_0.symm ?_
      refine lv_iload_n hx hb d_Kp_rule_59 rfl (lv_at hl 0 rfl) ?_
      refine mw_afterI hP hS hA (mw_runV (As := [.int (nI 0), .int (nI L.length)]) (rest := []) J hK hZ hP hS hA (mw_ov_is (i := 0) ho1.1 (by decide) rfl) rfl (c_Kp_follow l D cI cZ cP cR cC tS _ B1 ad (va_up (va_up cw 6 (.inl (cR, 12, .inr (.inr (.inr (.inr (va_up fm rs.length (some r9)))))))) 0 (.inr (6, [.ref (ad 1), .ref (ad 2), .ref sm, .ref (ad 6), .ref (ad 7), .int (nI (rs.length + 1)), .int (nI dr.length)]))) pm L ho1 (hB1 _ _ hpm) (k_tr_s ht rfl rfl rfl) ca (k_svs_mono (k_sv_s hsv rfl rfl) hB1) hbl1 sm dr.length (rs ++ [rk_mk dr]) hc01 hmd1 0 L.length (Nat.zero_le _) (Nat.le_refl _) hpre1 hpre2) (cwV 2 hts (mw_gV k_224 k_226 s_Kp_follow k_1 k_227) rfl rfl rfl (by decide +kernel) ⟨Nat.le_of_ble_eq_true rfl, Nat.le_of_ble_eq_true rfl⟩) rfl hl.1 rfl (Nat.le_of_ble_eq_true rfl) d_Kp_rule_60 ⟨Nat.le_of_ble_eq_true rfl, Nat.le_of_ble_eq_true rfl⟩) (fun r6 M1 H locs hw hP hS => ?_)
      obtain ⟨c2, N1, rfl, kt2, hsv2, hbl2, hox2, hg2, hcase⟩ := hw
      obtain ⟨f2, w2, hc22, -, -, -, -, hL32, hnd2, -⟩ := id kt2
      refine lv_if_ne (tgt := 87) hx hb d_Kp_rule_63 (by decide) (fun c_63 => ?_) (fun c_63 => ?_)
      · have hcl2 := (hcase.resolve_right (fun g => c_63 g.1)).2
        have hh2 : rk_holds said (rs ++ [rk_mk dr]) (L ++ N1) := rk_holds_of hnd2 hL32 (fun k hk => rk_lfp_app ((hh.2.2 k).mp hk)) (fun j hj => List.mem_append_left _ ((hh.2.2 j).mpr (rk_lfp_said hj))) hg2 hcl2
        have hmd2 : ∀ e, k_made cI cP cR B1 (va_up c2 0 e) (rs ++ [rk_mk dr]) := fun e => by
          obtain ⟨a1, fm1, a2, a3⟩ := id hmd1
          exact ⟨a1, fm1, (va_up_ne _ _ (by decide)).trans ((hox2 6 (by decide)).trans a2), a3⟩
        refine lv_aload_n hx hb d_Kp_rule_87 rfl (lv_at hl 1 rfl) ?_
        refine lv_iconst (v := 0) hx hb d_Kp_rule_88 (by decide) ?_
        refine mw_top (x' := nI 0) nI_0.symm ?_
        refine mw_put (v := .int (nI 0)) (ty := .int) (ci := 6) (C := R_Kp) (T := T_Kp) (N := 7) J i_Kp t_Kp o_Kp n_Kp hK hP hS (mw_ov_is (i := 0) ho1.1 (by decide) ((hox2 0 (by decide)).trans rfl)) rfl 6 (by decide) (hts _ k_174) (fun _ h9 => h9) rfl rfl rfl rfl (Nat.le_of_ble_eq_true rfl) d_Kp_rule_89 (fun H locs hP hS => ?_)
        rw [mw_ov_set ho1.1 (by decide)] at hP
        have hP : mw_P D k_cl (mw_ov B1 ad (va_up c2 0 (.inr (6, [.ref (ad 1), .ref (ad 2), .ref sm, .ref (ad 6), .ref (ad 7), .int (nI (rs.length + 1)), .int (nI 0)]))) 21) _ H := hP
        refine lv_aload_n hx hb d_Kp_rule_92 rfl (lv_at hl 1 rfl) ?_
        refine mw_get (v := .int (nI (rs.length + 1))) (ci := 6) (C := R_Kp) (T := T_Kp) (N := 7) J i_Kp hK hP (mw_ov_is (i := 0) ho1.1 (by decide) rfl) rfl 5 (by decide) (hts _ k_173) (fun _ h9 => h9) rfl d_Kp_rule_93 ?_
        refine lv_iconst (v := 1) hx hb d_Kp_rule_96 (by decide) ?_
        refine mw_top (x' := nI 1) rfl ?_
        refine lv_isub hx hb d_Kp_rule_97 ?_
        refine mw_top (x' := nI rs.length) (by rw [pk_sub (by omega), Nat.add_sub_cancel]) ?_
        refine W.widen (k := 3) (n := 9) (by omega) (by omega) ?_
        exact mw_iret J hr hlk hP hS d_Kp_rule_98 (⟨(rs ++ [rk_mk dr]), [], Or.inr (Or.inr (Or.inl ⟨hyes, by omega, rk_not_much hh2, rfl, rfl, rfl⟩)), B1, _, _, rfl, hB1, ho1, k_fz_mono hfz hB1, ⟨by rw [hln]; rfl, k_tr_s kt2 rfl rfl rfl, k_sv_s hsv2 rfl rfl, fun d hd => k_blank_same (hbl2 d hd) (fun z hz => va_up_ne _ _ (by omega)), ⟨ws, (hox2 5 (by decide)).trans hc5, hWs⟩, hmd2 _, ⟨Nat.zero_le _, fd, (hox2 7 (by decide)).trans hc7, fun i hi => absurd hi (Nat.not_lt_zero i)⟩⟩, hh2, hsd⟩)
      · obtain ⟨-, h300, z9, hz9, hgz9⟩ := hcase.resolve_left (fun g => by rw [g.1] at c_63; exact absurd c_63 (by decide))
        have hmu : rk_much said (rs ++ [rk_mk dr]) := rk_much_of (fun k hk => rk_lfp_app ((hh.2.2 k).mp hk)) (rk_many_of hnd2 h300 (fun k hk => (List.mem_append.mp hk).elim rk_gen_in (hg2 k)) hz9 hgz9)
        refine lv_aload_n hx hb d_Kp_rule_66 rfl (lv_at hl 1 rfl) ?_
        refine mw_get (v := .ref (ad 2)) (ci := 6) (C := R_Kp) (T := T_Kp) (N := 7) J i_Kp hK hP (mw_ov_is (i := 0) ho1.1 (by decide) ((hox2 0 (by decide)).trans rfl)) rfl 1 (by decide) (hts _ k_169) (fun _ h9 => h9) rfl d_Kp_rule_67 ?_
        refine lv_iload_n hx hb d_Kp_rule_70 rfl (lv_at hl 0 rfl) ?_
        refine mw_afterV hP hS hA (mw_runV (As := [.int (nI L.length)]) (rest := []) J hK hZ hP hS hA (mw_ov_is (i := 2) ho1.1 (by decide) hc22) rfl (c_Tr_cutTo l D cI cZ cP cR cC tS _ B1 ad c2 pm (L ++ N1) ho1 (hB1 _ _ hpm) kt2 L.length (by rw [List.length_append]; omega)) (cwV 1 hts (mw_gV k_283 k_284 k_285 k_3 k_286) rfl rfl rfl (by decide +kernel) ⟨Nat.le_of_ble_eq_true rfl, Nat.le_of_ble_eq_true rfl⟩) rfl hl.1 rfl (Nat.le_of_ble_eq_true rfl) d_Kp_rule_71 ⟨Nat.le_of_ble_eq_true rfl, Nat.le_of_ble_eq_true rfl⟩) (fun M1 H locs hw hP hS => ?_)
        obtain ⟨c3, rfl, kt3, hox3⟩ := hw
        rw [List.take_left] at kt3
        refine lv_aload_n hx hb d_Kp_rule_74 rfl (lv_at hl 1 rfl) ?_
        refine lv_dup hx hb d_Kp_rule_75 rfl ?_
        refine mw_get (v := .int (nI (rs.length + 1))) (ci := 6) (C := R_Kp) (T := T_Kp) (N := 7) J i_Kp hK hP (mw_ov_is (i := 0) ho1.1 (by decide) ((hox3 0 (by decide) (by decide) (by decide)).trans ((hox2 0 (by decide)).trans rfl))) rfl 5 (by decide) (hts _ k_173) (fun _ h9 => h9) rfl d_Kp_rule_76 ?_
        refine lv_iconst (v := 1) hx hb d_Kp_rule_79 (by decide) ?_
        refine mw_top (x' := nI 1) rfl ?_
        refine lv_isub hx hb d_Kp_rule_80 ?_
        refine mw_top (x' := nI rs.length) (by rw [pk_sub (by omega), Nat.add_sub_cancel]) ?_
        refine mw_put (v := .int (nI rs.length)) (ty := .int) (ci := 6) (C := R_Kp) (T := T_Kp) (N := 7) J i_Kp t_Kp o_Kp n_Kp hK hP hS (mw_ov_is (i := 0) ho1.1 (by decide) ((hox3 0 (by decide) (by decide) (by decide)).trans ((hox2 0 (by decide)).trans rfl))) rfl 5 (by decide) (hts _ k_173) (fun _ h9 => h9) rfl rfl rfl rfl (Nat.le_of_ble_eq_true rfl) d_Kp_rule_81 (fun H locs hP hS => ?_)
        rw [mw_ov_set ho1.1 (by decide)] at hP
        have hP : mw_P D k_cl (mw_ov B1 ad (va_up c3 0 (.inr (6, [.ref (ad 1), .ref (ad 2), .ref sm, .ref (ad 6), .ref (ad 7), .int (nI rs.length), .int (nI dr.length)]))) 21) _ H := hP
        refine lv_bipush (v := (-3)) hx hb d_Kp_rule_84 (by decide) ?_
        refine W.widen (k := 3) (n := 9) (by omega) (by omega) ?_
        refine mw_iret J hr hlk hP hS d_Kp_rule_86 (⟨rs, dr, Or.inr (Or.inr (Or.inr ⟨hyes, by omega, hmu, rfl, rfl, rfl⟩)), B1, _, L, rfl, hB1, ho1, k_fz_mono hfz hB1, ⟨rfl, k_tr_s kt3 rfl rfl rfl, k_sv_s hsv2 ((va_up_ne _ _ (by decide)).trans (hox3 1 (by decide) (by decide) (by decide))) ((va_up_ne _ _ (by decide)).trans (hox3 8 (by decide) (by decide) (by decide))), fun d hd => k_blank_same (hbl2 d hd) (fun z hz => (va_up_ne _ _ (by omega)).trans (hox3 _ (by omega) (by omega) (by omega))), ⟨ws, (hox3 5 (by decide) (by decide) (by decide)).trans ((hox2 5 (by decide)).trans hc5), hWs⟩, ⟨hrs12, (va_up fm rs.length (some r9)), (hox3 6 (by decide) (by decide) (by decide)).trans ((hox2 6 (by decide)).trans rfl), fun i hi => ?_⟩, ⟨hdr4, fd, (hox3 7 (by decide) (by decide) (by decide)).trans ((hox2 7 (by decide)).trans hc7), fun i hi => ?_⟩⟩, hh, hsd⟩)
        · obtain ⟨a, g1, g2, g3⟩ := hfm i hi
          exact ⟨a, (va_up_ne _ _ (by omega)).trans g1, k_rule_mono g2 hB1, g3⟩
        · obtain ⟨a, g1, g2⟩ := hfd i hi
          exact ⟨a, g1, k_pat_mono g2 hB1⟩
    · have c_20 : ¬ (rs.length < 12) := fun z => c_20 ((nI_ltI (by omega) (by omega)).mpr z)
      refine lv_bipush (v := (-3)) hx hb d_Kp_rule_23 (by decide) ?_
      refine W.widen (k := 3) (n := 9) (by omega) (by omega) ?_
      exact mw_iret J hr hlk hP hS d_Kp_rule_25 (⟨rs, dr, Or.inr (Or.inl ⟨hyes, by omega, rfl, rfl, rfl⟩), ⟨B, cw, L, rfl, fun _ _ h => h, ho, hfz, hkp, hh, hsd⟩⟩)
  · have hno := (hw.resolve_left (fun g => by rw [g.1] at c_4; exact absurd c_4 (by decide))).2
    refine lv_aload_n hx hb d_Kp_rule_7 rfl (lv_at hl 0 rfl) ?_
    refine lv_iconst (v := 0) hx hb d_Kp_rule_8 (by decide) ?_
    refine mw_top (x' := nI 0) nI_0.symm ?_
    refine mw_put (v := .int (nI 0)) (ty := .int) (ci := 6) (C := R_Kp) (T := T_Kp) (N := 7) J i_Kp t_Kp o_Kp n_Kp hK hP hS (mw_ov_is (i := 0) ho.1 (by decide) hc0) rfl 6 (by decide) (hts _ k_174) (fun _ h9 => h9) rfl rfl rfl rfl (Nat.le_of_ble_eq_true rfl) d_Kp_rule_9 (fun H locs hP hS => ?_)
    rw [mw_ov_set ho.1 (by decide)] at hP
    have hP : mw_P D k_cl (mw_ov B ad (va_up cw 0 (.inr (6, [.ref (ad 1), .ref (ad 2), .ref sm, .ref (ad 6), .ref (ad 7), .int (nI rs.length), .int (nI 0)]))) 21) _ H := hP
    refine lv_iconst (v := (-1)) hx hb d_Kp_rule_12 (by decide) ?_
    refine W.widen (k := 3) (n := 9) (by omega) (by omega) ?_
    exact mw_iret J hr hlk hP hS d_Kp_rule_13 (⟨rs, [], Or.inl ⟨hno, rfl, rfl, rfl⟩, B, _, L, rfl, fun _ _ h => h, ho, hfz, ⟨rfl, k_tr_s ht rfl rfl rfl, k_sv_s hsv rfl rfl, fun d hd => k_blank_same (hbl d hd) (fun z hz => va_up_ne _ _ (by omega)), ⟨ws, hc5, hWs⟩, ⟨hrs12, fm, hc6, hfm⟩, ⟨Nat.zero_le _, fd, hc7, fun i hi => absurd hi (Nat.not_lt_zero i)⟩⟩, hh, hsd⟩)

set_option maxHeartbeats 4000000 in
set_option maxRecDepth 100000 in
theorem c_Kp_unrule (l : Launch) (D : va_G) (cI cZ cP cR cC : ClassId) (tS : Nat) (sz : Nat) (B : mw_M) (ad : Nat → Nat) (cw : Nat → va_E) (pm sm ca : Nat) (said : Nat → Bool) (rs : List rk_Ru) (dr : List rk_Pt) (L : List Nat) (ho : k_ov B ad) (hfz : k_fz B ad pm sm) (hkp : k_kp cI cP cR cC B ad cw pm sm ca said rs dr L) (hh : rk_holds said rs L) (hsd : ∀ j, said j = true → j < 32768) (k : Int32) :
    Met l y_Kp_unrule (.code y_Kp_unrule b_Kp_unrule 3 (some .int) :: gw) ({ frames := 10, cells := 0, slots := 0, locals := 233 }) (va_Pc [.ref (ad 0), .int k] (mw_B D k_cl (k_tys cI cZ cP cR cC) (k_g tS) (mw_ov B ad cw 21) sz)) (va_Qi (fun (r : Int32) (M1 : mw_M) => ∃ rs1, sp_unrule rs k r rs1 ∧ k_ks cI cP cR cC B ad pm sm ca said rs1 dr M1) (mw_E D k_cl (mw_ov B ad cw 21) sz) (mw_A (mw_ov B ad cw 21) sz)) 0 0 (mw_A (mw_ov B ad cw 21) sz) := by
  refine mw_met (by decide) rfl (Nat.le_of_ble_eq_true rfl) ?_
  intro p e s m below meth c hsz J hr hlk hnm hK hZ hP hS hA ls hl
  subst hsz
  have hx := J.1
  have hb := J.2.1
  have hts := J.2.2.2.2
  have hl : lv_has ls 3 [(0, .ref (ad 0)), (1, .int k)] := hl
  obtain ⟨hc0, ht, hsv, hbl, ⟨ws, hc5, hWs⟩, hmd, hdr⟩ := id hkp
  obtain ⟨hpm, hsm⟩ := id hfz
  have hclo := rk_holds_clo hh
  obtain ⟨fc, w, hc2, hc3, hc4, hfc, hW, hL3, hnd, hlt⟩ := id ht
  obtain ⟨hrs12, fm, hc6, hfm⟩ := id hmd
  obtain ⟨hdr4, fd, hc7, hfd⟩ := id hdr
  refine lv_iload_n hx hb d_Kp_unrule_0 rfl (lv_at hl 1 rfl) ?_
  refine lv_if_lt (tgt := 12) hx hb d_Kp_unrule_1 (by decide) (fun c_1 => ?_) (fun c_1 => ?_)
  · have hno : ¬ ∃ i, i < rs.length ∧ k = nI i := fun ⟨i, hi, e⟩ => by
      rw [e] at c_1
      exact absurd c_1 (nI_pos (by omega))
    refine lv_iconst (v := (-1)) hx hb d_Kp_unrule_12 (by decide) ?_
    exact mw_iret J hr hlk hP hS d_Kp_unrule_13 (⟨rs, Or.inl ⟨hno, rfl, rfl⟩, ⟨B, cw, L, rfl, fun _ _ h => h, ho, hfz, hkp, hh, hsd⟩⟩)
  · refine lv_iload_n hx hb d_Kp_unrule_4 rfl (lv_at hl 1 rfl) ?_
    refine lv_aload_n hx hb d_Kp_unrule_5 rfl (lv_at hl 0 rfl) ?_
    refine mw_get (v := .int (nI rs.length)) (ci := 6) (C := R_Kp) (T := T_Kp) (N := 7) J i_Kp hK hP (mw_ov_is (i := 0) ho.1 (by decide) hc0) rfl 5 (by decide) (hts _ k_173) (fun _ h9 => h9) rfl d_Kp_unrule_6 ?_
    refine lv_icmp_lt (tgt := 14) hx hb d_Kp_unrule_9 (by decide) (fun c_9 => ?_) (fun c_9 => ?_)
    · obtain ⟨j, hj, ej⟩ : ∃ j, j < rs.length ∧ k = nI j := by
        rcases pk_ix k (n := rs.length) (by omega) with z | z | z
        · exact absurd z c_1
        · exact absurd c_9 (by rw [Int32.lt_iff_toInt_lt]; rw [Int32.le_iff_toInt_le] at z; omega)
        · exact z
      subst ej
      refine lv_iload_n hx hb d_Kp_unrule_14 rfl (lv_at hl 1 rfl) ?_
      refine lv_iconst (v := 1) hx hb d_Kp_unrule_15 (by decide) ?_
      refine mw_top (x' := nI 1) rfl ?_
      refine lv_iadd hx hb d_Kp_unrule_16 ?_
      refine mw_top (x' := nI (j + 1)) (nI_add _ _) ?_
      refine lv_istore_n (lv' := [(2, .int (nI (j + 1))), (0, .ref (ad 0)), (1, .int (nI j))]) hx hb d_Kp_unrule_17 rfl hl (by decide) rfl (fun ls hl => ?_)
      refine mw_loop (W' := fun H locs ls => W p l e _ s m _ below meth c H locs _ _ _ (F0 m 18 ls [])) rs.length (fun i H locs ls => ∃ (cx : Nat → va_E), ∃ (fq : Nat → Option Nat), lv_has ls 3 [(0, .ref (ad 0)), (1, .int (nI j)), (2, .int (nI i))] ∧ (cx 6 = .inl (cR, 12, .inr (.inr (.inr (.inr fq))))) ∧ (∀ i, i ≠ 6 → cx i = cw i) ∧ (j < i) ∧ (∀ z, z + 1 < i → fq z = fm (if z < j then z else z + 1)) ∧ (∀ z, i ≤ z + 1 → fq z = fm z) ∧ mw_P D k_cl (mw_ov B ad cx 21) (mw_A (mw_ov B ad cw 21) s.heap.size) H ∧ va_S (mw_A (mw_ov B ad cw 21) s.heap.size) s.heap H locs) ?_ rs.length (j + 1) (by omega) (by omega) _ _ _ ⟨cw, fm, lv_sub hl [1, 2, 0] rfl, hc6, (fun _ _ => rfl), (Nat.lt_succ_self j), (fun z hz => by rw [if_pos (by omega)]), (fun _ _ => rfl), hP, hS⟩
      intro i H locs ls hi_18 hI ih_18
      obtain ⟨cx, fq, hl, hx6, hxo, hji, hq1, hq2, hP, hS⟩ := hI
      refine lv_iload_n hx hb d_Kp_unrule_18 rfl (lv_at hl 2 rfl) ?_
      refine lv_aload_n hx hb d_Kp_unrule_19 rfl (lv_at hl 0 rfl) ?_
      refine mw_get (v := .int (nI rs.length)) (ci := 6) (C := R_Kp) (T := T_Kp) (N := 7) J i_Kp hK hP (mw_ov_is (i := 0) ho.1 (by decide) ((hxo 0 (by decide)).trans hc0)) rfl 5 (by decide) (hts _ k_173) (fun _ h9 => h9) rfl d_Kp_unrule_20 ?_
      refine lv_icmp_ge (tgt := 46) hx hb d_Kp_unrule_23 (by decide) (fun c_23 => ?_) (fun c_23 => ?_)
      · have c_23 : rs.length ≤ i := (nI_leI (by omega) (by omega)).mp c_23
        refine lv_aload_n hx hb d_Kp_unrule_46 rfl (lv_at hl 0 rfl) ?_
        refine lv_dup hx hb d_Kp_unrule_47 rfl ?_
        refine mw_get (v := .int (nI rs.length)) (ci := 6) (C := R_Kp) (T := T_Kp) (N := 7) J i_Kp hK hP (mw_ov_is (i := 0) ho.1 (by decide) ((hxo 0 (by decide)).trans hc0)) rfl 5 (by decide) (hts _ k_173) (fun _ h9 => h9) rfl d_Kp_unrule_48 ?_
        refine lv_iconst (v := 1) hx hb d_Kp_unrule_51 (by decide) ?_
        refine mw_top (x' := nI 1) rfl ?_
        refine lv_isub hx hb d_Kp_unrule_52 ?_
        refine mw_top (x' := nI (rs.length - 1)) (pk_sub (by omega)) ?_
        refine mw_put (v := .int (nI (rs.length - 1))) (ty := .int) (ci := 6) (C := R_Kp) (T := T_Kp) (N := 7) J i_Kp t_Kp o_Kp n_Kp hK hP hS (mw_ov_is (i := 0) ho.1 (by decide) ((hxo 0 (by decide)).trans hc0)) rfl 5 (by decide) (hts _ k_173) (fun _ h9 => h9) rfl rfl rfl rfl (Nat.le_of_ble_eq_true rfl) d_Kp_unrule_53 (fun H locs hP hS => ?_)
        rw [mw_ov_set ho.1 (by decide)] at hP
        have hP : mw_P D k_cl (mw_ov B ad (va_up cx 0 (.inr (6, [.ref (ad 1), .ref (ad 2), .ref sm, .ref (ad 6), .ref (ad 7), .int (nI (rs.length - 1)), .int (nI dr.length)]))) 21) _ H := hP
        have hie : i = rs.length := by omega
        have hln : (rs.eraseIdx j).length = rs.length - 1 := List.length_eraseIdx_of_lt hj
        have hce : (va_up cx 0 (.inr (6, [.ref (ad 1), .ref (ad 2), .ref sm, .ref (ad 6), .ref (ad 7), .int (nI (rs.length - 1)), .int (nI dr.length)]))) 0 = k_k0 ad sm (rs.eraseIdx j).length dr.length := by rw [hln]; rfl
        have hmdE : k_made cI cP cR B (va_up cx 0 (.inr (6, [.ref (ad 1), .ref (ad 2), .ref sm, .ref (ad 6), .ref (ad 7), .int (nI (rs.length - 1)), .int (nI dr.length)]))) (rs.eraseIdx j) := by
          refine ⟨by rw [hln]; omega, fq, (va_up_ne _ _ (by decide)).trans hx6, fun z hz => ?_⟩
          rw [hln] at hz
          rw [rk_rth_erase, hq1 z (by omega)]
          by_cases e : z < j
          · rw [if_pos e, if_pos e]
            exact hfm z (by omega)
          · rw [if_neg e, if_neg e]
            exact hfm (z + 1) (by omega)
        have hblE : ∀ d, d < 3 → k_blank cI ad (va_up cx 0 (.inr (6, [.ref (ad 1), .ref (ad 2), .ref sm, .ref (ad 6), .ref (ad 7), .int (nI (rs.length - 1)), .int (nI dr.length)]))) d := fun d hd => k_blank_same (hbl d hd) (fun z hz => (va_up_ne _ _ (by omega)).trans (hxo _ (by omega)))
        have hsvE : ∃ cc u, k_sv cI cC B ad (va_up cx 0 (.inr (6, [.ref (ad 1), .ref (ad 2), .ref sm, .ref (ad 6), .ref (ad 7), .int (nI (rs.length - 1)), .int (nI dr.length)]))) ca cc u := k_sv_s hsv ((va_up_ne _ _ (by decide)).trans (hxo 1 (by decide))) ((va_up_ne _ _ (by decide)).trans (hxo 8 (by decide)))
        have htE : k_tr cI ad (va_up cx 0 (.inr (6, [.ref (ad 1), .ref (ad 2), .ref sm, .ref (ad 6), .ref (ad 7), .int (nI (rs.length - 1)), .int (nI dr.length)]))) pm L := k_tr_s ht ((va_up_ne _ _ (by decide)).trans (hxo 2 (by decide))) ((va_up_ne _ _ (by decide)).trans (hxo 3 (by decide))) ((va_up_ne _ _ (by decide)).trans (hxo 4 (by decide)))
        refine lv_aload_n hx hb d_Kp_unrule_56 rfl (lv_at hl 0 rfl) ?_
        refine mw_afterV hP hS hA (mw_runV (As := []) (rest := []) J hK hZ hP hS hA (mw_ov_is (i := 0) ho.1 (by decide) rfl) rfl (c_Kp_holdAnew l D cI cZ cP cR cC tS _ B ad (va_up cx 0 (.inr (6, [.ref (ad 1), .ref (ad 2), .ref sm, .ref (ad 6), .ref (ad 7), .int (nI (rs.length - 1)), .int (nI dr.length)]))) pm L ho hpm htE ca hsvE hblE sm dr.length (rs.eraseIdx j) hce hmdE ws said hsm ((va_up_ne _ _ (by decide)).trans ((hxo 5 (by decide)).trans hc5)) hWs (rk_less_no hh (fun _ h => h) (fun r hr => List.mem_of_mem_eraseIdx hr))) (cwV 0 hts (mw_gV k_301 k_303 s_Kp_holdAnew k_1 k_304) rfl rfl rfl (by decide +kernel) ⟨Nat.le_of_ble_eq_true rfl, Nat.le_of_ble_eq_true rfl⟩) rfl hl.1 rfl (Nat.le_of_ble_eq_true rfl) d_Kp_unrule_57 ⟨Nat.le_of_ble_eq_true rfl, Nat.le_of_ble_eq_true rfl⟩) (fun M1 H locs hw hP hS => ?_)
        obtain ⟨c2, N1, rfl, kt2, hsv2, hbl2, hox2, hg2, hcl2⟩ := hw
        obtain ⟨f2, w2, -, -, -, -, -, h23, h2n, -⟩ := id kt2
        have hh2 := rk_less hh (fun _ h => h) h2n h23 hg2 hcl2
        refine lv_aload_n hx hb d_Kp_unrule_60 rfl (lv_at hl 0 rfl) ?_
        refine mw_get (v := .int (nI (rs.length - 1))) (ci := 6) (C := R_Kp) (T := T_Kp) (N := 7) J i_Kp hK hP (mw_ov_is (i := 0) ho.1 (by decide) ((hox2 0 (by decide)).trans rfl)) rfl 5 (by decide) (hts _ k_173) (fun _ h9 => h9) rfl d_Kp_unrule_61 ?_
        refine mw_iret J hr hlk hP hS d_Kp_unrule_64 (⟨(rs.eraseIdx j), Or.inr ⟨j, hj, rfl, rfl, rfl⟩, B, c2, _, rfl, fun _ _ h => h, ho, hfz, ⟨(hox2 0 (by decide)).trans hce, kt2, hsv2, hbl2, ⟨ws, (hox2 5 (by decide)).trans ((va_up_ne _ _ (by decide)).trans ((hxo 5 (by decide)).trans hc5)), hWs⟩, ?_, ⟨hdr4, fd, (hox2 7 (by decide)).trans ((va_up_ne _ _ (by decide)).trans ((hxo 7 (by decide)).trans hc7)), hfd⟩⟩, hh2, hsd⟩)
        obtain ⟨a1, fm1, a2, a3⟩ := id hmdE
        exact ⟨a1, fm1, (hox2 6 (by decide)).trans a2, a3⟩
      · have c_23 : ¬ (rs.length ≤ i) := fun z => c_23 ((nI_leI (by omega) (by omega)).mpr z)
        obtain ⟨a9, hf9, hru9, -⟩ := hfm i (by omega)
        have hfq9 : fq i = some a9 := (hq2 i (by omega)).trans hf9
        have rp9 : ∀ c, ∃ a b d, mw_ov B ad c 21 a9 = some (.inr (3, [.ref a, .ref b, .ref d])) := fun c => by
          obtain ⟨-, a, b, d, _, _, h, -⟩ := id hru9
          exact ⟨a, b, d, mw_ov_fr ho.2 h⟩
        refine lv_aload_n hx hb d_Kp_unrule_26 rfl (lv_at hl 0 rfl) ?_
        refine mw_get (v := .ref (ad 6)) (ci := 6) (C := R_Kp) (T := T_Kp) (N := 7) J i_Kp hK hP (mw_ov_is (i := 0) ho.1 (by decide) ((hxo 0 (by decide)).trans hc0)) rfl 3 (by decide) (hts _ k_171) (fun _ h9 => h9) rfl d_Kp_unrule_27 ?_
        refine lv_iload_n hx hb d_Kp_unrule_30 rfl (lv_at hl 2 rfl) ?_
        refine lv_iconst (v := 1) hx hb d_Kp_unrule_31 (by decide) ?_
        refine mw_top (x' := nI 1) rfl ?_
        refine lv_isub hx hb d_Kp_unrule_32 ?_
        refine mw_top (x' := nI (i - 1)) (pk_sub (by omega)) ?_
        refine lv_aload_n hx hb d_Kp_unrule_33 rfl (lv_at hl 0 rfl) ?_
        refine mw_get (v := .ref (ad 6)) (ci := 6) (C := R_Kp) (T := T_Kp) (N := 7) J i_Kp hK hP (mw_ov_is (i := 0) ho.1 (by decide) ((hxo 0 (by decide)).trans hc0)) rfl 3 (by decide) (hts _ k_171) (fun _ h9 => h9) rfl d_Kp_unrule_34 ?_
        refine lv_iload_n hx hb d_Kp_unrule_37 rfl (lv_at hl 2 rfl) ?_
        refine mw_aaldN (k := i) (b := a9) J hK hP 3 (mw_ov_is (i := 6) ho.1 (by decide) hx6) rfl (by omega) (by decide) hfq9 d_Kp_unrule_38 ?_
        refine mw_aastN (k := (i - 1)) J hK hP hS 3 3 (mw_ov_is (i := 6) ho.1 (by decide) hx6) rfl (rp9 _).choose_spec.choose_spec.choose_spec rfl (by omega) (by decide) d_Kp_unrule_39 (fun H locs hP hS => ?_)
        rw [mw_ov_set ho.1 (by decide)] at hP
        have hP : mw_P D k_cl (mw_ov B ad (va_up cx 6 (.inl (cR, 12, .inr (.inr (.inr (.inr (va_up fq (i - 1) (some a9)))))))) 21) _ H := hP
        refine lv_iinc (v := nI (i + 1)) (lv' := [(2, .int (nI (i + 1))), (0, .ref (ad 0)), (1, .int (nI j))]) hx hb d_Kp_unrule_40 hl (k := 2) rfl (nI_1 i) (by decide) rfl (fun ls hl => ?_)
        refine lv_goto (tgt := 18) hx hb d_Kp_unrule_43 (by decide) ?_
        exact ih_18 _ _ _ (by omega) ⟨_, (va_up fq (i - 1) (some a9)), lv_sub hl [1, 2, 0] rfl, rfl, (fun z hz => (va_up_ne _ _ hz).trans (hxo z hz)), (by omega), (fun z hz => by
              by_cases e : z = i - 1
              · rw [e, va_up_self, if_neg (by omega), ← hf9, show i - 1 + 1 = i by omega]
              · rw [va_up_ne _ _ e]; exact hq1 z (by omega)), (fun z hz => (va_up_ne _ _ (by omega)).trans (hq2 z (by omega))), hP, hS⟩
    · have hno : ¬ ∃ i, i < rs.length ∧ k = nI i := fun ⟨i, hi, e⟩ => by
        rw [e] at c_9
        exact c_9 ((nI_ltI (by omega) (by omega)).mpr hi)
      refine lv_iconst (v := (-1)) hx hb d_Kp_unrule_12 (by decide) ?_
      exact mw_iret J hr hlk hP hS d_Kp_unrule_13 (⟨rs, Or.inl ⟨hno, rfl, rfl⟩, ⟨B, cw, L, rfl, fun _ _ h => h, ho, hfz, hkp, hh, hsd⟩⟩)
