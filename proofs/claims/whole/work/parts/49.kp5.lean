/-! RuleKeeper: fitting, pattern -/
set_option maxHeartbeats 4000000 in
set_option maxRecDepth 100000 in
theorem c_Kp_fitting (l : Launch) (D : va_G) (cI cZ cP cR cC : ClassId) (tS : Nat) (sz : Nat) (B : mw_M) (ad : Nat → Nat) (cw : Nat → va_E) (pm sm ca : Nat) (said : Nat → Bool) (rs : List rk_Ru) (dr : List rk_Pt) (L : List Nat) (ho : k_ov B ad) (hfz : k_fz B ad pm sm) (hkp : k_kp cI cP cR cC B ad cw pm sm ca said rs dr L) (hh : rk_holds said rs L) (hsd : ∀ j, said j = true → j < 32768) (x y z : Int32) :
    Met l y_Kp_fitting (.code y_Kp_fitting b_Kp_fitting 7 (some .int) :: gw) ({ frames := 2, cells := 4, slots := 17, locals := 45 }) (va_Pc [.ref (ad 0), .int x, .int y, .int z] (mw_B D k_cl (k_tys cI cZ cP cR cC) (k_g tS) (mw_ov B ad cw 21) sz)) (va_Qi (fun (r : Int32) (M1 : mw_M) => sp_fitting said rs x y z r ∧ k_ks cI cP cR cC B ad pm sm ca said rs dr M1) (mw_E D k_cl (mw_ov B ad cw 21) sz) (mw_A (mw_ov B ad cw 21) sz)) 4 17 (mw_A (mw_ov B ad cw 21) sz) := by
  refine mw_met (by decide) rfl (Nat.le_of_ble_eq_true rfl) ?_
  intro p e s m below meth c hsz J hr hlk hnm hK hZ hP hS hA ls hl
  subst hsz
  have hx := J.1
  have hb := J.2.1
  have hts := J.2.2.2.2
  have hl : lv_has ls 7 [(0, .ref (ad 0)), (1, .int x), (2, .int y), (3, .int z)] := hl
  obtain ⟨hc0, ht, hsv, hbl, ⟨ws, hc5, hWs⟩, hmd, hdr⟩ := id hkp
  obtain ⟨hpm, hsm⟩ := id hfz
  have hclo := rk_holds_clo hh
  obtain ⟨fc, w, hc2, hc3, hc4, hfc, hW, hL3, hnd, hlt⟩ := id ht
  obtain ⟨hrs12, fm, hc6, hfm⟩ := id hmd
  obtain ⟨hdr4, fd, hc7, hfd⟩ := id hdr
  refine lv_iload_n hx hb d_Kp_fitting_0 rfl (lv_at hl 1 rfl) ?_
  refine lv_iload_n hx hb d_Kp_fitting_1 rfl (lv_at hl 2 rfl) ?_
  refine lv_iload_n hx hb d_Kp_fitting_2 rfl (lv_at hl 3 rfl) ?_
  refine mw_afterI hP hS hA (mw_runS (As := [.int x, .int y, .int z]) (rest := []) J hK hZ hP hS hA (c_Kp_isPattern l D cI cZ cP cR cC tS _ (mw_ov B ad cw 21) x y z) (cwS 3 hts (mw_gS k_313 k_314 k_1 k_315) rfl rfl rfl (by decide +kernel) ⟨Nat.le_of_ble_eq_true rfl, Nat.le_of_ble_eq_true rfl⟩) rfl hl.1 rfl (Nat.le_of_ble_eq_true rfl) d_Kp_fitting_3 ⟨Nat.le_of_ble_eq_true rfl, Nat.le_of_ble_eq_true rfl⟩) (fun r0 M1 H locs hw hP hS => ?_)
  obtain ⟨rfl, hw⟩ := hw
  refine lv_if_ne (tgt := 11) hx hb d_Kp_fitting_6 (by decide) (fun c_6 => ?_) (fun c_6 => ?_)
  · obtain ⟨P, hpt⟩ := (hw.resolve_right (fun g => c_6 g.1)).2
    refine mw_new (ci := 2) (fs := [.null, .null, .int 0, .int 0, .int 0, .int 0, .int 0, .int 0]) (C := R_Pt) (T := T_Pt) (N := 8) J i_Pt t_Pt o_Pt (hts _ k_144) (hts _ k_65) (hts _ k_6) hK hP hS hA rfl (fun j hj => by rcases (show j = 0 ∨ j = 1 ∨ j = 2 ∨ j = 3 ∨ j = 4 ∨ j = 5 ∨ j = 6 ∨ j = 7 by omega) with rfl | rfl | rfl | rfl | rfl | rfl | rfl | rfl <;> rfl) (Nat.le_of_ble_eq_true rfl) (Nat.le_of_ble_eq_true rfl) d_Kp_fitting_11 (fun q0 H hq0n hP hS => ?_)
    refine lv_dup hx hb d_Kp_fitting_14 rfl ?_
    refine lv_iload_n hx hb d_Kp_fitting_15 rfl (lv_at hl 1 rfl) ?_
    refine lv_iload_n hx hb d_Kp_fitting_16 rfl (lv_at hl 2 rfl) ?_
    refine lv_iload_n hx hb d_Kp_fitting_17 rfl (lv_at hl 3 rfl) ?_
    have hin := fun sz => c_Pt_init l D cI cZ cP cR cC tS sz (va_up (mw_ov B ad cw 21) q0 (some (.inr (2, [.null, .null, .int 0, .int 0, .int 0, .int 0, .int 0, .int 0])))) q0 P hpt.1 (va_up_self _ _ _)
    rw [← hpt.2.1, ← hpt.2.2.1, ← hpt.2.2.2] at hin
    refine mw_afterV hP hS hA (mw_runI (As := [.int x, .int y, .int z]) (rest := [.ref q0]) J hK hZ hP hS hA (hin _) (cwI 3 hts (mw_gI k_68) rfl rfl rfl (hts _ k_6) (hts _ k_148) (hts _ k_67) rfl (by decide +kernel) ⟨Nat.le_of_ble_eq_true rfl, Nat.le_of_ble_eq_true rfl⟩) rfl hl.1 rfl (Nat.le_of_ble_eq_true rfl) d_Kp_fitting_18 ⟨Nat.le_of_ble_eq_true rfl, Nat.le_of_ble_eq_true rfl⟩) (fun M1 H locs hw hP hS => ?_)
    obtain ⟨b9, q9, hpx, hkeep⟩ := hw
    obtain ⟨B1, rfl, ho1, hB1, hpat1, hBn⟩ := k_newpat ho hq0n hpx hkeep
    have pp1 : ∀ c, ∃ b q, mw_ov B1 ad c 21 q0 = some (.inr (2, k_pf P b q)) := fun c => by
      obtain ⟨-, b, q, _, _, h, -⟩ := k_pat_mono hpat1 (k_fr ho1 c)
      exact ⟨b, q, h⟩
    refine lv_astore (lv' := [(4, .ref q0), (0, .ref (ad 0)), (1, .int x), (2, .int y), (3, .int z)]) hx hb d_Kp_fitting_21 hl (by decide) rfl (fun ls hl => ?_)
    refine lv_iconst (v := 0) hx hb d_Kp_fitting_23 (by decide) ?_
    refine mw_top (x' := nI (rk_sum (L.take 0) (fun k => rk_if (rk_fits P k) 1))) nI_0.symm ?_
    refine lv_istore (lv' := [(5, .int (nI (rk_sum (L.take 0) (fun k => rk_if (rk_fits P k) 1)))), (4, .ref q0), (0, .ref (ad 0)), (1, .int x), (2, .int y), (3, .int z)]) hx hb d_Kp_fitting_24 hl (by decide) rfl (fun ls hl => ?_)
    refine lv_iconst (v := 0) hx hb d_Kp_fitting_26 (by decide) ?_
    refine mw_top (x' := nI 0) nI_0.symm ?_
    refine lv_istore (lv' := [(6, .int (nI 0)), (5, .int (nI (rk_sum (L.take 0) (fun k => rk_if (rk_fits P k) 1)))), (4, .ref q0), (0, .ref (ad 0)), (1, .int x), (2, .int y), (3, .int z)]) hx hb d_Kp_fitting_27 hl (by decide) rfl (fun ls hl => ?_)
    refine mw_loop (W' := fun H locs ls => W p l e _ s m _ below meth c H locs _ _ _ (F0 m 29 ls [])) L.length (fun i H locs ls => lv_has ls 7 [(0, .ref (ad 0)), (4, .ref q0), (5, .int (nI (rk_sum (L.take i) (fun k => rk_if (rk_fits P k) 1)))), (6, .int (nI i))] ∧ mw_P D k_cl (mw_ov B1 ad cw 21) (mw_A (mw_ov B ad cw 21) s.heap.size) H ∧ va_S (mw_A (mw_ov B ad cw 21) s.heap.size) s.heap H locs) ?_ L.length 0 (by omega) (by omega) _ _ _ ⟨lv_sub hl [3, 2, 1, 0] rfl, hP, hS⟩
    intro i H locs ls hi_29 hI ih_29
    obtain ⟨hl, hP, hS⟩ := hI
    refine lv_iload hx hb d_Kp_fitting_29 (lv_at hl 3 rfl) ?_
    refine lv_aload_n hx hb d_Kp_fitting_31 rfl (lv_at hl 0 rfl) ?_
    refine mw_get (v := .ref (ad 2)) (ci := 6) (C := R_Kp) (T := T_Kp) (N := 7) J i_Kp hK hP (mw_ov_is (i := 0) ho1.1 (by decide) hc0) rfl 1 (by decide) (hts _ k_169) (fun _ h9 => h9) rfl d_Kp_fitting_32 ?_
    refine mw_get (v := .int (nI L.length)) (ci := 1) (C := R_Tr) (T := T_Tr) (N := 3) J i_Tr hK hP (mw_ov_is (i := 2) ho1.1 (by decide) hc2) rfl 2 (by decide) (hts _ k_49) (fun _ h9 => h9) rfl d_Kp_fitting_35 ?_
    refine lv_icmp_ge (tgt := 68) hx hb d_Kp_fitting_38 (by decide) (fun c_38 => ?_) (fun c_38 => ?_)
    · have c_38 : L.length ≤ i := (nI_leI (by omega) (by omega)).mp c_38
      have hie : i = L.length := by omega
      refine lv_iload hx hb d_Kp_fitting_68 (lv_at hl 2 rfl) ?_
      refine W.widen (k := 4) (n := 17) (by omega) (by omega) ?_
      exact mw_iret J hr hlk hP hS d_Kp_fitting_70 (⟨Or.inr ⟨P, hpt, L, hh, by rw [hie, List.take_length]⟩, B1, cw, L, rfl, hB1, ho1, k_fz_mono hfz hB1, k_kp_mono hkp hB1, hh, hsd⟩)
    · have c_38 : ¬ (L.length ≤ i) := fun z => c_38 ((nI_leI (by omega) (by omega)).mpr z)
      refine lv_aload hx hb d_Kp_fitting_41 (lv_at hl 1 rfl) ?_
      refine lv_aload_n hx hb d_Kp_fitting_43 rfl (lv_at hl 0 rfl) ?_
      refine mw_get (v := .ref (ad 2)) (ci := 6) (C := R_Kp) (T := T_Kp) (N := 7) J i_Kp hK hP (mw_ov_is (i := 0) ho1.1 (by decide) hc0) rfl 1 (by decide) (hts _ k_169) (fun _ h9 => h9) rfl d_Kp_fitting_44 ?_
      refine mw_get (v := .ref (ad 3)) (ci := 1) (C := R_Tr) (T := T_Tr) (N := 3) J i_Tr hK hP (mw_ov_is (i := 2) ho1.1 (by decide) hc2) rfl 0 (by decide) (hts _ k_44) (fun _ h9 => h9) rfl d_Kp_fitting_47 ?_
      refine lv_iload hx hb d_Kp_fitting_50 (lv_at hl 3 rfl) ?_
      refine mw_nald (k := i) J hK hP 0 (mw_ov_is (i := 3) ho1.1 (by decide) hc3) rfl (by omega) (by decide) d_Kp_fitting_52 ?_
      refine mw_top (x' := nI (L.getD i 0)) (by rw [hfc i (by omega)]) ?_
      refine mw_afterI hP hS hA (mw_runV (As := [.int (nI (L.getD i 0))]) (rest := []) J hK hZ hP hS hA (pp1 _).choose_spec.choose_spec rfl (c_Pt_fits l D cI cZ cP cR cC tS _ (mw_ov B1 ad cw 21) q0 P (k_pat_mono hpat1 (k_fr ho1 _)) (L.getD i 0) (hlt _ (rk_getD_mem (by omega)))) (cwV 1 hts (mw_gV k_366 k_236 k_237 k_6 k_238) rfl rfl rfl (by decide +kernel) ⟨Nat.le_of_ble_eq_true rfl, Nat.le_of_ble_eq_true rfl⟩) rfl hl.1 rfl (Nat.le_of_ble_eq_true rfl) d_Kp_fitting_53 ⟨Nat.le_of_ble_eq_true rfl, Nat.le_of_ble_eq_true rfl⟩) (fun r5 M1 H locs hw hP hS => ?_)
      obtain ⟨rfl, hw⟩ := hw
      refine lv_if_eq (tgt := 62) hx hb d_Kp_fitting_56 (by decide) (fun c_56 => ?_) (fun c_56 => ?_)
      · have hft : ¬ rk_fits P (L.getD i 0) := (hw.resolve_left (fun g => by rw [g.1] at c_56; exact absurd c_56 (by decide))).2
        refine lv_iinc (v := nI (i + 1)) (lv' := [(6, .int (nI (i + 1))), (0, .ref (ad 0)), (4, .ref q0), (5, .int (nI (rk_sum (L.take i) (fun k => rk_if (rk_fits P k) 1))))]) hx hb d_Kp_fitting_62 hl (k := 3) rfl (nI_1 i) (by decide) rfl (fun ls hl => ?_)
        refine lv_goto (tgt := 29) hx hb d_Kp_fitting_65 (by decide) ?_
        exact ih_29 _ _ _ (by omega) ⟨(by rw [rk_take_succ (by omega), rk_sum_app, rk_sum_cons, rk_sum_nil, rk_if_f hft]; exact lv_sub hl [1, 2, 3, 0] rfl), hP, hS⟩
      · have hft : rk_fits P (L.getD i 0) := (hw.resolve_right (fun g => c_56 g.1)).2
        refine lv_iinc (v := nI (rk_sum (L.take (i + 1)) (fun k => rk_if (rk_fits P k) 1))) (lv' := [(5, .int (nI (rk_sum (L.take (i + 1)) (fun k => rk_if (rk_fits P k) 1)))), (0, .ref (ad 0)), (4, .ref q0), (6, .int (nI i))]) hx hb d_Kp_fitting_59 hl (k := 2) rfl (by rw [rk_take_succ (by omega), rk_sum_app, rk_sum_cons, rk_sum_nil, rk_if_t hft]; exact nI_1 _) (by decide) rfl (fun ls hl => ?_)
        refine lv_iinc (v := nI (i + 1)) (lv' := [(6, .int (nI (i + 1))), (5, .int (nI (rk_sum (L.take (i + 1)) (fun k => rk_if (rk_fits P k) 1)))), (0, .ref (ad 0)), (4, .ref q0)]) hx hb d_Kp_fitting_62 hl (k := 3) rfl (nI_1 i) (by decide) rfl (fun ls hl => ?_)
        refine lv_goto (tgt := 29) hx hb d_Kp_fitting_65 (by decide) ?_
        exact ih_29 _ _ _ (by omega) ⟨lv_sub hl [2, 3, 1, 0] rfl, hP, hS⟩
  · have hno := (hw.resolve_left (fun g => by rw [g.1] at c_6; exact absurd c_6 (by decide))).2
    refine lv_iconst (v := (-1)) hx hb d_Kp_fitting_9 (by decide) ?_
    refine W.widen (k := 4) (n := 17) (by omega) (by omega) ?_
    exact mw_iret J hr hlk hP hS d_Kp_fitting_10 (⟨Or.inl ⟨hno, rfl⟩, ⟨B, cw, L, rfl, fun _ _ h => h, ho, hfz, hkp, hh, hsd⟩⟩)

theorem k_sv_70 {cI cC : ClassId} {B : mw_M} {ad : Nat → Nat} {cw : Nat → va_E} {ca : Nat} {e e' : va_E} (h : ∃ cc u, k_sv cI cC B ad cw ca cc u) : ∃ cc u, k_sv cI cC B ad (va_up (va_up cw 7 e) 0 e') ca cc u := by
  obtain ⟨cc, u, a1, a2, a3⟩ := h
  exact ⟨cc, u, a1, a2, a3⟩
set_option maxHeartbeats 4000000 in
set_option maxRecDepth 100000 in
theorem c_Kp_pattern (l : Launch) (D : va_G) (cI cZ cP cR cC : ClassId) (tS : Nat) (sz : Nat) (B : mw_M) (ad : Nat → Nat) (cw : Nat → va_E) (pm sm ca : Nat) (said : Nat → Bool) (rs : List rk_Ru) (dr : List rk_Pt) (L : List Nat) (ho : k_ov B ad) (hfz : k_fz B ad pm sm) (hkp : k_kp cI cP cR cC B ad cw pm sm ca said rs dr L) (hh : rk_holds said rs L) (hsd : ∀ j, said j = true → j < 32768) (x y z : Int32) :
    Met l y_Kp_pattern (.code y_Kp_pattern b_Kp_pattern 4 (some .int) :: gw) ({ frames := 2, cells := 4, slots := 17, locals := 45 }) (va_Pc [.ref (ad 0), .int x, .int y, .int z] (mw_B D k_cl (k_tys cI cZ cP cR cC) (k_g tS) (mw_ov B ad cw 21) sz)) (va_Qi (fun (r : Int32) (M1 : mw_M) => ∃ dr1, sp_pattern dr x y z r dr1 ∧ k_ks cI cP cR cC B ad pm sm ca said rs dr1 M1) (mw_E D k_cl (mw_ov B ad cw 21) sz) (mw_A (mw_ov B ad cw 21) sz)) 4 17 (mw_A (mw_ov B ad cw 21) sz) := by
  refine mw_met (by decide) rfl (Nat.le_of_ble_eq_true rfl) ?_
  intro p e s m below meth c hsz J hr hlk hnm hK hZ hP hS hA ls hl
  subst hsz
  have hx := J.1
  have hb := J.2.1
  have hts := J.2.2.2.2
  have hl : lv_has ls 4 [(0, .ref (ad 0)), (1, .int x), (2, .int y), (3, .int z)] := hl
  obtain ⟨hc0, ht, hsv, hbl, ⟨ws, hc5, hWs⟩, hmd, hdr⟩ := id hkp
  obtain ⟨hpm, hsm⟩ := id hfz
  have hclo := rk_holds_clo hh
  obtain ⟨fc, w, hc2, hc3, hc4, hfc, hW, hL3, hnd, hlt⟩ := id ht
  obtain ⟨hrs12, fm, hc6, hfm⟩ := id hmd
  obtain ⟨hdr4, fd, hc7, hfd⟩ := id hdr
  refine lv_iload_n hx hb d_Kp_pattern_0 rfl (lv_at hl 1 rfl) ?_
  refine lv_iload_n hx hb d_Kp_pattern_1 rfl (lv_at hl 2 rfl) ?_
  refine lv_iload_n hx hb d_Kp_pattern_2 rfl (lv_at hl 3 rfl) ?_
  refine mw_afterI hP hS hA (mw_runS (As := [.int x, .int y, .int z]) (rest := []) J hK hZ hP hS hA (c_Kp_isPattern l D cI cZ cP cR cC tS _ (mw_ov B ad cw 21) x y z) (cwS 3 hts (mw_gS k_313 k_314 k_1 k_315) rfl rfl rfl (by decide +kernel) ⟨Nat.le_of_ble_eq_true rfl, Nat.le_of_ble_eq_true rfl⟩) rfl hl.1 rfl (Nat.le_of_ble_eq_true rfl) d_Kp_pattern_3 ⟨Nat.le_of_ble_eq_true rfl, Nat.le_of_ble_eq_true rfl⟩) (fun r0 M1 H locs hw hP hS => ?_)
  obtain ⟨rfl, hw⟩ := hw
  refine lv_if_ne (tgt := 11) hx hb d_Kp_pattern_6 (by decide) (fun c_6 => ?_) (fun c_6 => ?_)
  · obtain ⟨P, hpt⟩ := (hw.resolve_right (fun g => c_6 g.1)).2
    refine lv_aload_n hx hb d_Kp_pattern_11 rfl (lv_at hl 0 rfl) ?_
    refine mw_get (v := .int (nI dr.length)) (ci := 6) (C := R_Kp) (T := T_Kp) (N := 7) J i_Kp hK hP (mw_ov_is (i := 0) ho.1 (by decide) hc0) rfl 6 (by decide) (hts _ k_174) (fun _ h9 => h9) rfl d_Kp_pattern_12 ?_
    refine lv_iconst (v := 4) hx hb d_Kp_pattern_15 (by decide) ?_
    refine mw_top (x' := nI 4) rfl ?_
    refine lv_icmp_lt (tgt := 22) hx hb d_Kp_pattern_16 (by decide) (fun c_16 => ?_) (fun c_16 => ?_)
    · have c_16 : dr.length < 4 := (nI_ltI (by omega) (by omega)).mp c_16
      refine lv_aload_n hx hb d_Kp_pattern_22 rfl (lv_at hl 0 rfl) ?_
      refine mw_get (v := .ref (ad 7)) (ci := 6) (C := R_Kp) (T := T_Kp) (N := 7) J i_Kp hK hP (mw_ov_is (i := 0) ho.1 (by decide) hc0) rfl 4 (by decide) (hts _ k_172) (fun _ h9 => h9) rfl d_Kp_pattern_23 ?_
      refine lv_aload_n hx hb d_Kp_pattern_26 rfl (lv_at hl 0 rfl) ?_
      refine mw_get (v := .int (nI dr.length)) (ci := 6) (C := R_Kp) (T := T_Kp) (N := 7) J i_Kp hK hP (mw_ov_is (i := 0) ho.1 (by decide) hc0) rfl 6 (by decide) (hts _ k_174) (fun _ h9 => h9) rfl d_Kp_pattern_27 ?_
      refine mw_new (ci := 2) (fs := [.null, .null, .int 0, .int 0, .int 0, .int 0, .int 0, .int 0]) (C := R_Pt) (T := T_Pt) (N := 8) J i_Pt t_Pt o_Pt (hts _ k_144) (hts _ k_65) (hts _ k_6) hK hP hS hA rfl (fun j hj => by rcases (show j = 0 ∨ j = 1 ∨ j = 2 ∨ j = 3 ∨ j = 4 ∨ j = 5 ∨ j = 6 ∨ j = 7 by omega) with rfl | rfl | rfl | rfl | rfl | rfl | rfl | rfl <;> rfl) (Nat.le_of_ble_eq_true rfl) (Nat.le_of_ble_eq_true rfl) d_Kp_pattern_30 (fun q0 H hq0n hP hS => ?_)
      refine lv_dup hx hb d_Kp_pattern_33 rfl ?_
      refine lv_iload_n hx hb d_Kp_pattern_34 rfl (lv_at hl 1 rfl) ?_
      refine lv_iload_n hx hb d_Kp_pattern_35 rfl (lv_at hl 2 rfl) ?_
      refine lv_iload_n hx hb d_Kp_pattern_36 rfl (lv_at hl 3 rfl) ?_
      have hin := fun sz => c_Pt_init l D cI cZ cP cR cC tS sz (va_up (mw_ov B ad cw 21) q0 (some (.inr (2, [.null, .null, .int 0, .int 0, .int 0, .int 0, .int 0, .int 0])))) q0 P hpt.1 (va_up_self _ _ _)
      rw [← hpt.2.1, ← hpt.2.2.1, ← hpt.2.2.2] at hin
      refine mw_afterV hP hS hA (mw_runI (As := [.int x, .int y, .int z]) (rest := [.ref q0, .int (nI dr.length), .ref (ad 7)]) J hK hZ hP hS hA (hin _) (cwI 3 hts (mw_gI k_68) rfl rfl rfl (hts _ k_6) (hts _ k_148) (hts _ k_67) rfl (by decide +kernel) ⟨Nat.le_of_ble_eq_true rfl, Nat.le_of_ble_eq_true rfl⟩) rfl hl.1 rfl (Nat.le_of_ble_eq_true rfl) d_Kp_pattern_37 ⟨Nat.le_of_ble_eq_true rfl, Nat.le_of_ble_eq_true rfl⟩) (fun M1 H locs hw hP hS => ?_)
      obtain ⟨b9, q9, hpx, hkeep⟩ := hw
      obtain ⟨B1, rfl, ho1, hB1, hpat1, hBn⟩ := k_newpat ho hq0n hpx hkeep
      have pp1 : ∀ c, ∃ b q, mw_ov B1 ad c 21 q0 = some (.inr (2, k_pf P b q)) := fun c => by
        obtain ⟨-, b, q, _, _, h, -⟩ := k_pat_mono hpat1 (k_fr ho1 c)
        exact ⟨b, q, h⟩
      refine mw_aastN (k := dr.length) J hK hP hS 2 2 (mw_ov_is (i := 7) ho1.1 (by decide) hc7) rfl (pp1 _).choose_spec.choose_spec rfl (by omega) (by decide) d_Kp_pattern_40 (fun H locs hP hS => ?_)
      rw [mw_ov_set ho1.1 (by decide)] at hP
      have hP : mw_P D k_cl (mw_ov B1 ad (va_up cw 7 (.inl (cP, 4, .inr (.inr (.inr (.inr (va_up fd dr.length (some q0)))))))) 21) _ H := hP
      refine lv_aload_n hx hb d_Kp_pattern_41 rfl (lv_at hl 0 rfl) ?_
      refine lv_dup hx hb d_Kp_pattern_42 rfl ?_
      refine mw_get (v := .int (nI dr.length)) (ci := 6) (C := R_Kp) (T := T_Kp) (N := 7) J i_Kp hK hP (mw_ov_is (i := 0) ho1.1 (by decide) hc0) rfl 6 (by decide) (hts _ k_174) (fun _ h9 => h9) rfl d_Kp_pattern_43 ?_
      refine lv_iconst (v := 1) hx hb d_Kp_pattern_46 (by decide) ?_
      refine mw_top (x' := nI 1) rfl ?_
      refine lv_iadd hx hb d_Kp_pattern_47 ?_
      refine mw_top (x' := nI (dr.length + 1)) (nI_add _ _) ?_
      refine mw_put (v := .int (nI (dr.length + 1))) (ty := .int) (ci := 6) (C := R_Kp) (T := T_Kp) (N := 7) J i_Kp t_Kp o_Kp n_Kp hK hP hS (mw_ov_is (i := 0) ho1.1 (by decide) hc0) rfl 6 (by decide) (hts _ k_174) (fun _ h9 => h9) rfl rfl rfl rfl (Nat.le_of_ble_eq_true rfl) d_Kp_pattern_48 (fun H locs hP hS => ?_)
      rw [mw_ov_set ho1.1 (by decide)] at hP
      have hP : mw_P D k_cl (mw_ov B1 ad (va_up (va_up cw 7 (.inl (cP, 4, .inr (.inr (.inr (.inr (va_up fd dr.length (some q0)))))))) 0 (.inr (6, [.ref (ad 1), .ref (ad 2), .ref sm, .ref (ad 6), .ref (ad 7), .int (nI rs.length), .int (nI (dr.length + 1))]))) 21) _ H := hP
      refine lv_aload_n hx hb d_Kp_pattern_51 rfl (lv_at hl 0 rfl) ?_
      refine mw_get (v := .int (nI (dr.length + 1))) (ci := 6) (C := R_Kp) (T := T_Kp) (N := 7) J i_Kp hK hP (mw_ov_is (i := 0) ho1.1 (by decide) rfl) rfl 6 (by decide) (hts _ k_174) (fun _ h9 => h9) rfl d_Kp_pattern_52 ?_
      refine W.widen (k := 4) (n := 17) (by omega) (by omega) ?_
      refine mw_iret J hr hlk hP hS d_Kp_pattern_55 (⟨dr ++ [P], Or.inr ⟨P, hpt, Or.inr ⟨by omega, rfl, rfl⟩⟩, B1, _, L, rfl, hB1, ho1, k_fz_mono hfz hB1, ⟨by rw [List.length_append]; rfl, ⟨fc, w, hc2, hc3, hc4, hfc, hW, hL3, hnd, hlt⟩, k_svs_mono (k_sv_70 hsv) hB1, fun d hd => k_blank_same (hbl d hd) (fun z hz => by rw [va_up_ne _ _ (by omega), va_up_ne _ _ (by omega)]), ⟨ws, hc5, hWs⟩, k_made_mono ⟨hrs12, fm, hc6, hfm⟩ hB1, ⟨by rw [List.length_append]; show dr.length + 1 ≤ 4; omega, _, rfl, fun i hi => ?_⟩⟩, hh, hsd⟩)
      rw [List.length_append] at hi
      by_cases e : i = dr.length
      · subst e
        exact ⟨q0, va_up_self _ _ _, by rw [rk_ptD_last]; exact hpat1⟩
      · have hi2 : i < dr.length := by simp at hi; omega
        obtain ⟨a, g1, g2⟩ := hfd i hi2
        exact ⟨a, (va_up_ne _ _ e).trans g1, by rw [rk_ptD_app hi2]; exact k_pat_mono g2 hB1⟩
    · have c_16 : ¬ (dr.length < 4) := fun z => c_16 ((nI_ltI (by omega) (by omega)).mpr z)
      refine lv_bipush (v := (-3)) hx hb d_Kp_pattern_19 (by decide) ?_
      refine W.widen (k := 4) (n := 17) (by omega) (by omega) ?_
      exact mw_iret J hr hlk hP hS d_Kp_pattern_21 (⟨dr, Or.inr ⟨P, hpt, Or.inl ⟨by omega, rfl, rfl⟩⟩, ⟨B, cw, L, rfl, fun _ _ h => h, ho, hfz, hkp, hh, hsd⟩⟩)
  · have hno := (hw.resolve_left (fun g => by rw [g.1] at c_6; exact absurd c_6 (by decide))).2
    refine lv_iconst (v := (-1)) hx hb d_Kp_pattern_9 (by decide) ?_
    refine W.widen (k := 4) (n := 17) (by omega) (by omega) ?_
    exact mw_iret J hr hlk hP hS d_Kp_pattern_10 (⟨dr, Or.inl ⟨hno, rfl, rfl⟩, ⟨B, cw, L, rfl, fun _ _ h => h, ho, hfz, hkp, hh, hsd⟩⟩)
