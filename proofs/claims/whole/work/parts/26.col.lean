/-! Column: placeOf, take -/
set_option maxHeartbeats 4000000 in
set_option maxRecDepth 100000 in
theorem c_Co_placeOf (l : Launch) (D : va_G) (cI cZ cP cR cC : ClassId) (tS : Nat) (sz : Nat) (M : mw_M) (f : Nat → Bool) (p0 : Nat) (hp0 : p0 < 32768) :
    Met l y_Co_placeOf (.code y_Co_placeOf b_Co_placeOf 4 (some .int) :: gw) ({ frames := 0, cells := 0, slots := 0, locals := 0 }) (va_Pc [.int (nI p0), .int (nI (rk_m f))] (mw_B D k_cl (k_tys cI cZ cP cR cC) (k_g tS) M sz)) (va_Qi (fun (r : Int32) (M1 : mw_M) => M1 = M ∧ r = nI (rk_place (f 0) p0)) (mw_E D k_cl M sz) (mw_A M sz)) 0 0 (mw_A M sz) := by
  refine mw_met (by decide) rfl (Nat.le_of_ble_eq_true rfl) ?_
  intro p e s m below meth c hsz J hr hlk hnm hK hZ hP hS hA ls hl
  subst hsz
  have hx := J.1
  have hb := J.2.1
  have hts := J.2.2.2.2
  have hl : lv_has ls 4 [(0, .int (nI p0)), (1, .int (nI (rk_m f)))] := hl
  refine lv_iload_n hx hb d_Co_placeOf_0 rfl (lv_at hl 1 rfl) ?_
  refine lv_bipush (v := 10) hx hb d_Co_placeOf_1 (by decide) ?_
  refine lv_ishr hx hb d_Co_placeOf_3 ?_
  refine mw_top (x' := nI (rk_m f / 1024)) (rk_shr10 (by have := rk_m_lt f; omega)) ?_
  refine lv_if_eq (tgt := 11) hx hb d_Co_placeOf_4 (by decide) (fun c_4 => ?_) (fun c_4 => ?_)
  · have hf : f 0 = false := (rk_first_iff f).mp ((rk_nI0 (by have := rk_m_lt f; omega)).mp c_4)
    refine lv_iconst (v := 0) hx hb d_Co_placeOf_11 (by decide) ?_
    refine mw_top (x' := nI 0) nI_0.symm ?_
    refine lv_istore_n (lv' := [(2, .int (nI 0)), (0, .int (nI p0)), (1, .int (nI (rk_m f)))]) hx hb d_Co_placeOf_12 rfl hl (by decide) rfl (fun ls hl => ?_)
    refine lv_iload_n hx hb d_Co_placeOf_13 rfl (lv_at hl 0 rfl) ?_
    refine lv_if_eq (tgt := 28) hx hb d_Co_placeOf_14 (by decide) (fun c_14 => ?_) (fun c_14 => ?_)
    · have hb34 : ∀ x : Nat, x < 32768 → x < 2 ^ 32 := fun x h => by omega
      refine lv_iload_n hx hb d_Co_placeOf_28 rfl (lv_at hl 1 rfl) ?_
      refine lv_istore_n (lv' := [(3, .int (nI p0)), (2, .int (nI 0)), (0, .int (nI p0)), (1, .int (nI (rk_m f)))]) hx hb d_Co_placeOf_29 rfl hl (by decide) rfl (fun ls hl => ?_)
      refine lv_iload_n hx hb d_Co_placeOf_30 rfl (lv_at hl 0 rfl) ?_
      refine lv_sipush (v := 1023) hx hb d_Co_placeOf_31 (by decide) ?_
      refine lv_iand hx hb d_Co_placeOf_34 ?_
      refine mw_top (x' := nI (rk_place (f 0) p0)) (by unfold rk_place; rw [hf]; exact pk_andN (hb34 _ (by omega)) 10 (by decide)) ?_
      exact mw_iret J hr hlk hP hS d_Co_placeOf_35 (⟨rfl, rfl⟩)
    · exact absurd nI_0 c_14
  · have hf : f 0 = true := by
      cases z : f 0
      · exact absurd ((rk_nI0 (by have := rk_m_lt f; omega)).mpr ((rk_first_iff f).mpr z)) c_4
      · rfl
    refine lv_iconst (v := 1) hx hb d_Co_placeOf_7 (by decide) ?_
    refine mw_top (x' := nI 1) rfl ?_
    refine lv_goto (tgt := 12) hx hb d_Co_placeOf_8 (by decide) ?_
    refine lv_istore_n (lv' := [(2, .int (nI 1)), (0, .int (nI p0)), (1, .int (nI (rk_m f)))]) hx hb d_Co_placeOf_12 rfl hl (by decide) rfl (fun ls hl => ?_)
    refine lv_iload_n hx hb d_Co_placeOf_13 rfl (lv_at hl 0 rfl) ?_
    refine lv_if_eq (tgt := 28) hx hb d_Co_placeOf_14 (by decide) (fun c_14 => ?_) (fun c_14 => ?_)
    · exact absurd c_14 (by decide)
    · have hb34 : ∀ x : Nat, x < 32768 → (p0 / 32 ||| p0 % 32) < 2 ^ 32 := fun x h => Nat.lt_trans (Nat.or_lt_two_pow (n := 15) (by omega) (by omega)) (by decide)
      refine lv_iload_n hx hb d_Co_placeOf_17 rfl (lv_at hl 1 rfl) ?_
      refine lv_iconst (v := 5) hx hb d_Co_placeOf_18 (by decide) ?_
      refine lv_ishr hx hb d_Co_placeOf_19 ?_
      refine mw_top (x' := nI (p0 / 32)) (rk_shr5 (by omega)) ?_
      refine lv_iload_n hx hb d_Co_placeOf_20 rfl (lv_at hl 1 rfl) ?_
      refine lv_bipush (v := 31) hx hb d_Co_placeOf_21 (by decide) ?_
      refine lv_iand hx hb d_Co_placeOf_23 ?_
      refine mw_top (x' := nI (p0 % 32)) (rk_and31 (by omega)) ?_
      refine lv_ior hx hb d_Co_placeOf_24 ?_
      refine mw_top (x' := nI (p0 / 32 ||| p0 % 32)) (nx_or _ _) ?_
      refine lv_goto (tgt := 29) hx hb d_Co_placeOf_25 (by decide) ?_
      refine lv_istore_n (lv' := [(3, .int (nI (p0 / 32 ||| p0 % 32))), (2, .int (nI 1)), (0, .int (nI p0)), (1, .int (nI (rk_m f)))]) hx hb d_Co_placeOf_29 rfl hl (by decide) rfl (fun ls hl => ?_)
      refine lv_iload_n hx hb d_Co_placeOf_30 rfl (lv_at hl 0 rfl) ?_
      refine lv_sipush (v := 1023) hx hb d_Co_placeOf_31 (by decide) ?_
      refine lv_iand hx hb d_Co_placeOf_34 ?_
      refine mw_top (x' := nI (rk_place (f 0) p0)) (by unfold rk_place; rw [hf]; exact pk_andN (hb34 _ (by omega)) 10 (by decide)) ?_
      exact mw_iret J hr hlk hP hS d_Co_placeOf_35 (⟨rfl, rfl⟩)

set_option maxHeartbeats 4000000 in
set_option maxRecDepth 100000 in
theorem c_Co_take (l : Launch) (D : va_G) (cI cZ cP cR cC : ClassId) (tS : Nat) (sz : Nat) (M : mw_M) (ac : Nat → Nat) (hj : mw_inj ac 4) (src K : Nat) (cw : Nat → va_E) (n : Nat) (pr tm pl : Nat → Nat) (hc : k_co cI ac src K cw n pr tm pl) (f : Nat → Bool) (S : List Nat) (w : Nat → Nat) (hfi : rk_fi f n pr tm pl S) (hps : rk_ps f S) (hw : ∀ j, j < 3 → w j < 32) (hS3 : S.length < 300) (hpb : ∀ q, pl q ≤ 300) :
    Met l y_Co_take (.code y_Co_take b_Co_take 5 none :: gw) ({ frames := 0, cells := 0, slots := 0, locals := 0 }) (va_Pc [.ref (ac 0), .int (nI (rk_v f w)), .int (nI (rk_place (f 0) (rk_v f w))), .int (nI (rk_m f))] (mw_B D k_cl (k_tys cI cZ cP cR cC) (k_g tS) (mw_ov M ac cw 4) sz)) (va_Qv (fun (M1 : mw_M) => ∃ cw1 n1 pr1 tm1 pl1, M1 = mw_ov M ac cw1 4 ∧ k_co cI ac src K cw1 n1 pr1 tm1 pl1 ∧ rk_fi f n1 pr1 tm1 pl1 (S ++ [rk_v f w]) ∧ ∀ q, pl1 q ≤ 300) (mw_E D k_cl (mw_ov M ac cw 4) sz) (mw_A (mw_ov M ac cw 4) sz)) 0 0 (mw_A (mw_ov M ac cw 4) sz) := by
  refine mw_met (by decide) rfl (Nat.le_of_ble_eq_true rfl) ?_
  intro p e s m below meth c hsz J hr hlk hnm hK hZ hP hS hA ls hl
  subst hsz
  have hx := J.1
  have hb := J.2.1
  have hts := J.2.2.2.2
  have hl : lv_has ls 5 [(0, .ref (ac 0)), (1, .int (nI (rk_v f w))), (2, .int (nI (rk_place (f 0) (rk_v f w)))), (3, .int (nI (rk_m f)))] := hl
  obtain ⟨hc0, hc1, hc2, hc3⟩ := hc
  have hn3 := rk_fi_ge hfi
  have hml := rk_m_lt f
  have hql := rk_place_lt (f 0) (rk_v f w)
  have hqb := hpb (rk_place (f 0) (rk_v f w))
  refine lv_iload_n hx hb d_Co_take_0 rfl (lv_at hl 3 rfl) ?_
  refine lv_sipush (v := 32767) hx hb d_Co_take_1 (by decide) ?_
  refine mw_top (x' := nI 32767) rfl ?_
  refine lv_icmp_ne (tgt := 11) hx hb d_Co_take_4 (by decide) (fun c_4 => ?_) (fun c_4 => ?_)
  · have c_4 : ¬ ((rk_m f) = 32767) := fun z => c_4 ((nI_eq (by omega) (by omega)).mpr z)
    refine lv_aload_n hx hb d_Co_take_11 rfl (lv_at hl 0 rfl) ?_
    refine mw_get (v := .ref (ac 3)) (ci := 4) (C := R_Co) (T := T_Co) (N := 6) J i_Co hK hP (mw_ov_is (i := 0) hj (by decide) hc0) rfl 2 (by decide) (hts _ k_108) (fun _ h9 => h9) rfl d_Co_take_12 ?_
    refine lv_iload_n hx hb d_Co_take_15 rfl (lv_at hl 2 rfl) ?_
    refine mw_nald (k := (rk_place (f 0) (rk_v f w))) J hK hP 0 (mw_ov_is (i := 3) hj (by decide) hc3) rfl hql (by decide) d_Co_take_16 ?_
    refine lv_istore (lv' := [(4, .int (nI (pl (rk_place (f 0) (rk_v f w))))), (0, .ref (ac 0)), (1, .int (nI (rk_v f w))), (2, .int (nI (rk_place (f 0) (rk_v f w)))), (3, .int (nI (rk_m f)))]) hx hb d_Co_take_17 hl (by decide) rfl (fun ls hl => ?_)
    refine lv_iload hx hb d_Co_take_19 (lv_at hl 0 rfl) ?_
    refine lv_if_le (tgt := 49) hx hb d_Co_take_21 (by decide) (fun c_21 => ?_) (fun c_21 => ?_)
    · have hx0 : (f 0 = false ∨ f 1 = false ∨ f 2 = false) → pl (rk_place (f 0) (rk_v f w)) = 0 := fun _ => Classical.byContradiction fun z => absurd c_21 (nI_nle (by omega) (by omega))
      refine lv_aload_n hx hb d_Co_take_49 rfl (lv_at hl 1 rfl) ?_
      refine mw_get (v := .int (nI n)) (ci := 4) (C := R_Co) (T := T_Co) (N := 6) J i_Co hK hP (mw_ov_is (i := 0) hj (by decide) hc0) rfl 5 (by decide) (hts _ k_113) (fun _ h9 => h9) rfl d_Co_take_50 ?_
      refine lv_sipush (v := 300) hx hb d_Co_take_53 (by decide) ?_
      refine mw_top (x' := nI 300) rfl ?_
      refine lv_icmp_ge (tgt := 99) hx hb d_Co_take_56 (by decide) (fun c_56 => ?_) (fun c_56 => ?_)
      · have c_56 : 300 ≤ n := (nI_leI (by omega) (by omega)).mp c_56
        exact absurd c_56 (by omega)
      · have c_56 : ¬ (300 ≤ n) := fun z => c_56 ((nI_leI (by omega) (by omega)).mpr z)
        refine lv_aload_n hx hb d_Co_take_59 rfl (lv_at hl 1 rfl) ?_
        refine mw_get (v := .ref (ac 1)) (ci := 4) (C := R_Co) (T := T_Co) (N := 6) J i_Co hK hP (mw_ov_is (i := 0) hj (by decide) hc0) rfl 0 (by decide) (hts _ k_104) (fun _ h9 => h9) rfl d_Co_take_60 ?_
        refine lv_aload_n hx hb d_Co_take_63 rfl (lv_at hl 1 rfl) ?_
        refine mw_get (v := .int (nI n)) (ci := 4) (C := R_Co) (T := T_Co) (N := 6) J i_Co hK hP (mw_ov_is (i := 0) hj (by decide) hc0) rfl 5 (by decide) (hts _ k_113) (fun _ h9 => h9) rfl d_Co_take_64 ?_
        refine lv_iload_n hx hb d_Co_take_67 rfl (lv_at hl 2 rfl) ?_
        refine mw_nast (k := n) (x := (rk_v f w)) J hK hP hS 0 (mw_ov_is (i := 1) hj (by decide) hc1) rfl (by omega) (by decide) d_Co_take_68 (fun H locs hP hS => ?_)
        rw [mw_ov_set hj (by decide)] at hP
        have hP : mw_P D k_cl (mw_ov M ac (va_up cw 1 (.inl (cI, 300, .inl (rk_nf (va_up pr n (rk_v f w)))))) 4) _ H := hP
        refine lv_aload_n hx hb d_Co_take_69 rfl (lv_at hl 1 rfl) ?_
        refine mw_get (v := .ref (ac 2)) (ci := 4) (C := R_Co) (T := T_Co) (N := 6) J i_Co hK hP (mw_ov_is (i := 0) hj (by decide) hc0) rfl 1 (by decide) (hts _ k_106) (fun _ h9 => h9) rfl d_Co_take_70 ?_
        refine lv_aload_n hx hb d_Co_take_73 rfl (lv_at hl 1 rfl) ?_
        refine mw_get (v := .int (nI n)) (ci := 4) (C := R_Co) (T := T_Co) (N := 6) J i_Co hK hP (mw_ov_is (i := 0) hj (by decide) hc0) rfl 5 (by decide) (hts _ k_113) (fun _ h9 => h9) rfl d_Co_take_74 ?_
        refine lv_iconst (v := 1) hx hb d_Co_take_77 (by decide) ?_
        refine mw_top (x' := nI 1) rfl ?_
        refine mw_nast (k := n) (x := 1) J hK hP hS 0 (mw_ov_is (i := 2) hj (by decide) hc2) rfl (by omega) (by decide) d_Co_take_78 (fun H locs hP hS => ?_)
        rw [mw_ov_set hj (by decide)] at hP
        have hP : mw_P D k_cl (mw_ov M ac (va_up (va_up cw 1 (.inl (cI, 300, .inl (rk_nf (va_up pr n (rk_v f w)))))) 2 (.inl (cI, 300, .inl (rk_nf (va_up tm n 1))))) 4) _ H := hP
        refine lv_aload_n hx hb d_Co_take_79 rfl (lv_at hl 1 rfl) ?_
        refine lv_dup hx hb d_Co_take_80 rfl ?_
        refine mw_get (v := .int (nI n)) (ci := 4) (C := R_Co) (T := T_Co) (N := 6) J i_Co hK hP (mw_ov_is (i := 0) hj (by decide) hc0) rfl 5 (by decide) (hts _ k_113) (fun _ h9 => h9) rfl d_Co_take_81 ?_
        refine lv_iconst (v := 1) hx hb d_Co_take_84 (by decide) ?_
        refine lv_iadd hx hb d_Co_take_85 ?_
        refine mw_top (x' := nI (n + 1)) (nI_1 _) ?_
        refine mw_put (v := .int (nI (n + 1))) (ty := .int) (ci := 4) (C := R_Co) (T := T_Co) (N := 6) J i_Co t_Co o_Co n_Co hK hP hS (mw_ov_is (i := 0) hj (by decide) hc0) rfl 5 (by decide) (hts _ k_113) (fun _ h9 => h9) rfl rfl rfl rfl (Nat.le_of_ble_eq_true rfl) d_Co_take_86 (fun H locs hP hS => ?_)
        rw [mw_ov_set hj (by decide)] at hP
        have hP : mw_P D k_cl (mw_ov M ac (va_up (va_up (va_up cw 1 (.inl (cI, 300, .inl (rk_nf (va_up pr n (rk_v f w)))))) 2 (.inl (cI, 300, .inl (rk_nf (va_up tm n 1))))) 0 (.inr (4, [.ref (ac 1), .ref (ac 2), .ref (ac 3), .ref src, .int (nI K), .int (nI (n + 1))]))) 4) _ H := hP
        refine lv_aload_n hx hb d_Co_take_89 rfl (lv_at hl 1 rfl) ?_
        refine mw_get (v := .ref (ac 3)) (ci := 4) (C := R_Co) (T := T_Co) (N := 6) J i_Co hK hP (mw_ov_is (i := 0) hj (by decide) rfl) rfl 2 (by decide) (hts _ k_108) (fun _ h9 => h9) rfl d_Co_take_90 ?_
        refine lv_iload_n hx hb d_Co_take_93 rfl (lv_at hl 3 rfl) ?_
        refine lv_aload_n hx hb d_Co_take_94 rfl (lv_at hl 1 rfl) ?_
        refine mw_get (v := .int (nI (n + 1))) (ci := 4) (C := R_Co) (T := T_Co) (N := 6) J i_Co hK hP (mw_ov_is (i := 0) hj (by decide) rfl) rfl 5 (by decide) (hts _ k_113) (fun _ h9 => h9) rfl d_Co_take_95 ?_
        refine mw_nast (k := (rk_place (f 0) (rk_v f w))) (x := (n + 1)) J hK hP hS 0 (mw_ov_is (i := 3) hj (by decide) hc3) rfl hql (by decide) d_Co_take_98 (fun H locs hP hS => ?_)
        rw [mw_ov_set hj (by decide)] at hP
        have hP : mw_P D k_cl (mw_ov M ac (va_up (va_up (va_up (va_up cw 1 (.inl (cI, 300, .inl (rk_nf (va_up pr n (rk_v f w)))))) 2 (.inl (cI, 300, .inl (rk_nf (va_up tm n 1))))) 0 (.inr (4, [.ref (ac 1), .ref (ac 2), .ref (ac 3), .ref src, .int (nI K), .int (nI (n + 1))]))) 3 (.inl (cI, 1024, .inl (rk_nf (va_up pl (rk_place (f 0) (rk_v f w)) (n + 1)))))) 4) _ H := hP
        exact mw_vret J hr hlk hP hS d_Co_take_99 (⟨_, n + 1, _, _, _, rfl, ⟨rfl, rfl, rfl, rfl⟩, rk_fi_add hfi _ hx0, fun q => by unfold va_up; split; omega; exact hpb q⟩)
    · have hq0 : pl (rk_place (f 0) (rk_v f w)) ≠ 0 := fun z => c_21 (by rw [z]; decide)
      obtain ⟨j, hj1, hj2, hj3⟩ := rk_fi_known hfi hps hw (Classical.byContradiction fun z => c_4 ((rk_all_iff f).mpr z)) hq0
      refine lv_iload hx hb d_Co_take_24 (lv_at hl 0 rfl) ?_
      refine lv_aload_n hx hb d_Co_take_26 rfl (lv_at hl 1 rfl) ?_
      refine mw_get (v := .int (nI n)) (ci := 4) (C := R_Co) (T := T_Co) (N := 6) J i_Co hK hP (mw_ov_is (i := 0) hj (by decide) hc0) rfl 5 (by decide) (hts _ k_113) (fun _ h9 => h9) rfl d_Co_take_27 ?_
      refine lv_icmp_gt (tgt := 49) hx hb d_Co_take_30 (by decide) (fun c_30 => ?_) (fun c_30 => ?_)
      · have c_30 : n < (pl (rk_place (f 0) (rk_v f w))) := (nI_ltI (by omega) (by omega)).mp c_30
        exact absurd c_30 (by omega)
      · have c_30 : ¬ (n < (pl (rk_place (f 0) (rk_v f w)))) := fun z => c_30 ((nI_ltI (by omega) (by omega)).mpr z)
        refine lv_aload_n hx hb d_Co_take_33 rfl (lv_at hl 1 rfl) ?_
        refine mw_get (v := .ref (ac 2)) (ci := 4) (C := R_Co) (T := T_Co) (N := 6) J i_Co hK hP (mw_ov_is (i := 0) hj (by decide) hc0) rfl 1 (by decide) (hts _ k_106) (fun _ h9 => h9) rfl d_Co_take_34 ?_
        refine lv_iload hx hb d_Co_take_37 (lv_at hl 0 rfl) ?_
        refine lv_iconst (v := 1) hx hb d_Co_take_39 (by decide) ?_
        refine mw_top (x' := nI 1) rfl ?_
        refine lv_isub hx hb d_Co_take_40 ?_
        refine mw_top (x' := nI (pl (rk_place (f 0) (rk_v f w)) - 1)) (pk_sub (by omega)) ?_
        refine lv_dup2_11 hx hb d_Co_take_41 rfl rfl ?_
        refine mw_nald (k := (pl (rk_place (f 0) (rk_v f w)) - 1)) J hK hP 0 (mw_ov_is (i := 2) hj (by decide) hc2) rfl (by omega) (by decide) d_Co_take_42 ?_
        refine lv_iconst (v := 1) hx hb d_Co_take_43 (by decide) ?_
        refine lv_iadd hx hb d_Co_take_44 ?_
        refine mw_top (x' := nI (tm (pl (rk_place (f 0) (rk_v f w)) - 1) + 1)) (nI_1 _) ?_
        refine mw_nast (k := (pl (rk_place (f 0) (rk_v f w)) - 1)) (x := (tm (pl (rk_place (f 0) (rk_v f w)) - 1) + 1)) J hK hP hS 0 (mw_ov_is (i := 2) hj (by decide) hc2) rfl (by omega) (by decide) d_Co_take_45 (fun H locs hP hS => ?_)
        rw [mw_ov_set hj (by decide)] at hP
        have hP : mw_P D k_cl (mw_ov M ac (va_up cw 2 (.inl (cI, 300, .inl (rk_nf (va_up tm (pl (rk_place (f 0) (rk_v f w)) - 1) (tm (pl (rk_place (f 0) (rk_v f w)) - 1) + 1)))))) 4) _ H := hP
        refine lv_goto (tgt := 99) hx hb d_Co_take_46 (by decide) ?_
        exact mw_vret J hr hlk hP hS d_Co_take_99 (⟨_, n, pr, _, pl, rfl, ⟨hc0, hc1, rfl, hc3⟩, by rw [show pl (rk_place (f 0) (rk_v f w)) - 1 = j by omega, ← hj3]; exact rk_fi_more hfi hj1, hpb⟩)
  · have c_4 : (rk_m f) = 32767 := (nI_eq (by omega) (by omega)).mp c_4
    refine lv_iconst (v := 0) hx hb d_Co_take_7 (by decide) ?_
    refine mw_top (x' := nI 0) nI_0.symm ?_
    refine lv_goto (tgt := 17) hx hb d_Co_take_8 (by decide) ?_
    refine lv_istore (lv' := [(4, .int (nI 0)), (0, .ref (ac 0)), (1, .int (nI (rk_v f w))), (2, .int (nI (rk_place (f 0) (rk_v f w)))), (3, .int (nI (rk_m f)))]) hx hb d_Co_take_17 hl (by decide) rfl (fun ls hl => ?_)
    refine lv_iload hx hb d_Co_take_19 (lv_at hl 0 rfl) ?_
    refine lv_if_le (tgt := 49) hx hb d_Co_take_21 (by decide) (fun c_21 => ?_) (fun c_21 => ?_)
    · have hx0 : (f 0 = false ∨ f 1 = false ∨ f 2 = false) → pl (rk_place (f 0) (rk_v f w)) = 0 := fun z => absurd z ((rk_all_iff f).mp c_4)
      refine lv_aload_n hx hb d_Co_take_49 rfl (lv_at hl 1 rfl) ?_
      refine mw_get (v := .int (nI n)) (ci := 4) (C := R_Co) (T := T_Co) (N := 6) J i_Co hK hP (mw_ov_is (i := 0) hj (by decide) hc0) rfl 5 (by decide) (hts _ k_113) (fun _ h9 => h9) rfl d_Co_take_50 ?_
      refine lv_sipush (v := 300) hx hb d_Co_take_53 (by decide) ?_
      refine mw_top (x' := nI 300) rfl ?_
      refine lv_icmp_ge (tgt := 99) hx hb d_Co_take_56 (by decide) (fun c_56 => ?_) (fun c_56 => ?_)
      · have c_56 : 300 ≤ n := (nI_leI (by omega) (by omega)).mp c_56
        exact absurd c_56 (by omega)
      · have c_56 : ¬ (300 ≤ n) := fun z => c_56 ((nI_leI (by omega) (by omega)).mpr z)
        refine lv_aload_n hx hb d_Co_take_59 rfl (lv_at hl 1 rfl) ?_
        refine mw_get (v := .ref (ac 1)) (ci := 4) (C := R_Co) (T := T_Co) (N := 6) J i_Co hK hP (mw_ov_is (i := 0) hj (by decide) hc0) rfl 0 (by decide) (hts _ k_104) (fun _ h9 => h9) rfl d_Co_take_60 ?_
        refine lv_aload_n hx hb d_Co_take_63 rfl (lv_at hl 1 rfl) ?_
        refine mw_get (v := .int (nI n)) (ci := 4) (C := R_Co) (T := T_Co) (N := 6) J i_Co hK hP (mw_ov_is (i := 0) hj (by decide) hc0) rfl 5 (by decide) (hts _ k_113) (fun _ h9 => h9) rfl d_Co_take_64 ?_
        refine lv_iload_n hx hb d_Co_take_67 rfl (lv_at hl 2 rfl) ?_
        refine mw_nast (k := n) (x := (rk_v f w)) J hK hP hS 0 (mw_ov_is (i := 1) hj (by decide) hc1) rfl (by omega) (by decide) d_Co_take_68 (fun H locs hP hS => ?_)
        rw [mw_ov_set hj (by decide)] at hP
        have hP : mw_P D k_cl (mw_ov M ac (va_up cw 1 (.inl (cI, 300, .inl (rk_nf (va_up pr n (rk_v f w)))))) 4) _ H := hP
        refine lv_aload_n hx hb d_Co_take_69 rfl (lv_at hl 1 rfl) ?_
        refine mw_get (v := .ref (ac 2)) (ci := 4) (C := R_Co) (T := T_Co) (N := 6) J i_Co hK hP (mw_ov_is (i := 0) hj (by decide) hc0) rfl 1 (by decide) (hts _ k_106) (fun _ h9 => h9) rfl d_Co_take_70 ?_
        refine lv_aload_n hx hb d_Co_take_73 rfl (lv_at hl 1 rfl) ?_
        refine mw_get (v := .int (nI n)) (ci := 4) (C := R_Co) (T := T_Co) (N := 6) J i_Co hK hP (mw_ov_is (i := 0) hj (by decide) hc0) rfl 5 (by decide) (hts _ k_113) (fun _ h9 => h9) rfl d_Co_take_74 ?_
        refine lv_iconst (v := 1) hx hb d_Co_take_77 (by decide) ?_
        refine mw_top (x' := nI 1) rfl ?_
        refine mw_nast (k := n) (x := 1) J hK hP hS 0 (mw_ov_is (i := 2) hj (by decide) hc2) rfl (by omega) (by decide) d_Co_take_78 (fun H locs hP hS => ?_)
        rw [mw_ov_set hj (by decide)] at hP
        have hP : mw_P D k_cl (mw_ov M ac (va_up (va_up cw 1 (.inl (cI, 300, .inl (rk_nf (va_up pr n (rk_v f w)))))) 2 (.inl (cI, 300, .inl (rk_nf (va_up tm n 1))))) 4) _ H := hP
        refine lv_aload_n hx hb d_Co_take_79 rfl (lv_at hl 1 rfl) ?_
        refine lv_dup hx hb d_Co_take_80 rfl ?_
        refine mw_get (v := .int (nI n)) (ci := 4) (C := R_Co) (T := T_Co) (N := 6) J i_Co hK hP (mw_ov_is (i := 0) hj (by decide) hc0) rfl 5 (by decide) (hts _ k_113) (fun _ h9 => h9) rfl d_Co_take_81 ?_
        refine lv_iconst (v := 1) hx hb d_Co_take_84 (by decide) ?_
        refine lv_iadd hx hb d_Co_take_85 ?_
        refine mw_top (x' := nI (n + 1)) (nI_1 _) ?_
        refine mw_put (v := .int (nI (n + 1))) (ty := .int) (ci := 4) (C := R_Co) (T := T_Co) (N := 6) J i_Co t_Co o_Co n_Co hK hP hS (mw_ov_is (i := 0) hj (by decide) hc0) rfl 5 (by decide) (hts _ k_113) (fun _ h9 => h9) rfl rfl rfl rfl (Nat.le_of_ble_eq_true rfl) d_Co_take_86 (fun H locs hP hS => ?_)
        rw [mw_ov_set hj (by decide)] at hP
        have hP : mw_P D k_cl (mw_ov M ac (va_up (va_up (va_up cw 1 (.inl (cI, 300, .inl (rk_nf (va_up pr n (rk_v f w)))))) 2 (.inl (cI, 300, .inl (rk_nf (va_up tm n 1))))) 0 (.inr (4, [.ref (ac 1), .ref (ac 2), .ref (ac 3), .ref src, .int (nI K), .int (nI (n + 1))]))) 4) _ H := hP
        refine lv_aload_n hx hb d_Co_take_89 rfl (lv_at hl 1 rfl) ?_
        refine mw_get (v := .ref (ac 3)) (ci := 4) (C := R_Co) (T := T_Co) (N := 6) J i_Co hK hP (mw_ov_is (i := 0) hj (by decide) rfl) rfl 2 (by decide) (hts _ k_108) (fun _ h9 => h9) rfl d_Co_take_90 ?_
        refine lv_iload_n hx hb d_Co_take_93 rfl (lv_at hl 3 rfl) ?_
        refine lv_aload_n hx hb d_Co_take_94 rfl (lv_at hl 1 rfl) ?_
        refine mw_get (v := .int (nI (n + 1))) (ci := 4) (C := R_Co) (T := T_Co) (N := 6) J i_Co hK hP (mw_ov_is (i := 0) hj (by decide) rfl) rfl 5 (by decide) (hts _ k_113) (fun _ h9 => h9) rfl d_Co_take_95 ?_
        refine mw_nast (k := (rk_place (f 0) (rk_v f w))) (x := (n + 1)) J hK hP hS 0 (mw_ov_is (i := 3) hj (by decide) hc3) rfl hql (by decide) d_Co_take_98 (fun H locs hP hS => ?_)
        rw [mw_ov_set hj (by decide)] at hP
        have hP : mw_P D k_cl (mw_ov M ac (va_up (va_up (va_up (va_up cw 1 (.inl (cI, 300, .inl (rk_nf (va_up pr n (rk_v f w)))))) 2 (.inl (cI, 300, .inl (rk_nf (va_up tm n 1))))) 0 (.inr (4, [.ref (ac 1), .ref (ac 2), .ref (ac 3), .ref src, .int (nI K), .int (nI (n + 1))]))) 3 (.inl (cI, 1024, .inl (rk_nf (va_up pl (rk_place (f 0) (rk_v f w)) (n + 1)))))) 4) _ H := hP
        exact mw_vret J hr hlk hP hS d_Co_take_99 (⟨_, n + 1, _, _, _, rfl, ⟨rfl, rfl, rfl, rfl⟩, rk_fi_add hfi _ hx0, fun q => by unfold va_up; split; omega; exact hpb q⟩)
    · exact absurd (by decide) c_21
