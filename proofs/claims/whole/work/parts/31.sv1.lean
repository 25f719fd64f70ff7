/-! Solver.isMatchedBefore -/
set_option maxHeartbeats 4000000 in
set_option maxRecDepth 100000 in
theorem c_Sv_isMatchedBefore (l : Launch) (D : va_G) (cI cZ cP cR cC : ClassId) (tS : Nat) (sz : Nat) (B : mw_M) (ad : Nat → Nat) (cw : Nat → va_E) (pm : Nat) (L : List Nat) (ho : k_ov B ad) (hpm : B pm = some (.inr (0, [.ref (ad 4)]))) (ht : k_tr cI ad cw pm L) (ca cc : Nat) (u : Nat → Nat) (hsv : k_sv cI cC B ad cw ca cc u) (pt : Nat) (P : rk_Pt) (hp : k_pat cI B pt P) (Bd len : Nat) (hBd : Bd < 256) (hlen : len ≤ L.length) :
    Met l y_Sv_isMatchedBefore (.code y_Sv_isMatchedBefore b_Sv_isMatchedBefore 8 (some .boolean) :: gw) ({ frames := 1, cells := 0, slots := 0, locals := 24 }) (va_Pc [.ref (ad 1), .ref pt, .int (nI Bd), .int (nI len)] (mw_B D k_cl (k_tys cI cZ cP cR cC) (k_g tS) (mw_ov B ad cw 21) sz)) (va_Qi (fun (r : Int32) (M1 : mw_M) => M1 = mw_ov B ad cw 21 ∧ ((r = 1 ∧ ∃ j, j < len ∧ rk_mt P (rk_tb Bd) u (L.getD j 0)) ∨ (r = 0 ∧ ∀ j, j < len → ¬ rk_mt P (rk_tb Bd) u (L.getD j 0)))) (mw_E D k_cl (mw_ov B ad cw 21) sz) (mw_A (mw_ov B ad cw 21) sz)) 0 0 (mw_A (mw_ov B ad cw 21) sz) := by
  refine mw_met (by decide) rfl (Nat.le_of_ble_eq_true rfl) ?_
  intro p e s m below meth c hsz J hr hlk hnm hK hZ hP hS hA ls hl
  subst hsz
  have hx := J.1
  have hb := J.2.1
  have hts := J.2.2.2.2
  have hl : lv_has ls 8 [(0, .ref (ad 1)), (1, .ref pt), (2, .int (nI Bd)), (3, .int (nI len))] := hl
  obtain ⟨fc, w, hc2, hc3, hc4, hfc, hW, hL3, hnd, hlt⟩ := ht
  obtain ⟨hc1, hc8, hu, fa, hca, hfa⟩ := hsv
  have hpw := k_pat_mono hp (k_fr ho cw)
  obtain ⟨hok, b, q, fb, fq, hs1, -⟩ := id hpw
  refine lv_aload_n hx hb d_Sv_isMatchedBefore_0 rfl (lv_at hl 1 rfl) ?_
  refine mw_get (v := .int (nI (rk_m (rk_num P)))) (ci := 2) (C := R_Pt) (T := T_Pt) (N := 8) J i_Pt hK hP hs1 rfl 3 (by decide) (hts _ k_80) (fun _ h9 => h9) rfl d_Sv_isMatchedBefore_1 ?_
  refine lv_aload_n hx hb d_Sv_isMatchedBefore_4 rfl (lv_at hl 1 rfl) ?_
  refine lv_iload_n hx hb d_Sv_isMatchedBefore_5 rfl (lv_at hl 2 rfl) ?_
  refine mw_afterI hP hS hA (mw_runV (As := [.int (nI Bd)]) (rest := [.int (nI (rk_m (rk_num P)))]) J hK hZ hP hS hA hs1 rfl (c_Pt_maskOf l D cI cZ cP cR cC tS _ (mw_ov B ad cw 21) pt P hpw Bd hBd) (cwV 1 hts (mw_gV k_251 k_252 k_253 k_6 k_254) rfl rfl rfl (by decide +kernel) ⟨Nat.le_of_ble_eq_true rfl, Nat.le_of_ble_eq_true rfl⟩) rfl hl.1 rfl (Nat.le_of_ble_eq_true rfl) d_Sv_isMatchedBefore_6 ⟨Nat.le_of_ble_eq_true rfl, Nat.le_of_ble_eq_true rfl⟩) (fun r M1 H locs hw hP hS => ?_)
  obtain ⟨rfl, rfl⟩ := hw
  refine lv_ior hx hb d_Sv_isMatchedBefore_9 ?_
  refine mw_top (x' := nI (rk_m (fun j => rk_num P j || rk_ink P (rk_tb Bd) j))) (by rw [nx_or, rk_m_or]) ?_
  refine lv_istore (lv' := [(4, .int (nI (rk_m (fun j => rk_num P j || rk_ink P (rk_tb Bd) j)))), (0, .ref (ad 1)), (1, .ref pt), (2, .int (nI Bd)), (3, .int (nI len))]) hx hb d_Sv_isMatchedBefore_10 hl (by decide) rfl (fun ls hl => ?_)
  refine lv_aload_n hx hb d_Sv_isMatchedBefore_12 rfl (lv_at hl 2 rfl) ?_
  refine mw_get (v := .int (nI (rk_v (rk_num P) (rk_at P)))) (ci := 2) (C := R_Pt) (T := T_Pt) (N := 8) J i_Pt hK hP hs1 rfl 4 (by decide) (hts _ k_83) (fun _ h9 => h9) rfl d_Sv_isMatchedBefore_13 ?_
  refine lv_aload_n hx hb d_Sv_isMatchedBefore_16 rfl (lv_at hl 2 rfl) ?_
  refine lv_iload_n hx hb d_Sv_isMatchedBefore_17 rfl (lv_at hl 3 rfl) ?_
  refine lv_aload_n hx hb d_Sv_isMatchedBefore_18 rfl (lv_at hl 1 rfl) ?_
  refine mw_get (v := .ref (ad 8)) (ci := 5) (C := R_Sv) (T := T_Sv) (N := 4) J i_Sv hK hP (mw_ov_is (i := 1) ho.1 (by decide) hc1) rfl 1 (by decide) (hts _ k_130) (fun _ h9 => h9) rfl d_Sv_isMatchedBefore_19 ?_
  refine mw_afterI hP hS hA (mw_runV (As := [.int (nI Bd), .ref (ad 8)]) (rest := [.int (nI (rk_v (rk_num P) (rk_at P)))]) J hK hZ hP hS hA hs1 rfl (c_Pt_filled l D cI cZ cP cR cC tS _ (mw_ov B ad cw 21) pt P hpw Bd hBd (ad 8) u hu (mw_ov_is (i := 8) ho.1 (by decide) hc8)) (cwV 2 hts (mw_gV k_255 k_256 k_257 k_6 k_258) rfl rfl rfl (by decide +kernel) ⟨Nat.le_of_ble_eq_true rfl, Nat.le_of_ble_eq_true rfl⟩) rfl hl.1 rfl (Nat.le_of_ble_eq_true rfl) d_Sv_isMatchedBefore_22 ⟨Nat.le_of_ble_eq_true rfl, Nat.le_of_ble_eq_true rfl⟩) (fun r M1 H locs hw hP hS => ?_)
  obtain ⟨rfl, rfl⟩ := hw
  refine lv_ior hx hb d_Sv_isMatchedBefore_25 ?_
  refine mw_top (x' := nI (rk_v (fun j => rk_num P j || rk_ink P (rk_tb Bd) j) (rk_wt P u))) (by rw [nx_or, rk_want hu]) ?_
  refine lv_istore (lv' := [(5, .int (nI (rk_v (fun j => rk_num P j || rk_ink P (rk_tb Bd) j) (rk_wt P u)))), (4, .int (nI (rk_m (fun j => rk_num P j || rk_ink P (rk_tb Bd) j)))), (0, .ref (ad 1)), (1, .ref pt), (2, .int (nI Bd)), (3, .int (nI len))]) hx hb d_Sv_isMatchedBefore_26 hl (by decide) rfl (fun ls hl => ?_)
  refine lv_iconst (v := 0) hx hb d_Sv_isMatchedBefore_28 (by decide) ?_
  refine mw_top (x' := nI 0) nI_0.symm ?_
  refine lv_istore (lv' := [(6, .int (nI 0)), (5, .int (nI (rk_v (fun j => rk_num P j || rk_ink P (rk_tb Bd) j) (rk_wt P u)))), (4, .int (nI (rk_m (fun j => rk_num P j || rk_ink P (rk_tb Bd) j)))), (0, .ref (ad 1)), (1, .ref pt), (2, .int (nI Bd)), (3, .int (nI len))]) hx hb d_Sv_isMatchedBefore_29 hl (by decide) rfl (fun ls hl => ?_)
  refine mw_loop (W' := fun H locs ls => W p l e _ s m _ below meth c H locs _ _ _ (F0 m 31 ls [])) len (fun i H locs ls => lv_has ls 8 [(0, .ref (ad 1)), (1, .ref pt), (2, .int (nI Bd)), (3, .int (nI len)), (4, .int (nI (rk_m (fun j => rk_num P j || rk_ink P (rk_tb Bd) j)))), (5, .int (nI (rk_v (fun j => rk_num P j || rk_ink P (rk_tb Bd) j) (rk_wt P u)))), (6, .int (nI i))] ∧ (∀ j, j < i → ¬ rk_mt P (rk_tb Bd) u (L.getD j 0)) ∧ mw_P D k_cl (mw_ov B ad cw 21) (mw_A (mw_ov B ad cw 21) s.heap.size) H ∧ va_S (mw_A (mw_ov B ad cw 21) s.heap.size) s.heap H locs) ?_ len 0 (by omega) (by omega) _ _ _ ⟨lv_sub hl [3, 4, 5, 6, 2, 1, 0] rfl, (fun j hj => absurd hj (Nat.not_lt_zero j)), hP, hS⟩
  intro i H locs ls hi_31 hI ih_31
  obtain ⟨hl, hno, hP, hS⟩ := hI
  refine lv_iload hx hb d_Sv_isMatchedBefore_31 (lv_at hl 6 rfl) ?_
  refine lv_iload_n hx hb d_Sv_isMatchedBefore_33 rfl (lv_at hl 3 rfl) ?_
  refine lv_icmp_ge (tgt := 76) hx hb d_Sv_isMatchedBefore_34 (by decide) (fun c_34 => ?_) (fun c_34 => ?_)
  · have c_34 : len ≤ i := (nI_leI (by omega) (by omega)).mp c_34
    refine lv_iconst (v := 0) hx hb d_Sv_isMatchedBefore_76 (by decide) ?_
    exact mw_zret J hr hlk rfl hP hS d_Sv_isMatchedBefore_77 (⟨rfl, Or.inr ⟨rfl, fun j hj => hno j (by omega)⟩⟩)
  · have c_34 : ¬ (len ≤ i) := fun z => c_34 ((nI_leI (by omega) (by omega)).mpr z)
    have hkc : L.getD i 0 < 32768 := hlt _ (rk_getD_mem (by omega))
    refine lv_aload_n hx hb d_Sv_isMatchedBefore_37 rfl (lv_at hl 0 rfl) ?_
    refine mw_get (v := .ref (ad 2)) (ci := 5) (C := R_Sv) (T := T_Sv) (N := 4) J i_Sv hK hP (mw_ov_is (i := 1) ho.1 (by decide) hc1) rfl 0 (by decide) (hts _ k_128) (fun _ h9 => h9) rfl d_Sv_isMatchedBefore_38 ?_
    refine mw_get (v := .ref (ad 3)) (ci := 1) (C := R_Tr) (T := T_Tr) (N := 3) J i_Tr hK hP (mw_ov_is (i := 2) ho.1 (by decide) hc2) rfl 0 (by decide) (hts _ k_42) (fun _ h9 => h9) rfl d_Sv_isMatchedBefore_41 ?_
    refine lv_iload hx hb d_Sv_isMatchedBefore_44 (lv_at hl 6 rfl) ?_
    refine mw_nald (k := i) J hK hP 0 (mw_ov_is (i := 3) ho.1 (by decide) hc3) rfl (by omega) (by decide) d_Sv_isMatchedBefore_46 ?_
    refine mw_top (x' := nI (L.getD i 0)) (by rw [hfc i (by omega)]) ?_
    refine lv_istore (lv' := [(7, .int (nI (L.getD i 0))), (0, .ref (ad 1)), (1, .ref pt), (2, .int (nI Bd)), (3, .int (nI len)), (4, .int (nI (rk_m (fun j => rk_num P j || rk_ink P (rk_tb Bd) j)))), (5, .int (nI (rk_v (fun j => rk_num P j || rk_ink P (rk_tb Bd) j) (rk_wt P u)))), (6, .int (nI i))]) hx hb d_Sv_isMatchedBefore_47 hl (by decide) rfl (fun ls hl => ?_)
    refine lv_iload hx hb d_Sv_isMatchedBefore_49 (lv_at hl 0 rfl) ?_
    refine lv_iload hx hb d_Sv_isMatchedBefore_51 (lv_at hl 5 rfl) ?_
    refine lv_iand hx hb d_Sv_isMatchedBefore_53 ?_
    refine mw_top (x' := nI (L.getD i 0 &&& rk_m (fun j => rk_num P j || rk_ink P (rk_tb Bd) j))) (nx_and _ _) ?_
    refine lv_iload hx hb d_Sv_isMatchedBefore_54 (lv_at hl 6 rfl) ?_
    refine lv_icmp_ne (tgt := 70) hx hb d_Sv_isMatchedBefore_56 (by decide) (fun c_56 => ?_) (fun c_56 => ?_)
    · have c_56 : ¬ ((L.getD i 0 &&& rk_m (fun j => rk_num P j || rk_ink P (rk_tb Bd) j)) = (rk_v (fun j => rk_num P j || rk_ink P (rk_tb Bd) j) (rk_wt P u))) := fun z => c_56 ((nI_eq (Nat.lt_of_le_of_lt Nat.and_le_left (by omega)) (Nat.lt_trans (rk_v_lt (fun j _ => rk_wt_lt hu j)) (by decide))).mpr z)
      have hmt : ¬ rk_mt P (rk_tb Bd) u (L.getD i 0) := fun z => c_56 ((rk_mt_sel hkc hu).mp z).1
      refine lv_iinc (v := nI (i + 1)) (lv' := [(6, .int (nI (i + 1))), (7, .int (nI (L.getD i 0))), (0, .ref (ad 1)), (1, .ref pt), (2, .int (nI Bd)), (3, .int (nI len)), (4, .int (nI (rk_m (fun j => rk_num P j || rk_ink P (rk_tb Bd) j)))), (5, .int (nI (rk_v (fun j => rk_num P j || rk_ink P (rk_tb Bd) j) (rk_wt P u))))]) hx hb d_Sv_isMatchedBefore_70 hl (k := 7) rfl (nI_1 i) (by decide) rfl (fun ls hl => ?_)
      refine lv_goto (tgt := 31) hx hb d_Sv_isMatchedBefore_73 (by decide) ?_
      exact ih_31 _ _ _ (by omega) ⟨lv_sub hl [2, 3, 4, 5, 6, 7, 0] rfl, (lt_s hno hmt), hP, hS⟩
    · have c_56 : (L.getD i 0 &&& rk_m (fun j => rk_num P j || rk_ink P (rk_tb Bd) j)) = (rk_v (fun j => rk_num P j || rk_ink P (rk_tb Bd) j) (rk_wt P u)) := (nI_eq (Nat.lt_of_le_of_lt Nat.and_le_left (by omega)) (Nat.lt_trans (rk_v_lt (fun j _ => rk_wt_lt hu j)) (by decide))).mp c_56
      refine lv_aload_n hx hb d_Sv_isMatchedBefore_59 rfl (lv_at hl 2 rfl) ?_
      refine lv_iload hx hb d_Sv_isMatchedBefore_60 (lv_at hl 0 rfl) ?_
      refine mw_afterI hP hS hA (mw_runV (As := [.int (nI (L.getD i 0))]) (rest := []) J hK hZ hP hS hA hs1 rfl (c_Pt_agrees l D cI cZ cP cR cC tS _ (mw_ov B ad cw 21) pt P hpw (L.getD i 0) hkc) (cwV 1 hts (mw_gV k_259 k_240 k_241 k_6 k_242) rfl rfl rfl (by decide +kernel) ⟨Nat.le_of_ble_eq_true rfl, Nat.le_of_ble_eq_true rfl⟩) rfl hl.1 rfl (Nat.le_of_ble_eq_true rfl) d_Sv_isMatchedBefore_62 ⟨Nat.le_of_ble_eq_true rfl, Nat.le_of_ble_eq_true rfl⟩) (fun r M1 H locs hw hP hS => ?_)
      obtain ⟨rfl, hw⟩ := hw
      refine lv_if_eq (tgt := 70) hx hb d_Sv_isMatchedBefore_65 (by decide) (fun c_65 => ?_) (fun c_65 => ?_)
      · have hmt : ¬ rk_mt P (rk_tb Bd) u (L.getD i 0) := fun z => by
          rcases hw with ⟨h, _⟩ | ⟨_, h⟩
          · rw [h] at c_65
            exact absurd c_65 (by decide)
          · exact h ((rk_mt_sel hkc hu).mp z).2
        refine lv_iinc (v := nI (i + 1)) (lv' := [(6, .int (nI (i + 1))), (7, .int (nI (L.getD i 0))), (0, .ref (ad 1)), (1, .ref pt), (2, .int (nI Bd)), (3, .int (nI len)), (4, .int (nI (rk_m (fun j => rk_num P j || rk_ink P (rk_tb Bd) j)))), (5, .int (nI (rk_v (fun j => rk_num P j || rk_ink P (rk_tb Bd) j) (rk_wt P u))))]) hx hb d_Sv_isMatchedBefore_70 hl (k := 7) rfl (nI_1 i) (by decide) rfl (fun ls hl => ?_)
        refine lv_goto (tgt := 31) hx hb d_Sv_isMatchedBefore_73 (by decide) ?_
        exact ih_31 _ _ _ (by omega) ⟨lv_sub hl [2, 3, 4, 5, 6, 7, 0] rfl, (lt_s hno hmt), hP, hS⟩
      · have hmt : rk_mt P (rk_tb Bd) u (L.getD i 0) := (rk_mt_sel hkc hu).mpr ⟨c_56, by
          rcases hw with ⟨_, h⟩ | ⟨h, _⟩
          · exact h
          · exact absurd h c_65⟩
        refine lv_iconst (v := 1) hx hb d_Sv_isMatchedBefore_68 (by decide) ?_
        exact mw_zret J hr hlk rfl hP hS d_Sv_isMatchedBefore_69 (⟨rfl, Or.inl ⟨rfl, i, by omega, hmt⟩⟩)
