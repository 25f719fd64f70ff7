/-! Solver.fillColumns -/
set_option maxHeartbeats 4000000 in
set_option maxRecDepth 100000 in
theorem c_Sv_fillColumns (l : Launch) (D : va_G) (cI cZ cP cR cC : ClassId) (tS : Nat) (sz : Nat) (B : mw_M) (ad : Nat → Nat) (cw : Nat → va_E) (pm : Nat) (L : List Nat) (ho : k_ov B ad) (hpm : B pm = some (.inr (0, [.ref (ad 4)]))) (ht : k_tr cI ad cw pm L) (ca cc : Nat) (u : Nat → Nat) (hsv : k_sv cI cC B ad cw ca cc u) (ra : Nat) (r : rk_Ru) (hrule : k_rule cI cP B ra r) (woI : Int32) (wo : Nat) (hwo : ∀ j, j < 3 → (nI j = woI ↔ j = wo)) (Bd len : Nat) (hBd : Bd < 256) (hlen : len ≤ L.length) (hbl : ∀ d, d < 3 → k_blank cI ad cw d) :
    Met l y_Sv_fillColumns (.code y_Sv_fillColumns b_Sv_fillColumns 7 (some .boolean) :: gw) ({ frames := 2, cells := 0, slots := 0, locals := 53 }) (va_Pc [.ref (ad 1), .ref ra, .int woI, .int (nI Bd), .int (nI len)] (mw_B D k_cl (k_tys cI cZ cP cR cC) (k_g tS) (mw_ov B ad cw 21) sz)) (va_Qi (fun (rr : Int32) (M1 : mw_M) => ∃ cw1 cc1, M1 = mw_ov B ad cw1 21 ∧ k_sv cI cC B ad cw1 ca cc1 u ∧ (∀ i, i ≠ 1 → i < 9 → cw1 i = cw i) ∧ (∀ d, d < 3 → k_blank cI ad cw1 d) ∧ ((rr = 1 ∧ ∃ cf, cc1 = (rk_cols r wo cf r.1.length).length ∧ (∀ j, j < r.1.length → j ≠ wo → rk_iscol r Bd j (cf j) ∧ rk_colok (L.take len) (rk_tb Bd) u (cf j)) ∧ ∀ e, e < cc1 → k_cold cI B ad cw1 e ((rk_cols r wo cf r.1.length).getD e rk_col0)) ∨ (rr = 0 ∧ ∃ j, j < r.1.length ∧ j ≠ wo ∧ ∀ k, k ∈ L.take len → ¬ rk_mt (rk_nth r j) (rk_tb Bd) u k))) (mw_E D k_cl (mw_ov B ad cw 21) sz) (mw_A (mw_ov B ad cw 21) sz)) 0 0 (mw_A (mw_ov B ad cw 21) sz) := by
  refine mw_met (by decide) rfl (Nat.le_of_ble_eq_true rfl) ?_
  intro p e s m below meth c hsz J hr hlk hnm hK hZ hP hS hA ls hl
  subst hsz
  have hx := J.1
  have hb := J.2.1
  have hts := J.2.2.2.2
  have hl : lv_has ls 7 [(0, .ref (ad 1)), (1, .ref ra), (2, .int woI), (3, .int (nI Bd)), (4, .int (nI len))] := hl
  obtain ⟨fc, w, hc2, hc3, hc4, hfc, hW, hL3, hnd, hlt⟩ := ht
  obtain ⟨hc1, hc8, hu, fa, hca, hfa⟩ := hsv
  obtain ⟨hr3, bo, hd, sh, fo, fs, hr1, hr2, hr4, hrh, hfo, hfs⟩ := hrule
  refine lv_aload_n hx hb d_Sv_fillColumns_0 rfl (lv_at hl 0 rfl) ?_
  refine lv_iconst (v := 0) hx hb d_Sv_fillColumns_1 (by decide) ?_
  refine mw_top (x' := nI 0) nI_0.symm ?_
  refine mw_put (v := .int (nI 0)) (ty := .int) (ci := 5) (C := R_Sv) (T := T_Sv) (N := 4) J i_Sv t_Sv o_Sv n_Sv hK hP hS (mw_ov_is (i := 1) ho.1 (by decide) hc1) rfl 3 (by decide) (hts _ k_132) (fun _ h9 => h9) rfl rfl rfl rfl (Nat.le_of_ble_eq_true rfl) d_Sv_fillColumns_2 (fun H locs hP hS => ?_)
  rw [mw_ov_set ho.1 (by decide)] at hP
  have hP : mw_P D k_cl (mw_ov B ad (va_up cw 1 (.inr (5, [.ref (ad 2), .ref (ad 8), .ref ca, .int (nI 0)]))) 21) _ H := hP
  refine lv_iconst (v := 0) hx hb d_Sv_fillColumns_5 (by decide) ?_
  refine mw_top (x' := nI 0) nI_0.symm ?_
  refine lv_istore (lv' := [(5, .int (nI 0)), (0, .ref (ad 1)), (1, .ref ra), (2, .int woI), (3, .int (nI Bd)), (4, .int (nI len))]) hx hb d_Sv_fillColumns_6 hl (by decide) rfl (fun ls hl => ?_)
  refine mw_loop (W' := fun H locs ls => W p l e _ s m _ below meth c H locs _ _ _ (F0 m 8 ls [])) r.1.length (fun i H locs ls => ∃ (cx : Nat → va_E), ∃ (cf : Nat → rk_Col), ∃ (d : Nat), lv_has ls 7 [(0, .ref (ad 1)), (1, .ref ra), (2, .int woI), (3, .int (nI Bd)), (4, .int (nI len)), (5, .int (nI i))] ∧ (d = (rk_cols r wo cf i).length) ∧ (k_sv cI cC B ad cx ca d u) ∧ (∀ i, i ≠ 1 → i < 9 → cx i = cw i) ∧ (∀ d, d < 3 → k_blank cI ad cx d) ∧ (∀ j, j < i → j ≠ wo → rk_iscol r Bd j (cf j) ∧ rk_colok (L.take len) (rk_tb Bd) u (cf j)) ∧ (∀ e, e < d → k_cold cI B ad cx e ((rk_cols r wo cf i).getD e rk_col0)) ∧ mw_P D k_cl (mw_ov B ad cx 21) (mw_A (mw_ov B ad cw 21) s.heap.size) H ∧ va_S (mw_A (mw_ov B ad cw 21) s.heap.size) s.heap H locs) ?_ r.1.length 0 (by omega) (by omega) _ _ _ ⟨(va_up cw 1 (.inr (5, [.ref (ad 2), .ref (ad 8), .ref ca, .int (nI 0)]))), fun _ => rk_col0, 0, lv_sub hl [1, 2, 3, 4, 5, 0] rfl, rfl, ⟨rfl, hc8, hu, fa, hca, hfa⟩, (fun i h _ => va_up_ne _ _ h), (fun e he => k_blank_same (hbl e he) (fun i hi => va_up_ne _ _ (by omega))), (fun j hj => absurd hj (Nat.not_lt_zero j)), (fun e he => absurd he (Nat.not_lt_zero e)), hP, hS⟩
  intro i H locs ls hi_8 hI ih_8
  obtain ⟨cx, cf, d, hl, hd, hsx, hlo, hbx, hcf, hcd, hP, hS⟩ := hI
  obtain ⟨hx1, hx8, -, -⟩ := id hsx
  have hdl : d ≤ i := by rw [hd]; exact rk_cols_len i
  refine lv_iload hx hb d_Sv_fillColumns_8 (lv_at hl 5 rfl) ?_
  refine lv_aload_n hx hb d_Sv_fillColumns_10 rfl (lv_at hl 1 rfl) ?_
  refine mw_get (v := .ref bo) (ci := 3) (C := R_Ru) (T := T_Ru) (N := 3) J i_Ru hK hP (mw_ov_fr ho.2 hr1) rfl 0 (by decide) (hts _ k_155) (fun _ h9 => h9) rfl d_Sv_fillColumns_11 ?_
  refine mw_alen (v := nI r.1.length) J hK hP 2 (mw_ov_fr ho.2 hr2) rfl rfl d_Sv_fillColumns_14 ?_
  refine lv_icmp_ge (tgt := 116) hx hb d_Sv_fillColumns_15 (by decide) (fun c_15 => ?_) (fun c_15 => ?_)
  · have c_15 : r.1.length ≤ i := (nI_leI (by omega) (by omega)).mp c_15
    have hie : i = r.1.length := by omega
    rw [hie] at hd hcf hcd
    refine lv_iconst (v := 1) hx hb d_Sv_fillColumns_116 (by decide) ?_
    exact mw_zret J hr hlk rfl hP hS d_Sv_fillColumns_117 (⟨cx, d, rfl, hsx, hlo, hbx, Or.inl ⟨rfl, cf, hd, hcf, hcd⟩⟩)
  · have c_15 : ¬ (r.1.length ≤ i) := fun z => c_15 ((nI_leI (by omega) (by omega)).mpr z)
    refine lv_aload_n hx hb d_Sv_fillColumns_18 rfl (lv_at hl 0 rfl) ?_
    refine mw_get (v := .int (nI d)) (ci := 5) (C := R_Sv) (T := T_Sv) (N := 4) J i_Sv hK hP (mw_ov_is (i := 1) ho.1 (by decide) hx1) rfl 3 (by decide) (hts _ k_132) (fun _ h9 => h9) rfl d_Sv_fillColumns_19 ?_
    refine lv_iconst (v := 3) hx hb d_Sv_fillColumns_22 (by decide) ?_
    refine mw_top (x' := nI 3) rfl ?_
    refine lv_icmp_ge (tgt := 116) hx hb d_Sv_fillColumns_23 (by decide) (fun c_23 => absurd c_23 (fun z => by have := (nI_leI (by omega) (by omega)).mp z; omega)) (fun c_23 => ?_)
    refine lv_iload hx hb d_Sv_fillColumns_26 (lv_at hl 5 rfl) ?_
    refine lv_iload_n hx hb d_Sv_fillColumns_28 rfl (lv_at hl 2 rfl) ?_
    refine lv_icmp_ne (tgt := 35) hx hb d_Sv_fillColumns_29 (by decide) (fun c_29 => ?_) (fun c_29 => ?_)
    · have hne : i ≠ wo := fun z => c_29 ((hwo i (by omega)).mpr z)
      obtain ⟨p0, hpo, hpp⟩ := hfo i (by omega)
      obtain ⟨src0, K0, n0, pr0, tm0, pl0, hco0, hpl0⟩ := hbx d (by omega)
      have hb0 : cx (9 + 4 * d) = .inr (4, [.ref (ad (9 + 4 * d + 1)), .ref (ad (9 + 4 * d + 2)), .ref (ad (9 + 4 * d + 3)), .ref src0, .int (nI K0), .int (nI n0)]) := hco0.1
      have hok := hpp.1
      have hsh8 : rk_an (rk_shm r i) Bd < 256 := rk_an_lt (rk_shm_lt hok)
      have hpw : ∃ b q, mw_ov B ad cx 21 p0 = some (.inr (2, k_pf (rk_nth r i) b q)) := by
        obtain ⟨-, b, q, _, _, h, -⟩ := k_pat_mono hpp (k_fr ho cx)
        exact ⟨b, q, h⟩
      obtain ⟨pb, pq, hpw⟩ := hpw
      refine lv_aload_n hx hb d_Sv_fillColumns_35 rfl (lv_at hl 0 rfl) ?_
      refine mw_get (v := .ref ca) (ci := 5) (C := R_Sv) (T := T_Sv) (N := 4) J i_Sv hK hP (mw_ov_is (i := 1) ho.1 (by decide) hx1) rfl 2 (by decide) (hts _ k_131) (fun _ h9 => h9) rfl d_Sv_fillColumns_36 ?_
      refine lv_aload_n hx hb d_Sv_fillColumns_39 rfl (lv_at hl 0 rfl) ?_
      refine mw_get (v := .int (nI d)) (ci := 5) (C := R_Sv) (T := T_Sv) (N := 4) J i_Sv hK hP (mw_ov_is (i := 1) ho.1 (by decide) hx1) rfl 3 (by decide) (hts _ k_132) (fun _ h9 => h9) rfl d_Sv_fillColumns_40 ?_
      refine mw_aaldN (k := d) (b := (ad (9 + 4 * d))) J hK hP 4 (mw_ov_fr ho.2 hca) rfl (by omega) (by decide) (hfa d (by omega)) d_Sv_fillColumns_43 ?_
      refine lv_astore (lv' := [(6, .ref (ad (9 + 4 * d))), (0, .ref (ad 1)), (1, .ref ra), (2, .int woI), (3, .int (nI Bd)), (4, .int (nI len)), (5, .int (nI i))]) hx hb d_Sv_fillColumns_44 hl (by decide) rfl (fun ls hl => ?_)
      refine lv_aload hx hb d_Sv_fillColumns_46 (lv_at hl 0 rfl) ?_
      refine lv_aload_n hx hb d_Sv_fillColumns_48 rfl (lv_at hl 2 rfl) ?_
      refine mw_get (v := .ref bo) (ci := 3) (C := R_Ru) (T := T_Ru) (N := 3) J i_Ru hK hP (mw_ov_fr ho.2 hr1) rfl 0 (by decide) (hts _ k_155) (fun _ h9 => h9) rfl d_Sv_fillColumns_49 ?_
      refine lv_iload hx hb d_Sv_fillColumns_52 (lv_at hl 6 rfl) ?_
      refine mw_aaldN (k := i) (b := p0) J hK hP 2 (mw_ov_fr ho.2 hr2) rfl (by omega) (by omega) hpo d_Sv_fillColumns_54 ?_
      refine mw_put (v := .ref p0) (ty := .object "RuleKeeper$Pattern") (ci := 4) (C := R_Co) (T := T_Co) (N := 6) J i_Co t_Co o_Co n_Co hK hP hS (mw_ov_is (i := (9 + 4 * d)) ho.1 (by omega) hb0) rfl 3 (by decide) (hts _ k_110) (fun _ h9 => h9) rfl rfl rfl rfl (Nat.le_of_ble_eq_true rfl) d_Sv_fillColumns_55 (fun H locs hP hS => ?_)
      rw [mw_ov_set ho.1 (by omega)] at hP
      have hP : mw_P D k_cl (mw_ov B ad (va_up cx (9 + 4 * d) (.inr (4, [.ref (ad (9 + 4 * d + 1)), .ref (ad (9 + 4 * d + 2)), .ref (ad (9 + 4 * d + 3)), .ref p0, .int (nI K0), .int (nI n0)]))) 21) _ H := hP
      refine lv_aload hx hb d_Sv_fillColumns_58 (lv_at hl 0 rfl) ?_
      refine lv_aload_n hx hb d_Sv_fillColumns_60 rfl (lv_at hl 2 rfl) ?_
      refine mw_get (v := .ref sh) (ci := 3) (C := R_Ru) (T := T_Ru) (N := 3) J i_Ru hK hP (mw_ov_fr ho.2 hr1) rfl 2 (by decide) (hts _ k_160) (fun _ h9 => h9) rfl d_Sv_fillColumns_61 ?_
      refine lv_iload hx hb d_Sv_fillColumns_64 (lv_at hl 6 rfl) ?_
      refine mw_nald (k := i) J hK hP 0 (mw_ov_fr ho.2 hr4) rfl (by omega) (by omega) d_Sv_fillColumns_66 ?_
      refine mw_top (x' := nI (rk_shm r i)) (by rw [hfs i (by omega)]) ?_
      refine lv_iload_n hx hb d_Sv_fillColumns_67 rfl (lv_at hl 4 rfl) ?_
      refine lv_iconst (v := (-1)) hx hb d_Sv_fillColumns_68 (by decide) ?_
      refine lv_ixor hx hb d_Sv_fillColumns_69 ?_
      refine lv_iand hx hb d_Sv_fillColumns_70 ?_
      refine mw_top (x' := nI (rk_an (rk_shm r i) Bd)) (rk_an_i _ _) ?_
      refine mw_put (v := .int (nI (rk_an (rk_shm r i) Bd))) (ty := .int) (ci := 4) (C := R_Co) (T := T_Co) (N := 6) J i_Co t_Co o_Co n_Co hK hP hS (mw_ov_is (i := (9 + 4 * d)) ho.1 (by omega) (va_up_self _ _ _)) rfl 4 (by decide) (hts _ k_112) (fun _ h9 => h9) rfl rfl rfl rfl (Nat.le_of_ble_eq_true rfl) d_Sv_fillColumns_71 (fun H locs hP hS => ?_)
      rw [mw_ov_set ho.1 (by omega)] at hP
      have hP : mw_P D k_cl (mw_ov B ad (va_up (va_up cx (9 + 4 * d) (.inr (4, [.ref (ad (9 + 4 * d + 1)), .ref (ad (9 + 4 * d + 2)), .ref (ad (9 + 4 * d + 3)), .ref p0, .int (nI K0), .int (nI n0)]))) (9 + 4 * d) (.inr (4, [.ref (ad (9 + 4 * d + 1)), .ref (ad (9 + 4 * d + 2)), .ref (ad (9 + 4 * d + 3)), .ref p0, .int (nI (rk_an (rk_shm r i) Bd)), .int (nI n0)]))) 21) _ H := hP
      refine lv_aload hx hb d_Sv_fillColumns_74 (lv_at hl 0 rfl) ?_
      refine lv_aload_n hx hb d_Sv_fillColumns_76 rfl (lv_at hl 1 rfl) ?_
      refine mw_get (v := .ref (ad 2)) (ci := 5) (C := R_Sv) (T := T_Sv) (N := 4) J i_Sv hK hP (mw_ov_is (i := 1) ho.1 (by decide) ((va_up_ne _ _ (by omega)).trans ((va_up_ne _ _ (by omega)).trans hx1))) rfl 0 (by decide) (hts _ k_128) (fun _ h9 => h9) rfl d_Sv_fillColumns_77 ?_
      refine lv_iload hx hb d_Sv_fillColumns_80 (lv_at hl 5 rfl) ?_
      refine lv_iload_n hx hb d_Sv_fillColumns_82 rfl (lv_at hl 4 rfl) ?_
      refine lv_aload_n hx hb d_Sv_fillColumns_83 rfl (lv_at hl 1 rfl) ?_
      refine mw_get (v := .ref (ad 8)) (ci := 5) (C := R_Sv) (T := T_Sv) (N := 4) J i_Sv hK hP (mw_ov_is (i := 1) ho.1 (by decide) ((va_up_ne _ _ (by omega)).trans ((va_up_ne _ _ (by omega)).trans hx1))) rfl 1 (by decide) (hts _ k_130) (fun _ h9 => h9) rfl d_Sv_fillColumns_84 ?_
      obtain ⟨cy, ecy⟩ : ∃ z : Nat → va_E, z = (va_up (va_up cx (9 + 4 * d) (.inr (4, [.ref (ad (9 + 4 * d + 1)), .ref (ad (9 + 4 * d + 2)), .ref (ad (9 + 4 * d + 3)), .ref p0, .int (nI K0), .int (nI n0)]))) (9 + 4 * d) (.inr (4, [.ref (ad (9 + 4 * d + 1)), .ref (ad (9 + 4 * d + 2)), .ref (ad (9 + 4 * d + 3)), .ref p0, .int (nI (rk_an (rk_shm r i) Bd)), .int (nI n0)]))) := ⟨_, rfl⟩
      have hy0 : cy (9 + 4 * d) = .inr (4, [.ref (ad (9 + 4 * d + 1)), .ref (ad (9 + 4 * d + 2)), .ref (ad (9 + 4 * d + 3)), .ref p0, .int (nI (rk_an (rk_shm r i) Bd)), .int (nI n0)]) := by rw [ecy]; exact va_up_self _ _ _
      have hyo : ∀ z, z ≠ 9 + 4 * d → cy z = cx z := fun z hz => by rw [ecy, va_up_ne _ _ hz, va_up_ne _ _ hz]
      have hP : mw_P D k_cl (mw_ov (mw_ov B ad cy 21) (fun i => ad (9 + 4 * d + i)) (fun i => cy (9 + 4 * d + i)) 4) (mw_A (mw_ov B ad cw 21) s.heap.size) H := by
        rw [mw_ov_slf ho.1 (by omega), ecy]
        exact hP
      have hkc : k_co cI (fun i => ad (9 + 4 * d + i)) p0 (rk_an (rk_shm r i) Bd) (fun i => cy (9 + 4 * d + i)) n0 pr0 tm0 pl0 := ⟨hy0, (hyo _ (by omega)).trans hco0.2.1, (hyo _ (by omega)).trans hco0.2.2.1, (hyo _ (by omega)).trans hco0.2.2.2⟩
      refine mw_afterV hP hS hA (mw_runV (As := [.ref (ad 2), .int (nI len), .int (nI Bd), .ref (ad 8)]) (rest := []) J hK hZ hP hS hA (mw_ov_at (i := 0) (k_inj4 ho.1 (by omega)) (by decide) |>.trans (congrArg some hy0)) rfl (c_Co_fill l D cI cZ cP cR cC tS _ (mw_ov B ad cy 21) (fun i => ad (9 + 4 * d + i)) (k_inj4 ho.1 (by omega)) p0 (rk_an (rk_shm r i) Bd) (fun i => cy (9 + 4 * d + i)) n0 pr0 tm0 pl0 hkc (rk_nth r i) (fun c => by rw [mw_ov_sub ho.1 (by omega)]; exact k_pat_mono hpp (k_fr ho _)) (ad 2) (ad 3) pm (ad 8) L fc u (k_thruA ho (by omega) (by decide) (by omega) ((hyo 2 (by omega)).trans ((hlo 2 (by decide) (by decide)).trans hc2))) (k_thruA ho (by omega) (by decide) (by omega) ((hyo 3 (by omega)).trans ((hlo 3 (by decide) (by decide)).trans hc3))) (k_thruA ho (by omega) (by decide) (by omega) ((hyo 8 (by omega)).trans hx8)) hu hfc hL3 hlt len Bd hlen hBd hsh8 hpl0) (cwV 4 hts (mw_gV k_264 k_265 k_266 k_5 k_267) rfl rfl rfl (by decide +kernel) ⟨Nat.le_of_ble_eq_true rfl, Nat.le_of_ble_eq_true rfl⟩) rfl hl.1 rfl (Nat.le_of_ble_eq_true rfl) d_Sv_fillColumns_87 ⟨Nat.le_of_ble_eq_true rfl, Nat.le_of_ble_eq_true rfl⟩) (fun M1 H locs hw hP hS => ?_)
      obtain ⟨cz, n1, pr1, tm1, pl1, rfl, hcz, hpz, hn1, htz, hsum⟩ := hw
      rw [mw_ov_sub ho.1 (by omega)] at hP
      obtain ⟨cv, ecv⟩ : ∃ z : Nat → va_E, z = rk_spl cy (9 + 4 * d) cz := ⟨_, rfl⟩
      rw [← ecv] at hP
      have hvo : ∀ z, (z < 9 + 4 * d ∨ 9 + 4 * d + 4 ≤ z) → cv z = cx z := fun z hz => by rw [ecv, rk_spl_out hz, hyo z (by omega)]
      have hvi : ∀ z, z < 4 → cv (9 + 4 * d + z) = cz z := fun z hz => by rw [ecv, rk_spl_in hz]
      have hv0 : cv (9 + 4 * d) = .inr (4, [.ref (ad (9 + 4 * d + 1)), .ref (ad (9 + 4 * d + 2)), .ref (ad (9 + 4 * d + 3)), .ref p0, .int (nI (rk_an (rk_shm r i) Bd)), .int (nI n1)]) := (hvi 0 (by decide)).trans hcz.1
      have hcol : k_cold cI B ad cv d (rk_nth r i, rk_tb (rk_an (rk_shm r i) Bd), n1, pr1, tm1) := ⟨p0, rk_an (rk_shm r i) Bd, pl1, k_co_same hcz (fun z hz => hvi z hz), rfl, hsh8, hpp, hpz, hn1, fun z hz => (htz z hz).2⟩
      have hbv : ∀ e, e < 3 → k_blank cI ad cv e := fun e he => by
        by_cases hde : e = d
        · rw [hde]
          exact k_cold_blank hcol
        · exact k_blank_same (hbx e he) (fun z hz => hvo _ (by omega))
      refine lv_aload hx hb d_Sv_fillColumns_90 (lv_at hl 0 rfl) ?_
      refine mw_get (v := .int (nI n1)) (ci := 4) (C := R_Co) (T := T_Co) (N := 6) J i_Co hK hP (mw_ov_is (i := (9 + 4 * d)) ho.1 (by omega) hv0) rfl 5 (by decide) (hts _ k_114) (fun _ h9 => h9) rfl d_Sv_fillColumns_92 ?_
      refine lv_if_ne (tgt := 100) hx hb d_Sv_fillColumns_95 (by decide) (fun c_95 => ?_) (fun c_95 => ?_)
      · refine lv_aload_n hx hb d_Sv_fillColumns_100 rfl (lv_at hl 1 rfl) ?_
        refine lv_dup hx hb d_Sv_fillColumns_101 rfl ?_
        refine mw_get (v := .int (nI d)) (ci := 5) (C := R_Sv) (T := T_Sv) (N := 4) J i_Sv hK hP (mw_ov_is (i := 1) ho.1 (by decide) ((hvo 1 (by omega)).trans hx1)) rfl 3 (by decide) (hts _ k_132) (fun _ h9 => h9) rfl d_Sv_fillColumns_102 ?_
        refine lv_iconst (v := 1) hx hb d_Sv_fillColumns_105 (by decide) ?_
        refine lv_iadd hx hb d_Sv_fillColumns_106 ?_
        refine mw_top (x' := nI (d + 1)) (nI_1 d) ?_
        refine mw_put (v := .int (nI (d + 1))) (ty := .int) (ci := 5) (C := R_Sv) (T := T_Sv) (N := 4) J i_Sv t_Sv o_Sv n_Sv hK hP hS (mw_ov_is (i := 1) ho.1 (by decide) ((hvo 1 (by omega)).trans hx1)) rfl 3 (by decide) (hts _ k_132) (fun _ h9 => h9) rfl rfl rfl rfl (Nat.le_of_ble_eq_true rfl) d_Sv_fillColumns_107 (fun H locs hP hS => ?_)
        rw [mw_ov_set ho.1 (by decide)] at hP
        have hP : mw_P D k_cl (mw_ov B ad (va_up cv 1 (.inr (5, [.ref (ad 2), .ref (ad 8), .ref ca, .int (nI (d + 1))]))) 21) _ H := hP
        have hcf2 : ∀ j, j < i + 1 → j ≠ wo → rk_iscol r Bd j (va_up cf i (rk_nth r i, rk_tb (rk_an (rk_shm r i) Bd), n1, pr1, tm1) j) ∧ rk_colok (L.take len) (rk_tb Bd) u (va_up cf i (rk_nth r i, rk_tb (rk_an (rk_shm r i) Bd), n1, pr1, tm1) j) := by
          intro j hj hjw
          by_cases e : j = i
          · subst e
            rw [va_up_self]
            exact ⟨⟨rfl, rfl⟩, hsum, fun z hz => (htz z hz).1, fun x hx => rk_iscol_in (r := r) (b := Bd) (j := j) (c := (rk_nth r j, rk_tb (rk_an (rk_shm r j) Bd), n1, pr1, tm1)) ⟨rfl, rfl⟩ hx⟩
          · rw [va_up_ne _ _ e]
            exact hcf j (by omega) hjw
        have hcd2 : ∀ e, e < d + 1 → k_cold cI B ad (va_up cv 1 (.inr (5, [.ref (ad 2), .ref (ad 8), .ref ca, .int (nI (d + 1))]))) e ((rk_cols r wo (va_up cf i (rk_nth r i, rk_tb (rk_an (rk_shm r i) Bd), n1, pr1, tm1)) (i + 1)).getD e rk_col0) := by
          intro e he
          rw [rk_cols_new hne]
          by_cases hed : e = d
          · rw [hed]
            have e1 : (rk_cols r wo cf i ++ [(rk_nth r i, rk_tb (rk_an (rk_shm r i) Bd), n1, pr1, tm1)]).getD d rk_col0 = (rk_nth r i, rk_tb (rk_an (rk_shm r i) Bd), n1, pr1, tm1) := by rw [hd]; exact rk_colD_last _ _
            rw [e1]
            exact k_cold_same hcol (fun z hz => va_up_ne _ _ (by omega))
          · rw [rk_colD_app (by omega)]
            exact k_cold_same (hcd e (by omega)) (fun z hz => by rw [va_up_ne _ _ (by omega)]; exact hvo _ (by omega))
        refine lv_iinc (v := nI (i + 1)) (lv' := [(5, .int (nI (i + 1))), (6, .ref (ad (9 + 4 * d))), (0, .ref (ad 1)), (1, .ref ra), (2, .int woI), (3, .int (nI Bd)), (4, .int (nI len))]) hx hb d_Sv_fillColumns_110 hl (k := 6) rfl (nI_1 i) (by decide) rfl (fun ls hl => ?_)
        refine lv_goto (tgt := 8) hx hb d_Sv_fillColumns_113 (by decide) ?_
        exact ih_8 _ _ _ (by omega) ⟨(va_up cv 1 (.inr (5, [.ref (ad 2), .ref (ad 8), .ref ca, .int (nI (d + 1))]))), (va_up cf i (rk_nth r i, rk_tb (rk_an (rk_shm r i) Bd), n1, pr1, tm1)), (d + 1), lv_sub hl [2, 3, 4, 5, 6, 0] rfl, (by rw [rk_cols_new hne, List.length_append, ← hd]; rfl), ⟨rfl, (hvo 8 (by omega)).trans hx8, hu, fa, hca, hfa⟩, (fun z h1 h9 => by rw [va_up_ne _ _ h1, hvo z (by omega)]; exact hlo z h1 h9), (fun e he => k_blank_same (hbv e he) (fun z hz => va_up_ne _ _ (by omega))), hcf2, hcd2, hP, hS⟩
      · have hn0 : n1 = 0 := (rk_nI0 (by omega)).mp c_95
        subst hn0
        refine lv_iconst (v := 0) hx hb d_Sv_fillColumns_98 (by decide) ?_
        exact mw_zret J hr hlk rfl hP hS d_Sv_fillColumns_99 (⟨cv, d, rfl, ⟨(hvo 1 (by omega)).trans hx1, (hvo 8 (by omega)).trans hx8, hu, fa, hca, hfa⟩, fun z h1 h9 => by rw [hvo z (by omega)]; exact hlo z h1 h9, hbv, Or.inr ⟨rfl, i, by omega, hne, rk_col_none hsum⟩⟩)
    · have heq : i = wo := (hwo i (by omega)).mp c_29
      refine lv_goto (tgt := 110) hx hb d_Sv_fillColumns_32 (by decide) ?_
      refine lv_iinc (v := nI (i + 1)) (lv' := [(5, .int (nI (i + 1))), (0, .ref (ad 1)), (1, .ref ra), (2, .int woI), (3, .int (nI Bd)), (4, .int (nI len))]) hx hb d_Sv_fillColumns_110 hl (k := 5) rfl (nI_1 i) (by decide) rfl (fun ls hl => ?_)
      refine lv_goto (tgt := 8) hx hb d_Sv_fillColumns_113 (by decide) ?_
      exact ih_8 _ _ _ (by omega) ⟨cx, cf, d, lv_sub hl [1, 2, 3, 4, 5, 0] rfl, (by rw [rk_cols_skip heq]; exact hd), hsx, hlo, hbx, (fun j hj hne => hcf j (by omega) hne), (by rw [rk_cols_skip heq]; exact hcd), hP, hS⟩
