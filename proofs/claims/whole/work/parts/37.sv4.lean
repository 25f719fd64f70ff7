/-! Solver.addJoined, by induction on the columns that are left -/
def k_addj (l : Launch) (D : va_G) (cI cZ cP cR cC : ClassId) (tS : Nat) (m0 : Nat) : Prop := ∀ (sz : Nat) (B : mw_M) (ad : Nat → Nat) (cw : Nat → va_E) (pm : Nat) (L : List Nat) (ho : k_ov B ad) (hpm : B pm = some (.inr (0, [.ref (ad 4)]))) (ht : k_tr cI ad cw pm L) (ca : Nat) (cs : List rk_Col) (u : Nat → Nat) (hsv : k_sv cI cC B ad cw ca cs.length u) (hcs3 : cs.length ≤ 3) (hcd : ∀ e, e < cs.length → k_cold cI B ad cw e (cs.getD e rk_col0)) (ra : Nat) (r : rk_Ru) (hrule : k_rule cI cP B ra r) (d Bd : Nat) (hBd : Bd < 256) (hdm : d + m0 = cs.length) (L0 : List Nat) (hL0 : ∀ k, k ∈ L0 → k < 32768) (B0 : Nat → Bool) (u0 : Nat → Nat) (hjn : rk_jn L0 B0 u0 r.2 (cs.drop d) (rk_tb Bd) u), Met l y_Sv_addJoined (.code y_Sv_addJoined b_Sv_addJoined 10 (some .boolean) :: gw) { frames := m0 + 2, cells := 0, slots := 0, locals := 29 * m0 + 42 } (va_Pc [.ref (ad 1), .ref ra, .int (nI d), .int (nI Bd)] (mw_B D k_cl (k_tys cI cZ cP cR cC) (k_g tS) (mw_ov B ad cw 21) sz)) (va_Qi (fun (rr : Int32) (M1 : mw_M) => ∃ cw1 N1 u1, M1 = mw_ov B ad cw1 21 ∧ k_tr cI ad cw1 pm (L ++ N1) ∧ k_sv cI cC B ad cw1 ca cs.length u1 ∧ (∀ x, rk_tb Bd x = true → u1 x = u x) ∧ (∀ i, i ≠ 2 → i ≠ 3 → i ≠ 4 → i ≠ 8 → cw1 i = cw i) ∧ (∀ z, z ∈ N1 → rk_hd L0 r.2 (cs.drop d) (rk_tb Bd) u z) ∧ ((rr = 1 ∧ ∀ z, rk_hd L0 r.2 (cs.drop d) (rk_tb Bd) u z → z ∈ L ++ N1) ∨ (rr = 0 ∧ (L ++ N1).length = 300 ∧ ∃ z, rk_hd L0 r.2 (cs.drop d) (rk_tb Bd) u z ∧ z ∉ L ++ N1))) (mw_E D k_cl (mw_ov B ad cw 21) sz) (mw_A (mw_ov B ad cw 21) sz)) 0 0 (mw_A (mw_ov B ad cw 21) sz)
set_option maxHeartbeats 4000000 in
set_option maxRecDepth 100000 in
theorem c_Sv_addj_step (l : Launch) (D : va_G) (cI cZ cP cR cC : ClassId) (tS : Nat) (m0 : Nat) (IH : ∀ m1, m0 = m1 + 1 → k_addj l D cI cZ cP cR cC tS m1) : k_addj l D cI cZ cP cR cC tS m0 := by
  intro sz B ad cw pm L ho hpm ht ca cs u hsv hcs3 hcd ra r hrule d Bd hBd hdm L0 hL0 B0 u0 hjn
  refine mw_met (by decide) rfl (Nat.le_of_ble_eq_true rfl) ?_
  intro p e s m below meth c hsz J hr hlk hnm hK hZ hP hS hA ls hl
  subst hsz
  have hx := J.1
  have hb := J.2.1
  have hts := J.2.2.2.2
  have hl : lv_has ls 10 [(0, .ref (ad 1)), (1, .ref ra), (2, .int (nI d)), (3, .int (nI Bd))] := hl
  obtain ⟨hc1, hc8, hu, fa, hca, hfa⟩ := id hsv
  obtain ⟨fc, w, hc2, -⟩ := id ht
  obtain ⟨hr3, bo, hdp, sh, fo, fs, hr1, hr2, hr4, hrh, hfo, hfs⟩ := id hrule
  have hdok := hrh.1
  have hdpp : ∀ c, ∃ b q, mw_ov B ad c 21 hdp = some (.inr (2, k_pf r.2 b q)) := fun c => by
    obtain ⟨-, b, q, _, _, h, -⟩ := k_pat_mono hrh (k_fr ho c)
    exact ⟨b, q, h⟩
  refine lv_aload_n hx hb d_Sv_addJoined_0 rfl (lv_at hl 1 rfl) ?_
  refine mw_get (v := .ref hdp) (ci := 3) (C := R_Ru) (T := T_Ru) (N := 3) J i_Ru hK hP (mw_ov_fr ho.2 hr1) rfl 1 (by decide) (hts _ k_158) (fun _ h9 => h9) rfl d_Sv_addJoined_1 ?_
  refine mw_get (v := .int (nI (rk_vars r.2))) (ci := 2) (C := R_Pt) (T := T_Pt) (N := 8) J i_Pt hK hP (hdpp _).choose_spec.choose_spec rfl 2 (by decide) (hts _ k_76) (fun _ h9 => h9) rfl d_Sv_addJoined_4 ?_
  refine lv_iload_n hx hb d_Sv_addJoined_7 rfl (lv_at hl 3 rfl) ?_
  refine lv_iconst (v := (-1)) hx hb d_Sv_addJoined_8 (by decide) ?_
  refine lv_ixor hx hb d_Sv_addJoined_9 ?_
  refine lv_iand hx hb d_Sv_addJoined_10 ?_
  refine mw_top (x' := nI (rk_an (rk_vars r.2) Bd)) (rk_an_i _ _) ?_
  refine lv_if_ne (tgt := 18) hx hb d_Sv_addJoined_11 (by decide) (fun c_11 => ?_) (fun c_11 => ?_)
  · have hkn : ¬ ∀ x, rk_in r.2 x → rk_tb Bd x = true := fun z => c_11 ((rk_nI0 (Nat.lt_trans (rk_an_lt (rk_vars_lt hdok)) (by decide))).mpr (rk_an_0.mpr (fun x hx => z x (rk_vars_tb.mp hx))))
    refine lv_iconst (v := 0) hx hb d_Sv_addJoined_18 (by decide) ?_
    refine lv_istore (lv' := [(4, .int 0), (0, .ref (ad 1)), (1, .ref ra), (2, .int (nI d)), (3, .int (nI Bd))]) hx hb d_Sv_addJoined_19 hl (by decide) rfl (fun ls hl => ?_)
    refine lv_aload_n hx hb d_Sv_addJoined_21 rfl (lv_at hl 2 rfl) ?_
    refine mw_get (v := .ref hdp) (ci := 3) (C := R_Ru) (T := T_Ru) (N := 3) J i_Ru hK hP (mw_ov_fr ho.2 hr1) rfl 1 (by decide) (hts _ k_158) (fun _ h9 => h9) rfl d_Sv_addJoined_22 ?_
    refine mw_get (v := .int (nI (rk_v (rk_num r.2) (rk_at r.2)))) (ci := 2) (C := R_Pt) (T := T_Pt) (N := 8) J i_Pt hK hP (hdpp _).choose_spec.choose_spec rfl 4 (by decide) (hts _ k_83) (fun _ h9 => h9) rfl d_Sv_addJoined_25 ?_
    refine lv_aload_n hx hb d_Sv_addJoined_28 rfl (lv_at hl 2 rfl) ?_
    refine mw_get (v := .ref hdp) (ci := 3) (C := R_Ru) (T := T_Ru) (N := 3) J i_Ru hK hP (mw_ov_fr ho.2 hr1) rfl 1 (by decide) (hts _ k_158) (fun _ h9 => h9) rfl d_Sv_addJoined_29 ?_
    refine lv_iload_n hx hb d_Sv_addJoined_32 rfl (lv_at hl 4 rfl) ?_
    refine lv_aload_n hx hb d_Sv_addJoined_33 rfl (lv_at hl 1 rfl) ?_
    refine mw_get (v := .ref (ad 8)) (ci := 5) (C := R_Sv) (T := T_Sv) (N := 4) J i_Sv hK hP (mw_ov_is (i := 1) ho.1 (by decide) hc1) rfl 1 (by decide) (hts _ k_130) (fun _ h9 => h9) rfl d_Sv_addJoined_34 ?_
    refine mw_afterI hP hS hA (mw_runV (As := [.int (nI Bd), .ref (ad 8)]) (rest := [.int (nI (rk_v (rk_num r.2) (rk_at r.2)))]) J hK hZ hP hS hA (hdpp _).choose_spec.choose_spec rfl (c_Pt_filled l D cI cZ cP cR cC tS _ (mw_ov B ad cw 21) hdp r.2 (k_pat_mono hrh (k_fr ho _)) Bd hBd (ad 8) u hu (mw_ov_is (i := 8) ho.1 (by decide) hc8)) (cwV 2 hts (mw_gV k_255 k_256 k_257 k_6 k_258) rfl rfl rfl (by decide +kernel) ⟨(by dsimp only; omega), (by dsimp only; omega)⟩) rfl hl.1 rfl (Nat.le_of_ble_eq_true rfl) d_Sv_addJoined_37 ⟨Nat.le_of_ble_eq_true rfl, Nat.le_of_ble_eq_true rfl⟩) (fun r M1 H locs hw hP hS => ?_)
    obtain ⟨rfl, rfl⟩ := hw
    refine lv_ior hx hb d_Sv_addJoined_40 ?_
    refine mw_top (x' := nI (rk_v (fun j => rk_num r.2 j || rk_ink r.2 (rk_tb Bd) j) (rk_wt r.2 u))) (by rw [nx_or, rk_want hu]) ?_
    refine lv_istore (lv' := [(5, .int (nI (rk_v (fun j => rk_num r.2 j || rk_ink r.2 (rk_tb Bd) j) (rk_wt r.2 u)))), (4, .int 0), (0, .ref (ad 1)), (1, .ref ra), (2, .int (nI d)), (3, .int (nI Bd))]) hx hb d_Sv_addJoined_41 hl (by decide) rfl (fun ls hl => ?_)
    refine lv_iload hx hb d_Sv_addJoined_43 (lv_at hl 1 rfl) ?_
    refine lv_if_eq (tgt := 62) hx hb d_Sv_addJoined_45 (by decide) (fun c_45 => ?_) (fun c_45 => ?_)
    · refine lv_iload_n hx hb d_Sv_addJoined_62 rfl (lv_at hl 4 rfl) ?_
      refine lv_aload_n hx hb d_Sv_addJoined_63 rfl (lv_at hl 2 rfl) ?_
      refine mw_get (v := .int (nI cs.length)) (ci := 5) (C := R_Sv) (T := T_Sv) (N := 4) J i_Sv hK hP (mw_ov_is (i := 1) ho.1 (by decide) hc1) rfl 3 (by decide) (hts _ k_132) (fun _ h9 => h9) rfl d_Sv_addJoined_64 ?_
      refine lv_icmp_lt (tgt := 80) hx hb d_Sv_addJoined_67 (by decide) (fun c_67 => ?_) (fun c_67 => ?_)
      · have c_67 : d < cs.length := (nI_ltI (by omega) (by omega)).mp c_67
        obtain ⟨m1, hm1⟩ : ∃ z, m0 = z + 1 := ⟨m0 - 1, by omega⟩
        have hdr := rk_colD_drop c_67
        have hcdd := hcd d c_67
        obtain ⟨c0, ec0⟩ : ∃ z, z = cs.getD d rk_col0 := ⟨_, rfl⟩
        rw [← ec0] at hdr hcdd
        rw [hdr] at hjn
        have hstep := rk_hd_jn hL0 hjn
        have hjs := rk_jn_step hjn
        have hKi := (hjn.2.2.1 c0 List.mem_cons_self).2.2
        obtain ⟨P, Kf, n, pr, tm⟩ := c0
        obtain ⟨src, K, pl, hko, hKf, hK8, hpp, -, hn3, hpr⟩ := hcdd
        have hKf : Kf = rk_tb K := hKf
        subst hKf
        obtain ⟨hk0, hk1, -, -⟩ := hko
        have hn3 : n ≤ 300 := hn3
        have hpr : ∀ i, i < n → pr i < 32768 := hpr
        have hpp : k_pat cI B src P := hpp
        have hKP : ∀ x, rk_tb K x = true → rk_in P x := hKi
        have hstep : ∀ z, rk_hd L0 r.2 ((P, rk_tb K, n, pr, tm) :: cs.drop (d + 1)) (rk_tb Bd) u z ↔ ∃ i, i < n ∧ rk_cons P (fun x => rk_tb K x && rk_tb Bd x) u (pr i) ∧ rk_hd L0 r.2 (cs.drop (d + 1)) (fun x => rk_tb Bd x || rk_tb K x) (rk_bind P (fun x => rk_tb K x && !rk_tb Bd x) (pr i) u) z := hstep
        rw [← hdr] at hstep
        have hjs : ∀ p, rk_jn L0 B0 u0 r.2 (cs.drop (d + 1)) (fun x => rk_tb Bd x || rk_tb K x) (rk_bind P (fun x => rk_tb K x && !rk_tb Bd x) p u) := hjs
        have srcp : ∀ c, ∃ b q, mw_ov B ad c 21 src = some (.inr (2, k_pf P b q)) := fun c => by
          obtain ⟨-, b, q, _, _, h, -⟩ := k_pat_mono hpp (k_fr ho c)
          exact ⟨b, q, h⟩
        have hKB : K &&& Bd < 256 := Nat.lt_of_le_of_lt Nat.and_le_left hK8
        have hk0 : cw (9 + 4 * d) = .inr (4, [.ref (ad (9 + 4 * d + 1)), .ref (ad (9 + 4 * d + 2)), .ref (ad (9 + 4 * d + 3)), .ref src, .int (nI K), .int (nI n)]) := hk0
        have hk1 : cw (9 + 4 * d + 1) = .inl (cI, 300, .inl (rk_nf pr)) := hk1
        have hoth : ∀ i, i ≠ 2 → i ≠ 3 → i ≠ 4 → i ≠ 8 → cw i = cw i := fun _ _ _ _ _ => rfl
        refine lv_aload_n hx hb d_Sv_addJoined_80 rfl (lv_at hl 2 rfl) ?_
        refine mw_get (v := .ref ca) (ci := 5) (C := R_Sv) (T := T_Sv) (N := 4) J i_Sv hK hP (mw_ov_is (i := 1) ho.1 (by decide) hc1) rfl 2 (by decide) (hts _ k_131) (fun _ h9 => h9) rfl d_Sv_addJoined_81 ?_
        refine lv_iload_n hx hb d_Sv_addJoined_84 rfl (lv_at hl 4 rfl) ?_
        refine mw_aaldN (k := d) (b := (ad (9 + 4 * d))) J hK hP 4 (mw_ov_fr ho.2 hca) rfl (by omega) (by decide) (hfa d (by omega)) d_Sv_addJoined_85 ?_
        refine lv_astore (lv' := [(6, .ref (ad (9 + 4 * d))), (5, .int (nI (rk_v (fun j => rk_num r.2 j || rk_ink r.2 (rk_tb Bd) j) (rk_wt r.2 u)))), (4, .int 0), (0, .ref (ad 1)), (1, .ref ra), (2, .int (nI d)), (3, .int (nI Bd))]) hx hb d_Sv_addJoined_86 hl (by decide) rfl (fun ls hl => ?_)
        refine lv_aload hx hb d_Sv_addJoined_88 (lv_at hl 0 rfl) ?_
        refine mw_get (v := .ref src) (ci := 4) (C := R_Co) (T := T_Co) (N := 6) J i_Co hK hP (mw_ov_is (i := (9 + 4 * d)) ho.1 (by omega) ((hoth _ (by omega) (by omega) (by omega) (by omega)).trans hk0)) rfl 3 (by decide) (hts _ k_110) (fun _ h9 => h9) rfl d_Sv_addJoined_90 ?_
        refine lv_aload hx hb d_Sv_addJoined_93 (lv_at hl 0 rfl) ?_
        refine mw_get (v := .int (nI K)) (ci := 4) (C := R_Co) (T := T_Co) (N := 6) J i_Co hK hP (mw_ov_is (i := (9 + 4 * d)) ho.1 (by omega) ((hoth _ (by omega) (by omega) (by omega) (by omega)).trans hk0)) rfl 4 (by decide) (hts _ k_112) (fun _ h9 => h9) rfl d_Sv_addJoined_95 ?_
        refine lv_iload_n hx hb d_Sv_addJoined_98 rfl (lv_at hl 6 rfl) ?_
        refine lv_iand hx hb d_Sv_addJoined_99 ?_
        refine mw_top (x' := nI (K &&& Bd)) (nx_and _ _) ?_
        refine mw_afterI hP hS hA (mw_runV (As := [.int (nI (K &&& Bd))]) (rest := []) J hK hZ hP hS hA (srcp _).choose_spec.choose_spec rfl (c_Pt_maskOf l D cI cZ cP cR cC tS _ (mw_ov B ad cw 21) src P (k_pat_mono hpp (k_fr ho _)) (K &&& Bd) hKB) (cwV 1 hts (mw_gV k_251 k_252 k_253 k_6 k_254) rfl rfl rfl (by decide +kernel) ⟨(by dsimp only; omega), (by dsimp only; omega)⟩) rfl hl.1 rfl (Nat.le_of_ble_eq_true rfl) d_Sv_addJoined_100 ⟨Nat.le_of_ble_eq_true rfl, Nat.le_of_ble_eq_true rfl⟩) (fun r M1 H locs hw hP hS => ?_)
        obtain ⟨rfl, rfl⟩ := hw
        refine lv_istore (lv' := [(7, .int (nI (rk_m (rk_ink P (rk_tb (K &&& Bd)))))), (6, .ref (ad (9 + 4 * d))), (5, .int (nI (rk_v (fun j => rk_num r.2 j || rk_ink r.2 (rk_tb Bd) j) (rk_wt r.2 u)))), (4, .int 0), (0, .ref (ad 1)), (1, .ref ra), (2, .int (nI d)), (3, .int (nI Bd))]) hx hb d_Sv_addJoined_103 hl (by decide) rfl (fun ls hl => ?_)
        refine lv_aload hx hb d_Sv_addJoined_105 (lv_at hl 1 rfl) ?_
        refine mw_get (v := .ref src) (ci := 4) (C := R_Co) (T := T_Co) (N := 6) J i_Co hK hP (mw_ov_is (i := (9 + 4 * d)) ho.1 (by omega) ((hoth _ (by omega) (by omega) (by omega) (by omega)).trans hk0)) rfl 3 (by decide) (hts _ k_110) (fun _ h9 => h9) rfl d_Sv_addJoined_107 ?_
        refine lv_aload hx hb d_Sv_addJoined_110 (lv_at hl 1 rfl) ?_
        refine mw_get (v := .int (nI K)) (ci := 4) (C := R_Co) (T := T_Co) (N := 6) J i_Co hK hP (mw_ov_is (i := (9 + 4 * d)) ho.1 (by omega) ((hoth _ (by omega) (by omega) (by omega) (by omega)).trans hk0)) rfl 4 (by decide) (hts _ k_112) (fun _ h9 => h9) rfl d_Sv_addJoined_112 ?_
        refine lv_iload_n hx hb d_Sv_addJoined_115 rfl (lv_at hl 7 rfl) ?_
        refine lv_iand hx hb d_Sv_addJoined_116 ?_
        refine mw_top (x' := nI (K &&& Bd)) (nx_and _ _) ?_
        refine lv_aload_n hx hb d_Sv_addJoined_117 rfl (lv_at hl 4 rfl) ?_
        refine mw_get (v := .ref (ad 8)) (ci := 5) (C := R_Sv) (T := T_Sv) (N := 4) J i_Sv hK hP (mw_ov_is (i := 1) ho.1 (by decide) hc1) rfl 1 (by decide) (hts _ k_130) (fun _ h9 => h9) rfl d_Sv_addJoined_118 ?_
        refine mw_afterI hP hS hA (mw_runV (As := [.int (nI (K &&& Bd)), .ref (ad 8)]) (rest := []) J hK hZ hP hS hA (srcp _).choose_spec.choose_spec rfl (c_Pt_filled l D cI cZ cP cR cC tS _ (mw_ov B ad cw 21) src P (k_pat_mono hpp (k_fr ho _)) (K &&& Bd) hKB (ad 8) u hu (mw_ov_is (i := 8) ho.1 (by decide) hc8)) (cwV 2 hts (mw_gV k_255 k_256 k_257 k_6 k_258) rfl rfl rfl (by decide +kernel) ⟨(by dsimp only; omega), (by dsimp only; omega)⟩) rfl hl.1 rfl (Nat.le_of_ble_eq_true rfl) d_Sv_addJoined_121 ⟨Nat.le_of_ble_eq_true rfl, Nat.le_of_ble_eq_true rfl⟩) (fun r M1 H locs hw hP hS => ?_)
        obtain ⟨rfl, rfl⟩ := hw
        refine lv_istore (lv' := [(8, .int (nI (rk_v (rk_ink P (rk_tb (K &&& Bd))) (fun j => u (rk_at P j - 32))))), (7, .int (nI (rk_m (rk_ink P (rk_tb (K &&& Bd)))))), (6, .ref (ad (9 + 4 * d))), (5, .int (nI (rk_v (fun j => rk_num r.2 j || rk_ink r.2 (rk_tb Bd) j) (rk_wt r.2 u)))), (4, .int 0), (0, .ref (ad 1)), (1, .ref ra), (2, .int (nI d)), (3, .int (nI Bd))]) hx hb d_Sv_addJoined_124 hl (by decide) rfl (fun ls hl => ?_)
        refine lv_iconst (v := 0) hx hb d_Sv_addJoined_126 (by decide) ?_
        refine mw_top (x' := nI 0) nI_0.symm ?_
        refine lv_istore (lv' := [(9, .int (nI 0)), (8, .int (nI (rk_v (rk_ink P (rk_tb (K &&& Bd))) (fun j => u (rk_at P j - 32))))), (7, .int (nI (rk_m (rk_ink P (rk_tb (K &&& Bd)))))), (6, .ref (ad (9 + 4 * d))), (5, .int (nI (rk_v (fun j => rk_num r.2 j || rk_ink r.2 (rk_tb Bd) j) (rk_wt r.2 u)))), (4, .int 0), (0, .ref (ad 1)), (1, .ref ra), (2, .int (nI d)), (3, .int (nI Bd))]) hx hb d_Sv_addJoined_127 hl (by decide) rfl (fun ls hl => ?_)
        refine mw_loop (W' := fun H locs ls => W p l e _ s m _ below meth c H locs _ _ _ (F0 m 129 ls [])) n (fun i H locs ls => ∃ (cx : Nat → va_E), ∃ (Nx : List Nat), ∃ (u1 : Nat → Nat), lv_has ls 10 [(0, .ref (ad 1)), (1, .ref ra), (2, .int (nI d)), (3, .int (nI Bd)), (4, .int 0), (5, .int (nI (rk_v (fun j => rk_num r.2 j || rk_ink r.2 (rk_tb Bd) j) (rk_wt r.2 u)))), (6, .ref (ad (9 + 4 * d))), (7, .int (nI (rk_m (rk_ink P (rk_tb (K &&& Bd)))))), (8, .int (nI (rk_v (rk_ink P (rk_tb (K &&& Bd))) (fun j => u (rk_at P j - 32))))), (9, .int (nI i))] ∧ (k_tr cI ad cx pm (L ++ Nx)) ∧ (k_sv cI cC B ad cx ca cs.length u1) ∧ (∀ x, rk_tb Bd x = true → u1 x = u x) ∧ (∀ i, i ≠ 2 → i ≠ 3 → i ≠ 4 → i ≠ 8 → cx i = cw i) ∧ (∀ z, z ∈ Nx → rk_hd L0 r.2 (cs.drop d) (rk_tb Bd) u z) ∧ (∀ i', i' < i → rk_cons P (fun x => rk_tb K x && rk_tb Bd x) u (pr i') → ∀ z, rk_hd L0 r.2 (cs.drop (d + 1)) (fun x => rk_tb Bd x || rk_tb K x) (rk_bind P (fun x => rk_tb K x && !rk_tb Bd x) (pr i') u) z → z ∈ L ++ Nx) ∧ mw_P D k_cl (mw_ov B ad cx 21) (mw_A (mw_ov B ad cw 21) s.heap.size) H ∧ va_S (mw_A (mw_ov B ad cw 21) s.heap.size) s.heap H locs) ?_ n 0 (by omega) (by omega) _ _ _ ⟨cw, [], u, lv_sub hl [6, 7, 8, 9, 5, 4, 3, 2, 1, 0] rfl, (by rw [List.append_nil]; exact ht), hsv, (fun _ _ => rfl), (fun _ _ _ _ _ => rfl), (fun z hz => absurd hz List.not_mem_nil), (fun i' h => absurd h (Nat.not_lt_zero i')), hP, hS⟩
        intro i H locs ls hi_129 hI ih_129
        obtain ⟨cx, Nx, u1, hl, ktx, ksx, hex, hoth, hNx, hdone, hP, hS⟩ := hI
        obtain ⟨hx1, hx8, hu1, -, -, -⟩ := id ksx
        obtain ⟨fx, wx, hx2, -⟩ := id ktx
        refine lv_iload hx hb d_Sv_addJoined_129 (lv_at hl 9 rfl) ?_
        refine lv_aload hx hb d_Sv_addJoined_131 (lv_at hl 6 rfl) ?_
        refine mw_get (v := .int (nI n)) (ci := 4) (C := R_Co) (T := T_Co) (N := 6) J i_Co hK hP (mw_ov_is (i := (9 + 4 * d)) ho.1 (by omega) ((hoth _ (by omega) (by omega) (by omega) (by omega)).trans hk0)) rfl 5 (by decide) (hts _ k_114) (fun _ h9 => h9) rfl d_Sv_addJoined_133 ?_
        refine lv_icmp_ge (tgt := 232) hx hb d_Sv_addJoined_136 (by decide) (fun c_136 => ?_) (fun c_136 => ?_)
        · have c_136 : n ≤ i := (nI_leI (by omega) (by omega)).mp c_136
          have hin : i = n := by omega
          refine lv_iconst (v := 1) hx hb d_Sv_addJoined_232 (by decide) ?_
          exact mw_zret J hr hlk rfl hP hS d_Sv_addJoined_233 (⟨cx, Nx, u1, rfl, ktx, ksx, hex, hoth, hNx, Or.inl ⟨rfl, fun z hz => by obtain ⟨j, h1, h2, h3⟩ := (hstep z).mp hz; exact hdone j (by omega) h2 z h3⟩⟩)
        · have c_136 : ¬ (n ≤ i) := fun z => c_136 ((nI_leI (by omega) (by omega)).mpr z)
          refine lv_aload hx hb d_Sv_addJoined_139 (lv_at hl 6 rfl) ?_
          refine mw_get (v := .ref (ad (9 + 4 * d + 1))) (ci := 4) (C := R_Co) (T := T_Co) (N := 6) J i_Co hK hP (mw_ov_is (i := (9 + 4 * d)) ho.1 (by omega) ((hoth _ (by omega) (by omega) (by omega) (by omega)).trans hk0)) rfl 0 (by decide) (hts _ k_105) (fun _ h9 => h9) rfl d_Sv_addJoined_141 ?_
          refine lv_iload hx hb d_Sv_addJoined_144 (lv_at hl 9 rfl) ?_
          refine mw_nald (k := i) J hK hP 0 (mw_ov_is (i := (9 + 4 * d + 1)) ho.1 (by omega) ((hoth _ (by omega) (by omega) (by omega) (by omega)).trans hk1)) rfl (by omega) (by decide) d_Sv_addJoined_146 ?_
          refine lv_iload hx hb d_Sv_addJoined_147 (lv_at hl 7 rfl) ?_
          refine lv_iand hx hb d_Sv_addJoined_149 ?_
          refine mw_top (x' := nI (pr i &&& rk_m (rk_ink P (rk_tb (K &&& Bd))))) (nx_and _ _) ?_
          refine lv_iload hx hb d_Sv_addJoined_150 (lv_at hl 8 rfl) ?_
          refine lv_icmp_eq (tgt := 158) hx hb d_Sv_addJoined_152 (by decide) (fun c_152 => ?_) (fun c_152 => ?_)
          · have c_152 : (pr i &&& rk_m (rk_ink P (rk_tb (K &&& Bd)))) = (rk_v (rk_ink P (rk_tb (K &&& Bd))) (fun j => u (rk_at P j - 32))) := (nI_eq (Nat.lt_of_le_of_lt Nat.and_le_left (by have := hpr i (by omega); omega)) (Nat.lt_trans (rk_v_lt (fun j _ => hu _)) (by decide))).mp c_152
            have hcn : rk_cons P (fun x => rk_tb K x && rk_tb Bd x) u (pr i) := by rw [← rk_tb_and]; exact (rk_cons_sel (hpr i (by omega)) hu).mp c_152
            refine lv_aload hx hb d_Sv_addJoined_158 (lv_at hl 6 rfl) ?_
            refine mw_get (v := .ref src) (ci := 4) (C := R_Co) (T := T_Co) (N := 6) J i_Co hK hP (mw_ov_is (i := (9 + 4 * d)) ho.1 (by omega) ((hoth _ (by omega) (by omega) (by omega) (by omega)).trans hk0)) rfl 3 (by decide) (hts _ k_110) (fun _ h9 => h9) rfl d_Sv_addJoined_160 ?_
            refine lv_aload hx hb d_Sv_addJoined_163 (lv_at hl 6 rfl) ?_
            refine mw_get (v := .ref (ad (9 + 4 * d + 1))) (ci := 4) (C := R_Co) (T := T_Co) (N := 6) J i_Co hK hP (mw_ov_is (i := (9 + 4 * d)) ho.1 (by omega) ((hoth _ (by omega) (by omega) (by omega) (by omega)).trans hk0)) rfl 0 (by decide) (hts _ k_105) (fun _ h9 => h9) rfl d_Sv_addJoined_165 ?_
            refine lv_iload hx hb d_Sv_addJoined_168 (lv_at hl 9 rfl) ?_
            refine mw_nald (k := i) J hK hP 0 (mw_ov_is (i := (9 + 4 * d + 1)) ho.1 (by omega) ((hoth _ (by omega) (by omega) (by omega) (by omega)).trans hk1)) rfl (by omega) (by decide) d_Sv_addJoined_170 ?_
            refine lv_aload hx hb d_Sv_addJoined_171 (lv_at hl 6 rfl) ?_
            refine mw_get (v := .int (nI K)) (ci := 4) (C := R_Co) (T := T_Co) (N := 6) J i_Co hK hP (mw_ov_is (i := (9 + 4 * d)) ho.1 (by omega) ((hoth _ (by omega) (by omega) (by omega) (by omega)).trans hk0)) rfl 4 (by decide) (hts _ k_112) (fun _ h9 => h9) rfl d_Sv_addJoined_173 ?_
            refine lv_iload_n hx hb d_Sv_addJoined_176 rfl (lv_at hl 3 rfl) ?_
            refine lv_iconst (v := (-1)) hx hb d_Sv_addJoined_177 (by decide) ?_
            refine lv_ixor hx hb d_Sv_addJoined_178 ?_
            refine lv_iand hx hb d_Sv_addJoined_179 ?_
            refine mw_top (x' := nI (rk_an K Bd)) (rk_an_i _ _) ?_
            refine lv_aload_n hx hb d_Sv_addJoined_180 rfl (lv_at hl 0 rfl) ?_
            refine mw_get (v := .ref (ad 8)) (ci := 5) (C := R_Sv) (T := T_Sv) (N := 4) J i_Sv hK hP (mw_ov_is (i := 1) ho.1 (by decide) hx1) rfl 1 (by decide) (hts _ k_130) (fun _ h9 => h9) rfl d_Sv_addJoined_181 ?_
            refine mw_afterV hP hS hA (mw_runV (As := [.int (nI (pr i)), .int (nI (rk_an K Bd)), .ref (ad 8)]) (rest := []) J hK hZ hP hS hA (srcp _).choose_spec.choose_spec rfl (c_Pt_bind l D cI cZ cP cR cC tS _ (mw_ov B ad cx 21) src P (k_pat_mono hpp (k_fr ho _)) (pr i) (hpr i (by omega)) (rk_an K Bd) (rk_an_lt hK8) (ad 8) u1 hu1 (mw_ov_is (i := 8) ho.1 (by decide) hx8)) (cwV 3 hts (mw_gV k_243 k_244 k_245 k_6 k_246) rfl rfl rfl (by decide +kernel) ⟨(by dsimp only; omega), (by dsimp only; omega)⟩) rfl hl.1 rfl (Nat.le_of_ble_eq_true rfl) d_Sv_addJoined_184 ⟨Nat.le_of_ble_eq_true rfl, Nat.le_of_ble_eq_true rfl⟩) (fun M1 H locs hw hP hS => ?_)
            obtain rfl := hw
            rw [mw_ov_set ho.1 (by decide)] at hP
            obtain ⟨u2, eu2⟩ : ∃ z, z = rk_bind P (rk_tb (rk_an K Bd)) (pr i) u1 := ⟨_, rfl⟩
            rw [← eu2] at hP
            have hu2 : rk_okV u2 := by rw [eu2]; exact rk_bind_ok hu1
            have he2 : ∀ x, (rk_tb Bd x || rk_tb K x) = true → u2 x = rk_bind P (fun x => rk_tb K x && !rk_tb Bd x) (pr i) u x := by rw [eu2, rk_tb_an]; exact rk_bind_ext hKP hex
            have he3 : ∀ x, rk_tb Bd x = true → u2 x = u x := fun x hx => by rw [he2 x (by simp [hx]), rk_bind_off (by simp [hx])]
            obtain ⟨cb, ecb⟩ : ∃ z : Nat → va_E, z = va_up cx 8 (.inl (cI, 8, .inl (rk_nf u2))) := ⟨_, rfl⟩
            rw [← ecb] at hP
            have hbo : ∀ z, z ≠ 8 → cb z = cx z := fun z hz => by rw [ecb, va_up_ne _ _ hz]
            have hb8 : cb 8 = .inl (cI, 8, .inl (rk_nf u2)) := by rw [ecb]; exact va_up_self _ _ _
            have ktb : k_tr cI ad cb pm (L ++ Nx) := by
              obtain ⟨fx, wx, a2, a3, a4, a5⟩ := ktx
              exact ⟨fx, wx, (hbo 2 (by decide)).trans a2, (hbo 3 (by decide)).trans a3, (hbo 4 (by decide)).trans a4, a5⟩
            have ksb : k_sv cI cC B ad cb ca cs.length u2 := ⟨(hbo 1 (by decide)).trans hx1, hb8, hu2, fa, hca, hfa⟩
            have hcdb : ∀ e, e < cs.length → k_cold cI B ad cb e (cs.getD e rk_col0) := fun e he => k_cold_same (hcd e he) (fun z hz => by rw [hbo _ (by omega)]; exact hoth _ (by omega) (by omega) (by omega) (by omega))
            have hjb : rk_jn L0 B0 u0 r.2 (cs.drop (d + 1)) (rk_tb (Bd ||| K)) u2 := by rw [rk_tb_or]; exact rk_jn_congr (hjs (pr i)) hu2 he2
            have hhb : ∀ z, rk_hd L0 r.2 (cs.drop (d + 1)) (rk_tb (Bd ||| K)) u2 z ↔ rk_hd L0 r.2 (cs.drop (d + 1)) (fun x => rk_tb Bd x || rk_tb K x) (rk_bind P (fun x => rk_tb K x && !rk_tb Bd x) (pr i) u) z := fun z => by rw [rk_tb_or]; exact rk_hd_congr he2 z
            refine lv_aload_n hx hb d_Sv_addJoined_187 rfl (lv_at hl 0 rfl) ?_
            refine lv_aload_n hx hb d_Sv_addJoined_188 rfl (lv_at hl 1 rfl) ?_
            refine lv_iload_n hx hb d_Sv_addJoined_189 rfl (lv_at hl 2 rfl) ?_
            refine lv_iconst (v := 1) hx hb d_Sv_addJoined_190 (by decide) ?_
            refine mw_top (x' := nI 1) rfl ?_
            refine lv_iadd hx hb d_Sv_addJoined_191 ?_
            refine mw_top (x' := nI (d + 1)) (nI_add _ _) ?_
            refine lv_iload_n hx hb d_Sv_addJoined_192 rfl (lv_at hl 3 rfl) ?_
            refine lv_aload hx hb d_Sv_addJoined_193 (lv_at hl 6 rfl) ?_
            refine mw_get (v := .int (nI K)) (ci := 4) (C := R_Co) (T := T_Co) (N := 6) J i_Co hK hP (mw_ov_is (i := (9 + 4 * d)) ho.1 (by omega) ((hbo _ (by omega)).trans ((hoth _ (by omega) (by omega) (by omega) (by omega)).trans hk0))) rfl 4 (by decide) (hts _ k_112) (fun _ h9 => h9) rfl d_Sv_addJoined_195 ?_
            refine lv_ior hx hb d_Sv_addJoined_198 ?_
            refine mw_top (x' := nI (Bd ||| K)) (nx_or _ _) ?_
            refine mw_afterI hP hS hA (mw_runS (As := [.ref (ad 1), .ref ra, .int (nI (d + 1)), .int (nI (Bd ||| K))]) (rest := []) J hK hZ hP hS hA (IH m1 hm1 _ B ad cb pm (L ++ Nx) ho hpm ktb ca cs u2 ksb hcs3 hcdb ra r hrule (d + 1) (Bd ||| K) (rk_or_lt hBd hK8) (by omega) L0 hL0 B0 u0 hjb) (cwS 4 hts (mw_gS k_278 k_279 k_2 k_280) rfl rfl rfl (by decide +kernel) ⟨(by dsimp only; omega), (by dsimp only; omega)⟩) rfl hl.1 rfl (Nat.le_of_ble_eq_true rfl) d_Sv_addJoined_199 ⟨Nat.le_of_ble_eq_true rfl, Nat.le_of_ble_eq_true rfl⟩) (fun rr M1 H locs hw hP hS => ?_)
            obtain ⟨cy, Ny, u3, rfl, kty, ksy, hey0, hoy0, hNy0, hcase⟩ := hw
            rw [List.append_assoc] at kty hcase
            have hey : ∀ x, rk_tb Bd x = true → u3 x = u x := fun x hx => by rw [hey0 x (by rw [rk_tb_or]; simp [hx]), he3 x hx]
            have hoy : ∀ i, i ≠ 2 → i ≠ 3 → i ≠ 4 → i ≠ 8 → cy i = cw i := fun z h2 h3 h4 h8 => by rw [hoy0 z h2 h3 h4 h8, hbo z h8]; exact hoth z h2 h3 h4 h8
            have hNy : ∀ z, z ∈ Nx ++ Ny → rk_hd L0 r.2 (cs.drop d) (rk_tb Bd) u z := fun z hz => (List.mem_append.mp hz).elim (hNx z) (fun h => (hstep z).mpr ⟨i, by omega, hcn, (hhb z).mp (hNy0 z h)⟩)
            obtain ⟨hy1, hy8, hu3, -, -, -⟩ := id ksy
            obtain ⟨fy, wy, hy2, -⟩ := id kty
            refine lv_if_ne (tgt := 207) hx hb d_Sv_addJoined_202 (by decide) (fun c_202 => ?_) (fun c_202 => ?_)
            · have hall : ∀ z, rk_hd L0 r.2 (cs.drop (d + 1)) (fun x => rk_tb Bd x || rk_tb K x) (rk_bind P (fun x => rk_tb K x && !rk_tb Bd x) (pr i) u) z → z ∈ L ++ (Nx ++ Ny) := fun z hz => by
                rcases hcase with ⟨_, h⟩ | ⟨h, _⟩
                · exact h z ((hhb z).mpr hz)
                · exact absurd h c_202
              have hdo2 : ∀ i', i' < i → rk_cons P (fun x => rk_tb K x && rk_tb Bd x) u (pr i') → ∀ z, rk_hd L0 r.2 (cs.drop (d + 1)) (fun x => rk_tb Bd x || rk_tb K x) (rk_bind P (fun x => rk_tb K x && !rk_tb Bd x) (pr i') u) z → z ∈ L ++ (Nx ++ Ny) := fun i' hi' hc z hz => by
                have := hdone i' hi' hc z hz
                rw [← List.append_assoc]
                exact List.mem_append_left _ this
              refine lv_iload hx hb d_Sv_addJoined_207 (lv_at hl 4 rfl) ?_
              refine lv_if_eq (tgt := 226) hx hb d_Sv_addJoined_209 (by decide) (fun c_209 => ?_) (fun c_209 => ?_)
              · refine lv_iinc (v := nI (i + 1)) (lv' := [(9, .int (nI (i + 1))), (0, .ref (ad 1)), (1, .ref ra), (2, .int (nI d)), (3, .int (nI Bd)), (4, .int 0), (5, .int (nI (rk_v (fun j => rk_num r.2 j || rk_ink r.2 (rk_tb Bd) j) (rk_wt r.2 u)))), (6, .ref (ad (9 + 4 * d))), (7, .int (nI (rk_m (rk_ink P (rk_tb (K &&& Bd)))))), (8, .int (nI (rk_v (rk_ink P (rk_tb (K &&& Bd))) (fun j => u (rk_at P j - 32)))))]) hx hb d_Sv_addJoined_226 hl (k := 9) rfl (nI_1 i) (by decide) rfl (fun ls hl => ?_)
                refine lv_goto (tgt := 129) hx hb d_Sv_addJoined_229 (by decide) ?_
                exact ih_129 _ _ _ (by omega) ⟨cy, (Nx ++ Ny), u3, lv_sub hl [1, 2, 3, 4, 5, 6, 7, 8, 9, 0] rfl, kty, ksy, hey, hoy, hNy, (lt_s hdo2 (fun _ z hz => hall z hz)), hP, hS⟩
              · exact absurd rfl c_209
            · have hz0 : (L ++ (Nx ++ Ny)).length = 300 ∧ ∃ z, rk_hd L0 r.2 (cs.drop d) (rk_tb Bd) u z ∧ z ∉ L ++ (Nx ++ Ny) := by
                rcases hcase with ⟨h, _⟩ | ⟨_, h, z, hz, hn⟩
                · rw [h] at c_202
                  exact absurd c_202 (by decide)
                · exact ⟨h, z, (hstep z).mpr ⟨i, by omega, hcn, (hhb z).mp hz⟩, hn⟩
              refine lv_iconst (v := 0) hx hb d_Sv_addJoined_205 (by decide) ?_
              exact mw_zret J hr hlk rfl hP hS d_Sv_addJoined_206 (⟨cy, Nx ++ Ny, u3, rfl, kty, ksy, hey, hoy, hNy, Or.inr ⟨rfl, hz0⟩⟩)
          · have c_152 : ¬ ((pr i &&& rk_m (rk_ink P (rk_tb (K &&& Bd)))) = (rk_v (rk_ink P (rk_tb (K &&& Bd))) (fun j => u (rk_at P j - 32)))) := fun z => c_152 ((nI_eq (Nat.lt_of_le_of_lt Nat.and_le_left (by have := hpr i (by omega); omega)) (Nat.lt_trans (rk_v_lt (fun j _ => hu _)) (by decide))).mpr z)
            have hcn : ¬ rk_cons P (fun x => rk_tb K x && rk_tb Bd x) u (pr i) := fun z => c_152 ((rk_cons_sel (hpr i (by omega)) hu).mpr (by rw [rk_tb_and]; exact z))
            refine lv_goto (tgt := 226) hx hb d_Sv_addJoined_155 (by decide) ?_
            refine lv_iinc (v := nI (i + 1)) (lv' := [(9, .int (nI (i + 1))), (0, .ref (ad 1)), (1, .ref ra), (2, .int (nI d)), (3, .int (nI Bd)), (4, .int 0), (5, .int (nI (rk_v (fun j => rk_num r.2 j || rk_ink r.2 (rk_tb Bd) j) (rk_wt r.2 u)))), (6, .ref (ad (9 + 4 * d))), (7, .int (nI (rk_m (rk_ink P (rk_tb (K &&& Bd)))))), (8, .int (nI (rk_v (rk_ink P (rk_tb (K &&& Bd))) (fun j => u (rk_at P j - 32)))))]) hx hb d_Sv_addJoined_226 hl (k := 9) rfl (nI_1 i) (by decide) rfl (fun ls hl => ?_)
            refine lv_goto (tgt := 129) hx hb d_Sv_addJoined_229 (by decide) ?_
            exact ih_129 _ _ _ (by omega) ⟨cx, Nx, u1, lv_sub hl [1, 2, 3, 4, 5, 6, 7, 8, 9, 0] rfl, ktx, ksx, hex, hoth, hNx, (lt_s hdone (fun z => absurd z hcn)), hP, hS⟩
      · have c_67 : ¬ (d < cs.length) := fun z => c_67 ((nI_ltI (by omega) (by omega)).mpr z)
        have hdr : cs.drop d = [] := List.drop_eq_nil_of_le (by omega)
        rw [hdr] at hjn
        have hkn2 : ∀ x, rk_in r.2 x → rk_tb Bd x = true := fun x hx => (hjn.2.2.2.2.2.2 x hx).elim id (fun ⟨c, hc, _⟩ => absurd hc List.not_mem_nil)
        exact absurd hkn2 hkn
    · exact absurd rfl c_45
  · have hkn : ∀ x, rk_in r.2 x → rk_tb Bd x = true := fun x hx => rk_an_0.mp ((rk_nI0 (Nat.lt_trans (rk_an_lt (rk_vars_lt hdok)) (by decide))).mp c_11) x (rk_vars_tb.mpr hx)
    have hcode := rk_code_hd (u := u) hkn
    refine lv_iconst (v := 1) hx hb d_Sv_addJoined_14 (by decide) ?_
    refine lv_goto (tgt := 19) hx hb d_Sv_addJoined_15 (by decide) ?_
    refine lv_istore (lv' := [(4, .int 1), (0, .ref (ad 1)), (1, .ref ra), (2, .int (nI d)), (3, .int (nI Bd))]) hx hb d_Sv_addJoined_19 hl (by decide) rfl (fun ls hl => ?_)
    refine lv_aload_n hx hb d_Sv_addJoined_21 rfl (lv_at hl 2 rfl) ?_
    refine mw_get (v := .ref hdp) (ci := 3) (C := R_Ru) (T := T_Ru) (N := 3) J i_Ru hK hP (mw_ov_fr ho.2 hr1) rfl 1 (by decide) (hts _ k_158) (fun _ h9 => h9) rfl d_Sv_addJoined_22 ?_
    refine mw_get (v := .int (nI (rk_v (rk_num r.2) (rk_at r.2)))) (ci := 2) (C := R_Pt) (T := T_Pt) (N := 8) J i_Pt hK hP (hdpp _).choose_spec.choose_spec rfl 4 (by decide) (hts _ k_83) (fun _ h9 => h9) rfl d_Sv_addJoined_25 ?_
    refine lv_aload_n hx hb d_Sv_addJoined_28 rfl (lv_at hl 2 rfl) ?_
    refine mw_get (v := .ref hdp) (ci := 3) (C := R_Ru) (T := T_Ru) (N := 3) J i_Ru hK hP (mw_ov_fr ho.2 hr1) rfl 1 (by decide) (hts _ k_158) (fun _ h9 => h9) rfl d_Sv_addJoined_29 ?_
    refine lv_iload_n hx hb d_Sv_addJoined_32 rfl (lv_at hl 4 rfl) ?_
    refine lv_aload_n hx hb d_Sv_addJoined_33 rfl (lv_at hl 1 rfl) ?_
    refine mw_get (v := .ref (ad 8)) (ci := 5) (C := R_Sv) (T := T_Sv) (N := 4) J i_Sv hK hP (mw_ov_is (i := 1) ho.1 (by decide) hc1) rfl 1 (by decide) (hts _ k_130) (fun _ h9 => h9) rfl d_Sv_addJoined_34 ?_
    refine mw_afterI hP hS hA (mw_runV (As := [.int (nI Bd), .ref (ad 8)]) (rest := [.int (nI (rk_v (rk_num r.2) (rk_at r.2)))]) J hK hZ hP hS hA (hdpp _).choose_spec.choose_spec rfl (c_Pt_filled l D cI cZ cP cR cC tS _ (mw_ov B ad cw 21) hdp r.2 (k_pat_mono hrh (k_fr ho _)) Bd hBd (ad 8) u hu (mw_ov_is (i := 8) ho.1 (by decide) hc8)) (cwV 2 hts (mw_gV k_255 k_256 k_257 k_6 k_258) rfl rfl rfl (by decide +kernel) ⟨(by dsimp only; omega), (by dsimp only; omega)⟩) rfl hl.1 rfl (Nat.le_of_ble_eq_true rfl) d_Sv_addJoined_37 ⟨Nat.le_of_ble_eq_true rfl, Nat.le_of_ble_eq_true rfl⟩) (fun r M1 H locs hw hP hS => ?_)
    obtain ⟨rfl, rfl⟩ := hw
    refine lv_ior hx hb d_Sv_addJoined_40 ?_
    refine mw_top (x' := nI (rk_v (fun j => rk_num r.2 j || rk_ink r.2 (rk_tb Bd) j) (rk_wt r.2 u))) (by rw [nx_or, rk_want hu]) ?_
    refine lv_istore (lv' := [(5, .int (nI (rk_v (fun j => rk_num r.2 j || rk_ink r.2 (rk_tb Bd) j) (rk_wt r.2 u)))), (4, .int 1), (0, .ref (ad 1)), (1, .ref ra), (2, .int (nI d)), (3, .int (nI Bd))]) hx hb d_Sv_addJoined_41 hl (by decide) rfl (fun ls hl => ?_)
    refine lv_iload hx hb d_Sv_addJoined_43 (lv_at hl 1 rfl) ?_
    refine lv_if_eq (tgt := 62) hx hb d_Sv_addJoined_45 (by decide) (fun c_45 => ?_) (fun c_45 => ?_)
    · exact absurd c_45 (by decide)
    · refine lv_aload_n hx hb d_Sv_addJoined_48 rfl (lv_at hl 2 rfl) ?_
      refine mw_get (v := .ref (ad 2)) (ci := 5) (C := R_Sv) (T := T_Sv) (N := 4) J i_Sv hK hP (mw_ov_is (i := 1) ho.1 (by decide) hc1) rfl 0 (by decide) (hts _ k_128) (fun _ h9 => h9) rfl d_Sv_addJoined_49 ?_
      refine lv_iload hx hb d_Sv_addJoined_52 (lv_at hl 0 rfl) ?_
      refine mw_afterI hP hS hA (mw_runV (As := [.int (nI (rk_v (fun j => rk_num r.2 j || rk_ink r.2 (rk_tb Bd) j) (rk_wt r.2 u)))]) (rest := []) J hK hZ hP hS hA (mw_ov_is (i := 2) ho.1 (by decide) hc2) rfl (c_Tr_has l D cI cZ cP cR cC tS _ B ad cw pm L ho hpm ht (rk_v (fun j => rk_num r.2 j || rk_ink r.2 (rk_tb Bd) j) (rk_wt r.2 u)) (rk_v_lt (fun j _ => rk_wt_lt hu j))) (cwV 1 hts (mw_gV k_281 k_208 k_209 k_3 k_210) rfl rfl rfl (by decide +kernel) ⟨(by dsimp only; omega), (by dsimp only; omega)⟩) rfl hl.1 rfl (Nat.le_of_ble_eq_true rfl) d_Sv_addJoined_54 ⟨Nat.le_of_ble_eq_true rfl, Nat.le_of_ble_eq_true rfl⟩) (fun r M1 H locs hw hP hS => ?_)
      obtain ⟨rfl, rfl⟩ := hw
      refine lv_if_eq (tgt := 62) hx hb d_Sv_addJoined_57 (by decide) (fun c_57 => ?_) (fun c_57 => ?_)
      · have hnc : (rk_v (fun j => rk_num r.2 j || rk_ink r.2 (rk_tb Bd) j) (rk_wt r.2 u)) ∉ L := fun z => by
          rw [if_pos z] at c_57
          exact absurd c_57 (by decide)
        refine lv_iload_n hx hb d_Sv_addJoined_62 rfl (lv_at hl 4 rfl) ?_
        refine lv_aload_n hx hb d_Sv_addJoined_63 rfl (lv_at hl 2 rfl) ?_
        refine mw_get (v := .int (nI cs.length)) (ci := 5) (C := R_Sv) (T := T_Sv) (N := 4) J i_Sv hK hP (mw_ov_is (i := 1) ho.1 (by decide) hc1) rfl 3 (by decide) (hts _ k_132) (fun _ h9 => h9) rfl d_Sv_addJoined_64 ?_
        refine lv_icmp_lt (tgt := 80) hx hb d_Sv_addJoined_67 (by decide) (fun c_67 => ?_) (fun c_67 => ?_)
        · have c_67 : d < cs.length := (nI_ltI (by omega) (by omega)).mp c_67
          obtain ⟨m1, hm1⟩ : ∃ z, m0 = z + 1 := ⟨m0 - 1, by omega⟩
          have hdr := rk_colD_drop c_67
          have hcdd := hcd d c_67
          obtain ⟨c0, ec0⟩ : ∃ z, z = cs.getD d rk_col0 := ⟨_, rfl⟩
          rw [← ec0] at hdr hcdd
          rw [hdr] at hjn
          have hstep := rk_hd_jn hL0 hjn
          have hjs := rk_jn_step hjn
          have hKi := (hjn.2.2.1 c0 List.mem_cons_self).2.2
          obtain ⟨P, Kf, n, pr, tm⟩ := c0
          obtain ⟨src, K, pl, hko, hKf, hK8, hpp, -, hn3, hpr⟩ := hcdd
          have hKf : Kf = rk_tb K := hKf
          subst hKf
          obtain ⟨hk0, hk1, -, -⟩ := hko
          have hn3 : n ≤ 300 := hn3
          have hpr : ∀ i, i < n → pr i < 32768 := hpr
          have hpp : k_pat cI B src P := hpp
          have hKP : ∀ x, rk_tb K x = true → rk_in P x := hKi
          have hstep : ∀ z, rk_hd L0 r.2 ((P, rk_tb K, n, pr, tm) :: cs.drop (d + 1)) (rk_tb Bd) u z ↔ ∃ i, i < n ∧ rk_cons P (fun x => rk_tb K x && rk_tb Bd x) u (pr i) ∧ rk_hd L0 r.2 (cs.drop (d + 1)) (fun x => rk_tb Bd x || rk_tb K x) (rk_bind P (fun x => rk_tb K x && !rk_tb Bd x) (pr i) u) z := hstep
          rw [← hdr] at hstep
          have hjs : ∀ p, rk_jn L0 B0 u0 r.2 (cs.drop (d + 1)) (fun x => rk_tb Bd x || rk_tb K x) (rk_bind P (fun x => rk_tb K x && !rk_tb Bd x) p u) := hjs
          have srcp : ∀ c, ∃ b q, mw_ov B ad c 21 src = some (.inr (2, k_pf P b q)) := fun c => by
            obtain ⟨-, b, q, _, _, h, -⟩ := k_pat_mono hpp (k_fr ho c)
            exact ⟨b, q, h⟩
          have hKB : K &&& Bd < 256 := Nat.lt_of_le_of_lt Nat.and_le_left hK8
          have hk0 : cw (9 + 4 * d) = .inr (4, [.ref (ad (9 + 4 * d + 1)), .ref (ad (9 + 4 * d + 2)), .ref (ad (9 + 4 * d + 3)), .ref src, .int (nI K), .int (nI n)]) := hk0
          have hk1 : cw (9 + 4 * d + 1) = .inl (cI, 300, .inl (rk_nf pr)) := hk1
          have hoth : ∀ i, i ≠ 2 → i ≠ 3 → i ≠ 4 → i ≠ 8 → cw i = cw i := fun _ _ _ _ _ => rfl
          refine lv_aload_n hx hb d_Sv_addJoined_80 rfl (lv_at hl 2 rfl) ?_
          refine mw_get (v := .ref ca) (ci := 5) (C := R_Sv) (T := T_Sv) (N := 4) J i_Sv hK hP (mw_ov_is (i := 1) ho.1 (by decide) hc1) rfl 2 (by decide) (hts _ k_131) (fun _ h9 => h9) rfl d_Sv_addJoined_81 ?_
          refine lv_iload_n hx hb d_Sv_addJoined_84 rfl (lv_at hl 4 rfl) ?_
          refine mw_aaldN (k := d) (b := (ad (9 + 4 * d))) J hK hP 4 (mw_ov_fr ho.2 hca) rfl (by omega) (by decide) (hfa d (by omega)) d_Sv_addJoined_85 ?_
          refine lv_astore (lv' := [(6, .ref (ad (9 + 4 * d))), (5, .int (nI (rk_v (fun j => rk_num r.2 j || rk_ink r.2 (rk_tb Bd) j) (rk_wt r.2 u)))), (4, .int 1), (0, .ref (ad 1)), (1, .ref ra), (2, .int (nI d)), (3, .int (nI Bd))]) hx hb d_Sv_addJoined_86 hl (by decide) rfl (fun ls hl => ?_)
          refine lv_aload hx hb d_Sv_addJoined_88 (lv_at hl 0 rfl) ?_
          refine mw_get (v := .ref src) (ci := 4) (C := R_Co) (T := T_Co) (N := 6) J i_Co hK hP (mw_ov_is (i := (9 + 4 * d)) ho.1 (by omega) ((hoth _ (by omega) (by omega) (by omega) (by omega)).trans hk0)) rfl 3 (by decide) (hts _ k_110) (fun _ h9 => h9) rfl d_Sv_addJoined_90 ?_
          refine lv_aload hx hb d_Sv_addJoined_93 (lv_at hl 0 rfl) ?_
          refine mw_get (v := .int (nI K)) (ci := 4) (C := R_Co) (T := T_Co) (N := 6) J i_Co hK hP (mw_ov_is (i := (9 + 4 * d)) ho.1 (by omega) ((hoth _ (by omega) (by omega) (by omega) (by omega)).trans hk0)) rfl 4 (by decide) (hts _ k_112) (fun _ h9 => h9) rfl d_Sv_addJoined_95 ?_
          refine lv_iload_n hx hb d_Sv_addJoined_98 rfl (lv_at hl 6 rfl) ?_
          refine lv_iand hx hb d_Sv_addJoined_99 ?_
          refine mw_top (x' := nI (K &&& Bd)) (nx_and _ _) ?_
          refine mw_afterI hP hS hA (mw_runV (As := [.int (nI (K &&& Bd))]) (rest := []) J hK hZ hP hS hA (srcp _).choose_spec.choose_spec rfl (c_Pt_maskOf l D cI cZ cP cR cC tS _ (mw_ov B ad cw 21) src P (k_pat_mono hpp (k_fr ho _)) (K &&& Bd) hKB) (cwV 1 hts (mw_gV k_251 k_252 k_253 k_6 k_254) rfl rfl rfl (by decide +kernel) ⟨(by dsimp only; omega), (by dsimp only; omega)⟩) rfl hl.1 rfl (Nat.le_of_ble_eq_true rfl) d_Sv_addJoined_100 ⟨Nat.le_of_ble_eq_true rfl, Nat.le_of_ble_eq_true rfl⟩) (fun r M1 H locs hw hP hS => ?_)
          obtain ⟨rfl, rfl⟩ := hw
          refine lv_istore (lv' := [(7, .int (nI (rk_m (rk_ink P (rk_tb (K &&& Bd)))))), (6, .ref (ad (9 + 4 * d))), (5, .int (nI (rk_v (fun j => rk_num r.2 j || rk_ink r.2 (rk_tb Bd) j) (rk_wt r.2 u)))), (4, .int 1), (0, .ref (ad 1)), (1, .ref ra), (2, .int (nI d)), (3, .int (nI Bd))]) hx hb d_Sv_addJoined_103 hl (by decide) rfl (fun ls hl => ?_)
          refine lv_aload hx hb d_Sv_addJoined_105 (lv_at hl 1 rfl) ?_
          refine mw_get (v := .ref src) (ci := 4) (C := R_Co) (T := T_Co) (N := 6) J i_Co hK hP (mw_ov_is (i := (9 + 4 * d)) ho.1 (by omega) ((hoth _ (by omega) (by omega) (by omega) (by omega)).trans hk0)) rfl 3 (by decide) (hts _ k_110) (fun _ h9 => h9) rfl d_Sv_addJoined_107 ?_
          refine lv_aload hx hb d_Sv_addJoined_110 (lv_at hl 1 rfl) ?_
          refine mw_get (v := .int (nI K)) (ci := 4) (C := R_Co) (T := T_Co) (N := 6) J i_Co hK hP (mw_ov_is (i := (9 + 4 * d)) ho.1 (by omega) ((hoth _ (by omega) (by omega) (by omega) (by omega)).trans hk0)) rfl 4 (by decide) (hts _ k_112) (fun _ h9 => h9) rfl d_Sv_addJoined_112 ?_
          refine lv_iload_n hx hb d_Sv_addJoined_115 rfl (lv_at hl 7 rfl) ?_
          refine lv_iand hx hb d_Sv_addJoined_116 ?_
          refine mw_top (x' := nI (K &&& Bd)) (nx_and _ _) ?_
          refine lv_aload_n hx hb d_Sv_addJoined_117 rfl (lv_at hl 4 rfl) ?_
          refine mw_get (v := .ref (ad 8)) (ci := 5) (C := R_Sv) (T := T_Sv) (N := 4) J i_Sv hK hP (mw_ov_is (i := 1) ho.1 (by decide) hc1) rfl 1 (by decide) (hts _ k_130) (fun _ h9 => h9) rfl d_Sv_addJoined_118 ?_
          refine mw_afterI hP hS hA (mw_runV (As := [.int (nI (K &&& Bd)), .ref (ad 8)]) (rest := []) J hK hZ hP hS hA (srcp _).choose_spec.choose_spec rfl (c_Pt_filled l D cI cZ cP cR cC tS _ (mw_ov B ad cw 21) src P (k_pat_mono hpp (k_fr ho _)) (K &&& Bd) hKB (ad 8) u hu (mw_ov_is (i := 8) ho.1 (by decide) hc8)) (cwV 2 hts (mw_gV k_255 k_256 k_257 k_6 k_258) rfl rfl rfl (by decide +kernel) ⟨(by dsimp only; omega), (by dsimp only; omega)⟩) rfl hl.1 rfl (Nat.le_of_ble_eq_true rfl) d_Sv_addJoined_121 ⟨Nat.le_of_ble_eq_true rfl, Nat.le_of_ble_eq_true rfl⟩) (fun r M1 H locs hw hP hS => ?_)
          obtain ⟨rfl, rfl⟩ := hw
          refine lv_istore (lv' := [(8, .int (nI (rk_v (rk_ink P (rk_tb (K &&& Bd))) (fun j => u (rk_at P j - 32))))), (7, .int (nI (rk_m (rk_ink P (rk_tb (K &&& Bd)))))), (6, .ref (ad (9 + 4 * d))), (5, .int (nI (rk_v (fun j => rk_num r.2 j || rk_ink r.2 (rk_tb Bd) j) (rk_wt r.2 u)))), (4, .int 1), (0, .ref (ad 1)), (1, .ref ra), (2, .int (nI d)), (3, .int (nI Bd))]) hx hb d_Sv_addJoined_124 hl (by decide) rfl (fun ls hl => ?_)
          refine lv_iconst (v := 0) hx hb d_Sv_addJoined_126 (by decide) ?_
          refine mw_top (x' := nI 0) nI_0.symm ?_
          refine lv_istore (lv' := [(9, .int (nI 0)), (8, .int (nI (rk_v (rk_ink P (rk_tb (K &&& Bd))) (fun j => u (rk_at P j - 32))))), (7, .int (nI (rk_m (rk_ink P (rk_tb (K &&& Bd)))))), (6, .ref (ad (9 + 4 * d))), (5, .int (nI (rk_v (fun j => rk_num r.2 j || rk_ink r.2 (rk_tb Bd) j) (rk_wt r.2 u)))), (4, .int 1), (0, .ref (ad 1)), (1, .ref ra), (2, .int (nI d)), (3, .int (nI Bd))]) hx hb d_Sv_addJoined_127 hl (by decide) rfl (fun ls hl => ?_)
          refine mw_loop (W' := fun H locs ls => W p l e _ s m _ below meth c H locs _ _ _ (F0 m 129 ls [])) n (fun i H locs ls => ∃ (cx : Nat → va_E), ∃ (Nx : List Nat), ∃ (u1 : Nat → Nat), lv_has ls 10 [(0, .ref (ad 1)), (1, .ref ra), (2, .int (nI d)), (3, .int (nI Bd)), (4, .int 1), (5, .int (nI (rk_v (fun j => rk_num r.2 j || rk_ink r.2 (rk_tb Bd) j) (rk_wt r.2 u)))), (6, .ref (ad (9 + 4 * d))), (7, .int (nI (rk_m (rk_ink P (rk_tb (K &&& Bd)))))), (8, .int (nI (rk_v (rk_ink P (rk_tb (K &&& Bd))) (fun j => u (rk_at P j - 32))))), (9, .int (nI i))] ∧ (k_tr cI ad cx pm (L ++ Nx)) ∧ (k_sv cI cC B ad cx ca cs.length u1) ∧ (∀ x, rk_tb Bd x = true → u1 x = u x) ∧ (∀ i, i ≠ 2 → i ≠ 3 → i ≠ 4 → i ≠ 8 → cx i = cw i) ∧ (∀ z, z ∈ Nx → rk_hd L0 r.2 (cs.drop d) (rk_tb Bd) u z) ∧ (∀ i', i' < i → rk_cons P (fun x => rk_tb K x && rk_tb Bd x) u (pr i') → ∀ z, rk_hd L0 r.2 (cs.drop (d + 1)) (fun x => rk_tb Bd x || rk_tb K x) (rk_bind P (fun x => rk_tb K x && !rk_tb Bd x) (pr i') u) z → z ∈ L ++ Nx) ∧ mw_P D k_cl (mw_ov B ad cx 21) (mw_A (mw_ov B ad cw 21) s.heap.size) H ∧ va_S (mw_A (mw_ov B ad cw 21) s.heap.size) s.heap H locs) ?_ n 0 (by omega) (by omega) _ _ _ ⟨cw, [], u, lv_sub hl [6, 7, 8, 9, 5, 4, 3, 2, 1, 0] rfl, (by rw [List.append_nil]; exact ht), hsv, (fun _ _ => rfl), (fun _ _ _ _ _ => rfl), (fun z hz => absurd hz List.not_mem_nil), (fun i' h => absurd h (Nat.not_lt_zero i')), hP, hS⟩
          intro i H locs ls hi_129 hI ih_129
          obtain ⟨cx, Nx, u1, hl, ktx, ksx, hex, hoth, hNx, hdone, hP, hS⟩ := hI
          obtain ⟨hx1, hx8, hu1, -, -, -⟩ := id ksx
          obtain ⟨fx, wx, hx2, -⟩ := id ktx
          refine lv_iload hx hb d_Sv_addJoined_129 (lv_at hl 9 rfl) ?_
          refine lv_aload hx hb d_Sv_addJoined_131 (lv_at hl 6 rfl) ?_
          refine mw_get (v := .int (nI n)) (ci := 4) (C := R_Co) (T := T_Co) (N := 6) J i_Co hK hP (mw_ov_is (i := (9 + 4 * d)) ho.1 (by omega) ((hoth _ (by omega) (by omega) (by omega) (by omega)).trans hk0)) rfl 5 (by decide) (hts _ k_114) (fun _ h9 => h9) rfl d_Sv_addJoined_133 ?_
          refine lv_icmp_ge (tgt := 232) hx hb d_Sv_addJoined_136 (by decide) (fun c_136 => ?_) (fun c_136 => ?_)
          · have c_136 : n ≤ i := (nI_leI (by omega) (by omega)).mp c_136
            have hin : i = n := by omega
            refine lv_iconst (v := 1) hx hb d_Sv_addJoined_232 (by decide) ?_
            exact mw_zret J hr hlk rfl hP hS d_Sv_addJoined_233 (⟨cx, Nx, u1, rfl, ktx, ksx, hex, hoth, hNx, Or.inl ⟨rfl, fun z hz => by obtain ⟨j, h1, h2, h3⟩ := (hstep z).mp hz; exact hdone j (by omega) h2 z h3⟩⟩)
          · have c_136 : ¬ (n ≤ i) := fun z => c_136 ((nI_leI (by omega) (by omega)).mpr z)
            refine lv_aload hx hb d_Sv_addJoined_139 (lv_at hl 6 rfl) ?_
            refine mw_get (v := .ref (ad (9 + 4 * d + 1))) (ci := 4) (C := R_Co) (T := T_Co) (N := 6) J i_Co hK hP (mw_ov_is (i := (9 + 4 * d)) ho.1 (by omega) ((hoth _ (by omega) (by omega) (by omega) (by omega)).trans hk0)) rfl 0 (by decide) (hts _ k_105) (fun _ h9 => h9) rfl d_Sv_addJoined_141 ?_
            refine lv_iload hx hb d_Sv_addJoined_144 (lv_at hl 9 rfl) ?_
            refine mw_nald (k := i) J hK hP 0 (mw_ov_is (i := (9 + 4 * d + 1)) ho.1 (by omega) ((hoth _ (by omega) (by omega) (by omega) (by omega)).trans hk1)) rfl (by omega) (by decide) d_Sv_addJoined_146 ?_
            refine lv_iload hx hb d_Sv_addJoined_147 (lv_at hl 7 rfl) ?_
            refine lv_iand hx hb d_Sv_addJoined_149 ?_
            refine mw_top (x' := nI (pr i &&& rk_m (rk_ink P (rk_tb (K &&& Bd))))) (nx_and _ _) ?_
            refine lv_iload hx hb d_Sv_addJoined_150 (lv_at hl 8 rfl) ?_
            refine lv_icmp_eq (tgt := 158) hx hb d_Sv_addJoined_152 (by decide) (fun c_152 => ?_) (fun c_152 => ?_)
            · have c_152 : (pr i &&& rk_m (rk_ink P (rk_tb (K &&& Bd)))) = (rk_v (rk_ink P (rk_tb (K &&& Bd))) (fun j => u (rk_at P j - 32))) := (nI_eq (Nat.lt_of_le_of_lt Nat.and_le_left (by have := hpr i (by omega); omega)) (Nat.lt_trans (rk_v_lt (fun j _ => hu _)) (by decide))).mp c_152
              have hcn : rk_cons P (fun x => rk_tb K x && rk_tb Bd x) u (pr i) := by rw [← rk_tb_and]; exact (rk_cons_sel (hpr i (by omega)) hu).mp c_152
              refine lv_aload hx hb d_Sv_addJoined_158 (lv_at hl 6 rfl) ?_
              refine mw_get (v := .ref src) (ci := 4) (C := R_Co) (T := T_Co) (N := 6) J i_Co hK hP (mw_ov_is (i := (9 + 4 * d)) ho.1 (by omega) ((hoth _ (by omega) (by omega) (by omega) (by omega)).trans hk0)) rfl 3 (by decide) (hts _ k_110) (fun _ h9 => h9) rfl d_Sv_addJoined_160 ?_
              refine lv_aload hx hb d_Sv_addJoined_163 (lv_at hl 6 rfl) ?_
              refine mw_get (v := .ref (ad (9 + 4 * d + 1))) (ci := 4) (C := R_Co) (T := T_Co) (N := 6) J i_Co hK hP (mw_ov_is (i := (9 + 4 * d)) ho.1 (by omega) ((hoth _ (by omega) (by omega) (by omega) (by omega)).trans hk0)) rfl 0 (by decide) (hts _ k_105) (fun _ h9 => h9) rfl d_Sv_addJoined_165 ?_
              refine lv_iload hx hb d_Sv_addJoined_168 (lv_at hl 9 rfl) ?_
              refine mw_nald (k := i) J hK hP 0 (mw_ov_is (i := (9 + 4 * d + 1)) ho.1 (by omega) ((hoth _ (by omega) (by omega) (by omega) (by omega)).trans hk1)) rfl (by omega) (by decide) d_Sv_addJoined_170 ?_
              refine lv_aload hx hb d_Sv_addJoined_171 (lv_at hl 6 rfl) ?_
              refine mw_get (v := .int (nI K)) (ci := 4) (C := R_Co) (T := T_Co) (N := 6) J i_Co hK hP (mw_ov_is (i := (9 + 4 * d)) ho.1 (by omega) ((hoth _ (by omega) (by omega) (by omega) (by omega)).trans hk0)) rfl 4 (by decide) (hts _ k_112) (fun _ h9 => h9) rfl d_Sv_addJoined_173 ?_
              refine lv_iload_n hx hb d_Sv_addJoined_176 rfl (lv_at hl 3 rfl) ?_
              refine lv_iconst (v := (-1)) hx hb d_Sv_addJoined_177 (by decide) ?_
              refine lv_ixor hx hb d_Sv_addJoined_178 ?_
              refine lv_iand hx hb d_Sv_addJoined_179 ?_
              refine mw_top (x' := nI (rk_an K Bd)) (rk_an_i _ _) ?_
              refine lv_aload_n hx hb d_Sv_addJoined_180 rfl (lv_at hl 0 rfl) ?_
              refine mw_get (v := .ref (ad 8)) (ci := 5) (C := R_Sv) (T := T_Sv) (N := 4) J i_Sv hK hP (mw_ov_is (i := 1) ho.1 (by decide) hx1) rfl 1 (by decide) (hts _ k_130) (fun _ h9 => h9) rfl d_Sv_addJoined_181 ?_
              refine mw_afterV hP hS hA (mw_runV (As := [.int (nI (pr i)), .int (nI (rk_an K Bd)), .ref (ad 8)]) (rest := []) J hK hZ hP hS hA (srcp _).choose_spec.choose_spec rfl (c_Pt_bind l D cI cZ cP cR cC tS _ (mw_ov B ad cx 21) src P (k_pat_mono hpp (k_fr ho _)) (pr i) (hpr i (by omega)) (rk_an K Bd) (rk_an_lt hK8) (ad 8) u1 hu1 (mw_ov_is (i := 8) ho.1 (by decide) hx8)) (cwV 3 hts (mw_gV k_243 k_244 k_245 k_6 k_246) rfl rfl rfl (by decide +kernel) ⟨(by dsimp only; omega), (by dsimp only; omega)⟩) rfl hl.1 rfl (Nat.le_of_ble_eq_true rfl) d_Sv_addJoined_184 ⟨Nat.le_of_ble_eq_true rfl, Nat.le_of_ble_eq_true rfl⟩) (fun M1 H locs hw hP hS => ?_)
              obtain rfl := hw
              rw [mw_ov_set ho.1 (by decide)] at hP
              obtain ⟨u2, eu2⟩ : ∃ z, z = rk_bind P (rk_tb (rk_an K Bd)) (pr i) u1 := ⟨_, rfl⟩
              rw [← eu2] at hP
              have hu2 : rk_okV u2 := by rw [eu2]; exact rk_bind_ok hu1
              have he2 : ∀ x, (rk_tb Bd x || rk_tb K x) = true → u2 x = rk_bind P (fun x => rk_tb K x && !rk_tb Bd x) (pr i) u x := by rw [eu2, rk_tb_an]; exact rk_bind_ext hKP hex
              have he3 : ∀ x, rk_tb Bd x = true → u2 x = u x := fun x hx => by rw [he2 x (by simp [hx]), rk_bind_off (by simp [hx])]
              obtain ⟨cb, ecb⟩ : ∃ z : Nat → va_E, z = va_up cx 8 (.inl (cI, 8, .inl (rk_nf u2))) := ⟨_, rfl⟩
              rw [← ecb] at hP
              have hbo : ∀ z, z ≠ 8 → cb z = cx z := fun z hz => by rw [ecb, va_up_ne _ _ hz]
              have hb8 : cb 8 = .inl (cI, 8, .inl (rk_nf u2)) := by rw [ecb]; exact va_up_self _ _ _
              have ktb : k_tr cI ad cb pm (L ++ Nx) := by
                obtain ⟨fx, wx, a2, a3, a4, a5⟩ := ktx
                exact ⟨fx, wx, (hbo 2 (by decide)).trans a2, (hbo 3 (by decide)).trans a3, (hbo 4 (by decide)).trans a4, a5⟩
              have ksb : k_sv cI cC B ad cb ca cs.length u2 := ⟨(hbo 1 (by decide)).trans hx1, hb8, hu2, fa, hca, hfa⟩
              have hcdb : ∀ e, e < cs.length → k_cold cI B ad cb e (cs.getD e rk_col0) := fun e he => k_cold_same (hcd e he) (fun z hz => by rw [hbo _ (by omega)]; exact hoth _ (by omega) (by omega) (by omega) (by omega))
              have hjb : rk_jn L0 B0 u0 r.2 (cs.drop (d + 1)) (rk_tb (Bd ||| K)) u2 := by rw [rk_tb_or]; exact rk_jn_congr (hjs (pr i)) hu2 he2
              have hhb : ∀ z, rk_hd L0 r.2 (cs.drop (d + 1)) (rk_tb (Bd ||| K)) u2 z ↔ rk_hd L0 r.2 (cs.drop (d + 1)) (fun x => rk_tb Bd x || rk_tb K x) (rk_bind P (fun x => rk_tb K x && !rk_tb Bd x) (pr i) u) z := fun z => by rw [rk_tb_or]; exact rk_hd_congr he2 z
              refine lv_aload_n hx hb d_Sv_addJoined_187 rfl (lv_at hl 0 rfl) ?_
              refine lv_aload_n hx hb d_Sv_addJoined_188 rfl (lv_at hl 1 rfl) ?_
              refine lv_iload_n hx hb d_Sv_addJoined_189 rfl (lv_at hl 2 rfl) ?_
              refine lv_iconst (v := 1) hx hb d_Sv_addJoined_190 (by decide) ?_
              refine mw_top (x' := nI 1) rfl ?_
              refine lv_iadd hx hb d_Sv_addJoined_191 ?_
              refine mw_top (x' := nI (d + 1)) (nI_add _ _) ?_
              refine lv_iload_n hx hb d_Sv_addJoined_192 rfl (lv_at hl 3 rfl) ?_
              refine lv_aload hx hb d_Sv_addJoined_193 (lv_at hl 6 rfl) ?_
              refine mw_get (v := .int (nI K)) (ci := 4) (C := R_Co) (T := T_Co) (N := 6) J i_Co hK hP (mw_ov_is (i := (9 + 4 * d)) ho.1 (by omega) ((hbo _ (by omega)).trans ((hoth _ (by omega) (by omega) (by omega) (by omega)).trans hk0))) rfl 4 (by decide) (hts _ k_112) (fun _ h9 => h9) rfl d_Sv_addJoined_195 ?_
              refine lv_ior hx hb d_Sv_addJoined_198 ?_
              refine mw_top (x' := nI (Bd ||| K)) (nx_or _ _) ?_
              refine mw_afterI hP hS hA (mw_runS (As := [.ref (ad 1), .ref ra, .int (nI (d + 1)), .int (nI (Bd ||| K))]) (rest := []) J hK hZ hP hS hA (IH m1 hm1 _ B ad cb pm (L ++ Nx) ho hpm ktb ca cs u2 ksb hcs3 hcdb ra r hrule (d + 1) (Bd ||| K) (rk_or_lt hBd hK8) (by omega) L0 hL0 B0 u0 hjb) (cwS 4 hts (mw_gS k_278 k_279 k_2 k_280) rfl rfl rfl (by decide +kernel) ⟨(by dsimp only; omega), (by dsimp only; omega)⟩) rfl hl.1 rfl (Nat.le_of_ble_eq_true rfl) d_Sv_addJoined_199 ⟨Nat.le_of_ble_eq_true rfl, Nat.le_of_ble_eq_true rfl⟩) (fun rr M1 H locs hw hP hS => ?_)
              obtain ⟨cy, Ny, u3, rfl, kty, ksy, hey0, hoy0, hNy0, hcase⟩ := hw
              rw [List.append_assoc] at kty hcase
              have hey : ∀ x, rk_tb Bd x = true → u3 x = u x := fun x hx => by rw [hey0 x (by rw [rk_tb_or]; simp [hx]), he3 x hx]
              have hoy : ∀ i, i ≠ 2 → i ≠ 3 → i ≠ 4 → i ≠ 8 → cy i = cw i := fun z h2 h3 h4 h8 => by rw [hoy0 z h2 h3 h4 h8, hbo z h8]; exact hoth z h2 h3 h4 h8
              have hNy : ∀ z, z ∈ Nx ++ Ny → rk_hd L0 r.2 (cs.drop d) (rk_tb Bd) u z := fun z hz => (List.mem_append.mp hz).elim (hNx z) (fun h => (hstep z).mpr ⟨i, by omega, hcn, (hhb z).mp (hNy0 z h)⟩)
              obtain ⟨hy1, hy8, hu3, -, -, -⟩ := id ksy
              obtain ⟨fy, wy, hy2, -⟩ := id kty
              refine lv_if_ne (tgt := 207) hx hb d_Sv_addJoined_202 (by decide) (fun c_202 => ?_) (fun c_202 => ?_)
              · have hall : ∀ z, rk_hd L0 r.2 (cs.drop (d + 1)) (fun x => rk_tb Bd x || rk_tb K x) (rk_bind P (fun x => rk_tb K x && !rk_tb Bd x) (pr i) u) z → z ∈ L ++ (Nx ++ Ny) := fun z hz => by
                  rcases hcase with ⟨_, h⟩ | ⟨h, _⟩
                  · exact h z ((hhb z).mpr hz)
                  · exact absurd h c_202
                have hdo2 : ∀ i', i' < i → rk_cons P (fun x => rk_tb K x && rk_tb Bd x) u (pr i') → ∀ z, rk_hd L0 r.2 (cs.drop (d + 1)) (fun x => rk_tb Bd x || rk_tb K x) (rk_bind P (fun x => rk_tb K x && !rk_tb Bd x) (pr i') u) z → z ∈ L ++ (Nx ++ Ny) := fun i' hi' hc z hz => by
                  have := hdone i' hi' hc z hz
                  rw [← List.append_assoc]
                  exact List.mem_append_left _ this
                refine lv_iload hx hb d_Sv_addJoined_207 (lv_at hl 4 rfl) ?_
                refine lv_if_eq (tgt := 226) hx hb d_Sv_addJoined_209 (by decide) (fun c_209 => ?_) (fun c_209 => ?_)
                · exact absurd c_209 (by decide)
                · refine lv_aload_n hx hb d_Sv_addJoined_212 rfl (lv_at hl 0 rfl) ?_
                  refine mw_get (v := .ref (ad 2)) (ci := 5) (C := R_Sv) (T := T_Sv) (N := 4) J i_Sv hK hP (mw_ov_is (i := 1) ho.1 (by decide) hy1) rfl 0 (by decide) (hts _ k_128) (fun _ h9 => h9) rfl d_Sv_addJoined_213 ?_
                  refine lv_iload hx hb d_Sv_addJoined_216 (lv_at hl 5 rfl) ?_
                  refine mw_afterI hP hS hA (mw_runV (As := [.int (nI (rk_v (fun j => rk_num r.2 j || rk_ink r.2 (rk_tb Bd) j) (rk_wt r.2 u)))]) (rest := []) J hK hZ hP hS hA (mw_ov_is (i := 2) ho.1 (by decide) hy2) rfl (c_Tr_has l D cI cZ cP cR cC tS _ B ad cy pm (L ++ (Nx ++ Ny)) ho hpm kty (rk_v (fun j => rk_num r.2 j || rk_ink r.2 (rk_tb Bd) j) (rk_wt r.2 u)) (rk_v_lt (fun j _ => rk_wt_lt hu j))) (cwV 1 hts (mw_gV k_281 k_208 k_209 k_3 k_210) rfl rfl rfl (by decide +kernel) ⟨(by dsimp only; omega), (by dsimp only; omega)⟩) rfl hl.1 rfl (Nat.le_of_ble_eq_true rfl) d_Sv_addJoined_218 ⟨Nat.le_of_ble_eq_true rfl, Nat.le_of_ble_eq_true rfl⟩) (fun r M1 H locs hw hP hS => ?_)
                  obtain ⟨rfl, rfl⟩ := hw
                  refine lv_if_eq (tgt := 226) hx hb d_Sv_addJoined_221 (by decide) (fun c_221 => ?_) (fun c_221 => ?_)
                  · refine lv_iinc (v := nI (i + 1)) (lv' := [(9, .int (nI (i + 1))), (0, .ref (ad 1)), (1, .ref ra), (2, .int (nI d)), (3, .int (nI Bd)), (4, .int 1), (5, .int (nI (rk_v (fun j => rk_num r.2 j || rk_ink r.2 (rk_tb Bd) j) (rk_wt r.2 u)))), (6, .ref (ad (9 + 4 * d))), (7, .int (nI (rk_m (rk_ink P (rk_tb (K &&& Bd)))))), (8, .int (nI (rk_v (rk_ink P (rk_tb (K &&& Bd))) (fun j => u (rk_at P j - 32)))))]) hx hb d_Sv_addJoined_226 hl (k := 9) rfl (nI_1 i) (by decide) rfl (fun ls hl => ?_)
                    refine lv_goto (tgt := 129) hx hb d_Sv_addJoined_229 (by decide) ?_
                    exact ih_129 _ _ _ (by omega) ⟨cy, (Nx ++ Ny), u3, lv_sub hl [1, 2, 3, 4, 5, 6, 7, 8, 9, 0] rfl, kty, ksy, hey, hoy, hNy, (lt_s hdo2 (fun _ z hz => hall z hz)), hP, hS⟩
                  · have hyc : (rk_v (fun j => rk_num r.2 j || rk_ink r.2 (rk_tb Bd) j) (rk_wt r.2 u)) ∈ L ++ (Nx ++ Ny) := Classical.byContradiction fun z => c_221 (if_neg z)
                    refine lv_iconst (v := 1) hx hb d_Sv_addJoined_224 (by decide) ?_
                    exact mw_zret J hr hlk rfl hP hS d_Sv_addJoined_225 (⟨cy, Nx ++ Ny, u3, rfl, kty, ksy, hey, hoy, hNy, Or.inl ⟨rfl, fun z hz => by rw [rk_hd_known hkn hz, ← hcode]; exact hyc⟩⟩)
              · have hz0 : (L ++ (Nx ++ Ny)).length = 300 ∧ ∃ z, rk_hd L0 r.2 (cs.drop d) (rk_tb Bd) u z ∧ z ∉ L ++ (Nx ++ Ny) := by
                  rcases hcase with ⟨h, _⟩ | ⟨_, h, z, hz, hn⟩
                  · rw [h] at c_202
                    exact absurd c_202 (by decide)
                  · exact ⟨h, z, (hstep z).mpr ⟨i, by omega, hcn, (hhb z).mp hz⟩, hn⟩
                refine lv_iconst (v := 0) hx hb d_Sv_addJoined_205 (by decide) ?_
                exact mw_zret J hr hlk rfl hP hS d_Sv_addJoined_206 (⟨cy, Nx ++ Ny, u3, rfl, kty, ksy, hey, hoy, hNy, Or.inr ⟨rfl, hz0⟩⟩)
            · have c_152 : ¬ ((pr i &&& rk_m (rk_ink P (rk_tb (K &&& Bd)))) = (rk_v (rk_ink P (rk_tb (K &&& Bd))) (fun j => u (rk_at P j - 32)))) := fun z => c_152 ((nI_eq (Nat.lt_of_le_of_lt Nat.and_le_left (by have := hpr i (by omega); omega)) (Nat.lt_trans (rk_v_lt (fun j _ => hu _)) (by decide))).mpr z)
              have hcn : ¬ rk_cons P (fun x => rk_tb K x && rk_tb Bd x) u (pr i) := fun z => c_152 ((rk_cons_sel (hpr i (by omega)) hu).mpr (by rw [rk_tb_and]; exact z))
              refine lv_goto (tgt := 226) hx hb d_Sv_addJoined_155 (by decide) ?_
              refine lv_iinc (v := nI (i + 1)) (lv' := [(9, .int (nI (i + 1))), (0, .ref (ad 1)), (1, .ref ra), (2, .int (nI d)), (3, .int (nI Bd)), (4, .int 1), (5, .int (nI (rk_v (fun j => rk_num r.2 j || rk_ink r.2 (rk_tb Bd) j) (rk_wt r.2 u)))), (6, .ref (ad (9 + 4 * d))), (7, .int (nI (rk_m (rk_ink P (rk_tb (K &&& Bd)))))), (8, .int (nI (rk_v (rk_ink P (rk_tb (K &&& Bd))) (fun j => u (rk_at P j - 32)))))]) hx hb d_Sv_addJoined_226 hl (k := 9) rfl (nI_1 i) (by decide) rfl (fun ls hl => ?_)
              refine lv_goto (tgt := 129) hx hb d_Sv_addJoined_229 (by decide) ?_
              exact ih_129 _ _ _ (by omega) ⟨cx, Nx, u1, lv_sub hl [1, 2, 3, 4, 5, 6, 7, 8, 9, 0] rfl, ktx, ksx, hex, hoth, hNx, (lt_s hdone (fun z => absurd z hcn)), hP, hS⟩
        · have c_67 : ¬ (d < cs.length) := fun z => c_67 ((nI_ltI (by omega) (by omega)).mpr z)
          have hdr : cs.drop d = [] := List.drop_eq_nil_of_le (by omega)
          rw [hdr] at hjn
          have hkn2 : ∀ x, rk_in r.2 x → rk_tb Bd x = true := fun x hx => (hjn.2.2.2.2.2.2 x hx).elim id (fun ⟨c, hc, _⟩ => absurd hc List.not_mem_nil)
          have hnil := fun z => rk_hd_nil (L := L0) (B := rk_tb Bd) hu hkn z
          refine lv_aload_n hx hb d_Sv_addJoined_70 rfl (lv_at hl 2 rfl) ?_
          refine mw_get (v := .ref (ad 2)) (ci := 5) (C := R_Sv) (T := T_Sv) (N := 4) J i_Sv hK hP (mw_ov_is (i := 1) ho.1 (by decide) hc1) rfl 0 (by decide) (hts _ k_128) (fun _ h9 => h9) rfl d_Sv_addJoined_71 ?_
          refine lv_iload hx hb d_Sv_addJoined_74 (lv_at hl 0 rfl) ?_
          refine mw_afterI hP hS hA (mw_runV (As := [.int (nI (rk_v (fun j => rk_num r.2 j || rk_ink r.2 (rk_tb Bd) j) (rk_wt r.2 u)))]) (rest := []) J hK hZ hP hS hA (mw_ov_is (i := 2) ho.1 (by decide) hc2) rfl (c_Tr_add l D cI cZ cP cR cC tS _ B ad cw pm L ho hpm ht (rk_v (fun j => rk_num r.2 j || rk_ink r.2 (rk_tb Bd) j) (rk_wt r.2 u)) (rk_v_lt (fun j _ => rk_wt_lt hu j)) hnc) (cwV 1 hts (mw_gV k_282 k_217 k_218 k_3 k_219) rfl rfl rfl (by decide +kernel) ⟨(by dsimp only; omega), (by dsimp only; omega)⟩) rfl hl.1 rfl (Nat.le_of_ble_eq_true rfl) d_Sv_addJoined_76 ⟨Nat.le_of_ble_eq_true rfl, Nat.le_of_ble_eq_true rfl⟩) (fun rr M1 H locs hw hP hS => ?_)
          refine mw_zret J hr hlk (by rcases hw with ⟨_, h, _⟩ | ⟨_, h, _⟩ <;> rw [h] <;> rfl) hP hS d_Sv_addJoined_79 (?_)
          rcases hw with ⟨h1, h2, cz, rfl, ktz, hoz⟩ | ⟨h1, h2, rfl⟩
          · refine ⟨cz, [(rk_v (fun j => rk_num r.2 j || rk_ink r.2 (rk_tb Bd) j) (rk_wt r.2 u))], u, rfl, ktz, ⟨(hoz 1 (by decide) (by decide) (by decide)).trans hc1, (hoz 8 (by decide) (by decide) (by decide)).trans hc8, hu, fa, hca, hfa⟩, fun _ _ => rfl, fun i h2 h3 h4 _ => hoz i h2 h3 h4, fun z hz => ?_, Or.inl ⟨h2, fun z hz => ?_⟩⟩
            · rw [hdr, hnil z, List.mem_singleton.mp hz, hcode]
            · rw [hdr, hnil z, ← hcode] at hz
              rw [hz]
              simp
          · refine ⟨cw, [], u, rfl, by rw [List.append_nil]; exact ht, hsv, fun _ _ => rfl, fun _ _ _ _ _ => rfl, fun z hz => absurd hz List.not_mem_nil, Or.inr ⟨h2, by rw [List.append_nil]; exact h1, (rk_v (fun j => rk_num r.2 j || rk_ink r.2 (rk_tb Bd) j) (rk_wt r.2 u)), ?_, by rw [List.append_nil]; exact hnc⟩⟩
            rw [hdr, hnil, hcode]
      · have hyc : (rk_v (fun j => rk_num r.2 j || rk_ink r.2 (rk_tb Bd) j) (rk_wt r.2 u)) ∈ L := Classical.byContradiction fun z => c_57 (if_neg z)
        refine lv_iconst (v := 1) hx hb d_Sv_addJoined_60 (by decide) ?_
        exact mw_zret J hr hlk rfl hP hS d_Sv_addJoined_61 (⟨cw, [], u, rfl, by rw [List.append_nil]; exact ht, hsv, fun _ _ => rfl, fun _ _ _ _ _ => rfl, fun z hz => absurd hz List.not_mem_nil, Or.inl ⟨rfl, fun z hz => by rw [List.append_nil, rk_hd_known hkn hz, ← hcode]; exact hyc⟩⟩)
theorem c_Sv_addj (l : Launch) (D : va_G) (cI cZ cP cR cC : ClassId) (tS : Nat) : ∀ m0, k_addj l D cI cZ cP cR cC tS m0
  | 0 => c_Sv_addj_step l D cI cZ cP cR cC tS 0 (fun m1 h => absurd h (by omega))
  | m0 + 1 => c_Sv_addj_step l D cI cZ cP cR cC tS (m0 + 1) (fun m1 h => by
    have e : m1 = m0 := by omega
    rw [e]
    exact c_Sv_addj l D cI cZ cP cR cC tS m0)
