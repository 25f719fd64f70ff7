/-! Solver.countJoined, by induction on the columns that are left -/
/-- what is said of countJoined with m0 columns left -/
def k_count (l : Launch) (D : va_G) (cI cZ cP cR cC : ClassId) (tS : Nat) (m0 : Nat) : Prop := ∀ (sz : Nat) (B : mw_M) (ad : Nat → Nat) (cw : Nat → va_E) (ho : k_ov B ad) (ca : Nat) (cs : List rk_Col) (u : Nat → Nat) (hsv : k_sv cI cC B ad cw ca cs.length u) (hcs3 : cs.length ≤ 3) (hcd : ∀ e, e < cs.length → k_cold cI B ad cw e (cs.getD e rk_col0)) (hKi : ∀ c, c ∈ cs → ∀ x, c.2.1 x = true → rk_in c.1 x) (d Bd : Nat) (hBd : Bd < 256) (hdm : d + m0 = cs.length), Met l y_Sv_countJoined (.code y_Sv_countJoined b_Sv_countJoined 8 (some .int) :: gw) { frames := m0 + 1, cells := 0, slots := 0, locals := 27 * m0 + 24 } (va_Pc [.ref (ad 1), .int (nI d), .int (nI Bd)] (mw_B D k_cl (k_tys cI cZ cP cR cC) (k_g tS) (mw_ov B ad cw 21) sz)) (va_Qi (fun (rr : Int32) (M1 : mw_M) => rr = nI (rk_cj (cs.drop d) (rk_tb Bd) u) ∧ ∃ u1, M1 = mw_ov B ad (va_up cw 8 (.inl (cI, 8, .inl (rk_nf u1)))) 21 ∧ rk_okV u1 ∧ ∀ x, rk_tb Bd x = true → u1 x = u x) (mw_E D k_cl (mw_ov B ad cw 21) sz) (mw_A (mw_ov B ad cw 21) sz)) 0 0 (mw_A (mw_ov B ad cw 21) sz)
theorem va_up_same {c : Nat → va_E} {i : Nat} {e : va_E} (h : c i = e) : va_up c i e = c := by
  funext j
  by_cases hj : j = i
  · rw [hj, va_up_self, h]
  · rw [va_up_ne _ _ hj]
set_option maxHeartbeats 4000000 in
set_option maxRecDepth 100000 in
theorem c_Sv_count_step (l : Launch) (D : va_G) (cI cZ cP cR cC : ClassId) (tS : Nat) (m0 : Nat) (IH : ∀ m1, m0 = m1 + 1 → k_count l D cI cZ cP cR cC tS m1) : k_count l D cI cZ cP cR cC tS m0 := by
  intro sz B ad cw ho ca cs u hsv hcs3 hcd hKi d Bd hBd hdm
  refine mw_met (by decide) rfl (Nat.le_of_ble_eq_true rfl) ?_
  intro p e s m below meth c hsz J hr hlk hnm hK hZ hP hS hA ls hl
  subst hsz
  have hx := J.1
  have hb := J.2.1
  have hts := J.2.2.2.2
  have hl : lv_has ls 8 [(0, .ref (ad 1)), (1, .int (nI d)), (2, .int (nI Bd))] := hl
  obtain ⟨hc1, hc8, hu, fa, hca, hfa⟩ := hsv
  refine lv_iload_n hx hb d_Sv_countJoined_0 rfl (lv_at hl 1 rfl) ?_
  refine lv_aload_n hx hb d_Sv_countJoined_1 rfl (lv_at hl 0 rfl) ?_
  refine mw_get (v := .int (nI cs.length)) (ci := 5) (C := R_Sv) (T := T_Sv) (N := 4) J i_Sv hK hP (mw_ov_is (i := 1) ho.1 (by decide) hc1) rfl 3 (by decide) (hts _ k_132) (fun _ h9 => h9) rfl d_Sv_countJoined_2 ?_
  refine lv_icmp_lt (tgt := 10) hx hb d_Sv_countJoined_5 (by decide) (fun c_5 => ?_) (fun c_5 => ?_)
  · have c_5 : d < cs.length := (nI_ltI (by omega) (by omega)).mp c_5
    obtain ⟨m1, hm1⟩ : ∃ z, m0 = z + 1 := ⟨m0 - 1, by omega⟩
    have hcm := rk_colD_mem c_5
    have hdr := rk_colD_drop c_5
    have hcdd := hcd d c_5
    obtain ⟨c0, ec0⟩ : ∃ z, z = cs.getD d rk_col0 := ⟨_, rfl⟩
    rw [← ec0] at hcm hdr hcdd
    obtain ⟨P, Kf, n, pr, tm⟩ := c0
    obtain ⟨src, K, pl, hko, hKf, hK8, hpp, -, hn3, hpr⟩ := hcdd
    have hKf : Kf = rk_tb K := hKf
    subst hKf
    obtain ⟨hk0, hk1, hk2, -⟩ := hko
    have hn3 : n ≤ 300 := hn3
    have hpr : ∀ i, i < n → pr i < 32768 := hpr
    have hpp : k_pat cI B src P := hpp
    have hKP : ∀ x, rk_tb K x = true → rk_in P x := hKi _ hcm
    have srcp : ∀ c, ∃ b q, mw_ov B ad c 21 src = some (.inr (2, k_pf P b q)) := fun c => by
      obtain ⟨-, b, q, _, _, h, -⟩ := k_pat_mono hpp (k_fr ho c)
      exact ⟨b, q, h⟩
    have hKB : K &&& Bd < 256 := Nat.lt_of_le_of_lt Nat.and_le_left hK8
    have hk0 : cw (9 + 4 * d) = .inr (4, [.ref (ad (9 + 4 * d + 1)), .ref (ad (9 + 4 * d + 2)), .ref (ad (9 + 4 * d + 3)), .ref src, .int (nI K), .int (nI n)]) := hk0
    have hk1 : cw (9 + 4 * d + 1) = .inl (cI, 300, .inl (rk_nf pr)) := hk1
    have hk2 : cw (9 + 4 * d + 2) = .inl (cI, 300, .inl (rk_nf tm)) := hk2
    refine lv_aload_n hx hb d_Sv_countJoined_10 rfl (lv_at hl 0 rfl) ?_
    refine mw_get (v := .ref ca) (ci := 5) (C := R_Sv) (T := T_Sv) (N := 4) J i_Sv hK hP (mw_ov_is (i := 1) ho.1 (by decide) hc1) rfl 2 (by decide) (hts _ k_131) (fun _ h9 => h9) rfl d_Sv_countJoined_11 ?_
    refine lv_iload_n hx hb d_Sv_countJoined_14 rfl (lv_at hl 1 rfl) ?_
    refine mw_aaldN (k := d) (b := (ad (9 + 4 * d))) J hK hP 4 (mw_ov_fr ho.2 hca) rfl (by omega) (by decide) (hfa d (by omega)) d_Sv_countJoined_15 ?_
    refine lv_astore_n (lv' := [(3, .ref (ad (9 + 4 * d))), (0, .ref (ad 1)), (1, .int (nI d)), (2, .int (nI Bd))]) hx hb d_Sv_countJoined_16 rfl hl (by decide) rfl (fun ls hl => ?_)
    refine lv_aload_n hx hb d_Sv_countJoined_17 rfl (lv_at hl 0 rfl) ?_
    refine mw_get (v := .ref src) (ci := 4) (C := R_Co) (T := T_Co) (N := 6) J i_Co hK hP (mw_ov_is (i := (9 + 4 * d)) ho.1 (by omega) hk0) rfl 3 (by decide) (hts _ k_110) (fun _ h9 => h9) rfl d_Sv_countJoined_18 ?_
    refine lv_aload_n hx hb d_Sv_countJoined_21 rfl (lv_at hl 0 rfl) ?_
    refine mw_get (v := .int (nI K)) (ci := 4) (C := R_Co) (T := T_Co) (N := 6) J i_Co hK hP (mw_ov_is (i := (9 + 4 * d)) ho.1 (by omega) hk0) rfl 4 (by decide) (hts _ k_112) (fun _ h9 => h9) rfl d_Sv_countJoined_22 ?_
    refine lv_iload_n hx hb d_Sv_countJoined_25 rfl (lv_at hl 3 rfl) ?_
    refine lv_iand hx hb d_Sv_countJoined_26 ?_
    refine mw_top (x' := nI (K &&& Bd)) (nx_and _ _) ?_
    refine mw_afterI hP hS hA (mw_runV (As := [.int (nI (K &&& Bd))]) (rest := []) J hK hZ hP hS hA (srcp _).choose_spec.choose_spec rfl (c_Pt_maskOf l D cI cZ cP cR cC tS _ (mw_ov B ad cw 21) src P (k_pat_mono hpp (k_fr ho _)) (K &&& Bd) hKB) (cwV 1 hts (mw_gV k_251 k_252 k_253 k_6 k_254) rfl rfl rfl (by decide +kernel) ⟨(by dsimp only; omega), (by dsimp only; omega)⟩) rfl hl.1 rfl (Nat.le_of_ble_eq_true rfl) d_Sv_countJoined_27 ⟨Nat.le_of_ble_eq_true rfl, Nat.le_of_ble_eq_true rfl⟩) (fun r M1 H locs hw hP hS => ?_)
    obtain ⟨rfl, rfl⟩ := hw
    refine lv_istore (lv' := [(4, .int (nI (rk_m (rk_ink P (rk_tb (K &&& Bd)))))), (3, .ref (ad (9 + 4 * d))), (0, .ref (ad 1)), (1, .int (nI d)), (2, .int (nI Bd))]) hx hb d_Sv_countJoined_30 hl (by decide) rfl (fun ls hl => ?_)
    refine lv_aload_n hx hb d_Sv_countJoined_32 rfl (lv_at hl 1 rfl) ?_
    refine mw_get (v := .ref src) (ci := 4) (C := R_Co) (T := T_Co) (N := 6) J i_Co hK hP (mw_ov_is (i := (9 + 4 * d)) ho.1 (by omega) hk0) rfl 3 (by decide) (hts _ k_110) (fun _ h9 => h9) rfl d_Sv_countJoined_33 ?_
    refine lv_aload_n hx hb d_Sv_countJoined_36 rfl (lv_at hl 1 rfl) ?_
    refine mw_get (v := .int (nI K)) (ci := 4) (C := R_Co) (T := T_Co) (N := 6) J i_Co hK hP (mw_ov_is (i := (9 + 4 * d)) ho.1 (by omega) hk0) rfl 4 (by decide) (hts _ k_112) (fun _ h9 => h9) rfl d_Sv_countJoined_37 ?_
    refine lv_iload_n hx hb d_Sv_countJoined_40 rfl (lv_at hl 4 rfl) ?_
    refine lv_iand hx hb d_Sv_countJoined_41 ?_
    refine mw_top (x' := nI (K &&& Bd)) (nx_and _ _) ?_
    refine lv_aload_n hx hb d_Sv_countJoined_42 rfl (lv_at hl 2 rfl) ?_
    refine mw_get (v := .ref (ad 8)) (ci := 5) (C := R_Sv) (T := T_Sv) (N := 4) J i_Sv hK hP (mw_ov_is (i := 1) ho.1 (by decide) hc1) rfl 1 (by decide) (hts _ k_130) (fun _ h9 => h9) rfl d_Sv_countJoined_43 ?_
    refine mw_afterI hP hS hA (mw_runV (As := [.int (nI (K &&& Bd)), .ref (ad 8)]) (rest := []) J hK hZ hP hS hA (srcp _).choose_spec.choose_spec rfl (c_Pt_filled l D cI cZ cP cR cC tS _ (mw_ov B ad cw 21) src P (k_pat_mono hpp (k_fr ho _)) (K &&& Bd) hKB (ad 8) u hu (mw_ov_is (i := 8) ho.1 (by decide) hc8)) (cwV 2 hts (mw_gV k_255 k_256 k_257 k_6 k_258) rfl rfl rfl (by decide +kernel) ⟨(by dsimp only; omega), (by dsimp only; omega)⟩) rfl hl.1 rfl (Nat.le_of_ble_eq_true rfl) d_Sv_countJoined_46 ⟨Nat.le_of_ble_eq_true rfl, Nat.le_of_ble_eq_true rfl⟩) (fun r M1 H locs hw hP hS => ?_)
    obtain ⟨rfl, rfl⟩ := hw
    refine lv_istore (lv' := [(5, .int (nI (rk_v (rk_ink P (rk_tb (K &&& Bd))) (fun j => u (rk_at P j - 32))))), (4, .int (nI (rk_m (rk_ink P (rk_tb (K &&& Bd)))))), (3, .ref (ad (9 + 4 * d))), (0, .ref (ad 1)), (1, .int (nI d)), (2, .int (nI Bd))]) hx hb d_Sv_countJoined_49 hl (by decide) rfl (fun ls hl => ?_)
    refine lv_iconst (v := 0) hx hb d_Sv_countJoined_51 (by decide) ?_
    refine mw_top (x' := nI (rk_sum (List.range 0) (fun i => tm i * rk_if (rk_cons P (fun x => rk_tb K x && rk_tb Bd x) u (pr i)) (rk_cj (cs.drop (d + 1)) (fun x => rk_tb Bd x || rk_tb K x) (rk_bind P (fun x => rk_tb K x && !rk_tb Bd x) (pr i) u))))) nI_0.symm ?_
    refine lv_istore (lv' := [(6, .int (nI (rk_sum (List.range 0) (fun i => tm i * rk_if (rk_cons P (fun x => rk_tb K x && rk_tb Bd x) u (pr i)) (rk_cj (cs.drop (d + 1)) (fun x => rk_tb Bd x || rk_tb K x) (rk_bind P (fun x => rk_tb K x && !rk_tb Bd x) (pr i) u)))))), (5, .int (nI (rk_v (rk_ink P (rk_tb (K &&& Bd))) (fun j => u (rk_at P j - 32))))), (4, .int (nI (rk_m (rk_ink P (rk_tb (K &&& Bd)))))), (3, .ref (ad (9 + 4 * d))), (0, .ref (ad 1)), (1, .int (nI d)), (2, .int (nI Bd))]) hx hb d_Sv_countJoined_52 hl (by decide) rfl (fun ls hl => ?_)
    have hP : mw_P D k_cl (mw_ov B ad (va_up cw 8 (.inl (cI, 8, .inl (rk_nf u)))) 21) (mw_A (mw_ov B ad cw 21) s.heap.size) H := by
      rw [va_up_same hc8]
      exact hP
    refine lv_iconst (v := 0) hx hb d_Sv_countJoined_54 (by decide) ?_
    refine mw_top (x' := nI 0) nI_0.symm ?_
    refine lv_istore (lv' := [(7, .int (nI 0)), (6, .int (nI (rk_sum (List.range 0) (fun i => tm i * rk_if (rk_cons P (fun x => rk_tb K x && rk_tb Bd x) u (pr i)) (rk_cj (cs.drop (d + 1)) (fun x => rk_tb Bd x || rk_tb K x) (rk_bind P (fun x => rk_tb K x && !rk_tb Bd x) (pr i) u)))))), (5, .int (nI (rk_v (rk_ink P (rk_tb (K &&& Bd))) (fun j => u (rk_at P j - 32))))), (4, .int (nI (rk_m (rk_ink P (rk_tb (K &&& Bd)))))), (3, .ref (ad (9 + 4 * d))), (0, .ref (ad 1)), (1, .int (nI d)), (2, .int (nI Bd))]) hx hb d_Sv_countJoined_55 hl (by decide) rfl (fun ls hl => ?_)
    refine mw_loop (W' := fun H locs ls => W p l e _ s m _ below meth c H locs _ _ _ (F0 m 57 ls [])) n (fun i H locs ls => ∃ (u1 : Nat → Nat), lv_has ls 8 [(0, .ref (ad 1)), (1, .int (nI d)), (2, .int (nI Bd)), (3, .ref (ad (9 + 4 * d))), (4, .int (nI (rk_m (rk_ink P (rk_tb (K &&& Bd)))))), (5, .int (nI (rk_v (rk_ink P (rk_tb (K &&& Bd))) (fun j => u (rk_at P j - 32))))), (6, .int (nI (rk_sum (List.range i) (fun i => tm i * rk_if (rk_cons P (fun x => rk_tb K x && rk_tb Bd x) u (pr i)) (rk_cj (cs.drop (d + 1)) (fun x => rk_tb Bd x || rk_tb K x) (rk_bind P (fun x => rk_tb K x && !rk_tb Bd x) (pr i) u)))))), (7, .int (nI i))] ∧ (rk_okV u1) ∧ (∀ x, rk_tb Bd x = true → u1 x = u x) ∧ mw_P D k_cl (mw_ov B ad (va_up cw 8 (.inl (cI, 8, .inl (rk_nf u1)))) 21) (mw_A (mw_ov B ad cw 21) s.heap.size) H ∧ va_S (mw_A (mw_ov B ad cw 21) s.heap.size) s.heap H locs) ?_ n 0 (by omega) (by omega) _ _ _ ⟨u, lv_sub hl [5, 6, 7, 4, 3, 2, 1, 0] rfl, hu, (fun _ _ => rfl), hP, hS⟩
    intro i H locs ls hi_57 hI ih_57
    obtain ⟨u1, hl, hu1, hex, hP, hS⟩ := hI
    refine lv_iload hx hb d_Sv_countJoined_57 (lv_at hl 7 rfl) ?_
    refine lv_aload_n hx hb d_Sv_countJoined_59 rfl (lv_at hl 3 rfl) ?_
    refine mw_get (v := .int (nI n)) (ci := 4) (C := R_Co) (T := T_Co) (N := 6) J i_Co hK hP (mw_ov_is (i := (9 + 4 * d)) ho.1 (by omega) ((va_up_ne _ _ (by omega)).trans hk0)) rfl 5 (by decide) (hts _ k_114) (fun _ h9 => h9) rfl d_Sv_countJoined_60 ?_
    refine lv_icmp_ge (tgt := 139) hx hb d_Sv_countJoined_63 (by decide) (fun c_63 => ?_) (fun c_63 => ?_)
    · have c_63 : n ≤ i := (nI_leI (by omega) (by omega)).mp c_63
      have hin : i = n := by omega
      refine lv_iload hx hb d_Sv_countJoined_139 (lv_at hl 6 rfl) ?_
      exact mw_iret J hr hlk hP hS d_Sv_countJoined_141 (⟨by rw [hdr, hin]; rfl, u1, rfl, hu1, hex⟩)
    · have c_63 : ¬ (n ≤ i) := fun z => c_63 ((nI_leI (by omega) (by omega)).mpr z)
      refine lv_aload_n hx hb d_Sv_countJoined_66 rfl (lv_at hl 3 rfl) ?_
      refine mw_get (v := .ref (ad (9 + 4 * d + 1))) (ci := 4) (C := R_Co) (T := T_Co) (N := 6) J i_Co hK hP (mw_ov_is (i := (9 + 4 * d)) ho.1 (by omega) ((va_up_ne _ _ (by omega)).trans hk0)) rfl 0 (by decide) (hts _ k_105) (fun _ h9 => h9) rfl d_Sv_countJoined_67 ?_
      refine lv_iload hx hb d_Sv_countJoined_70 (lv_at hl 7 rfl) ?_
      refine mw_nald (k := i) J hK hP 0 (mw_ov_is (i := (9 + 4 * d + 1)) ho.1 (by omega) ((va_up_ne _ _ (by omega)).trans hk1)) rfl (by omega) (by decide) d_Sv_countJoined_72 ?_
      refine lv_iload hx hb d_Sv_countJoined_73 (lv_at hl 4 rfl) ?_
      refine lv_iand hx hb d_Sv_countJoined_75 ?_
      refine mw_top (x' := nI (pr i &&& rk_m (rk_ink P (rk_tb (K &&& Bd))))) (nx_and _ _) ?_
      refine lv_iload hx hb d_Sv_countJoined_76 (lv_at hl 5 rfl) ?_
      refine lv_icmp_ne (tgt := 133) hx hb d_Sv_countJoined_78 (by decide) (fun c_78 => ?_) (fun c_78 => ?_)
      · have c_78 : ¬ ((pr i &&& rk_m (rk_ink P (rk_tb (K &&& Bd)))) = (rk_v (rk_ink P (rk_tb (K &&& Bd))) (fun j => u (rk_at P j - 32)))) := fun z => c_78 ((nI_eq (Nat.lt_of_le_of_lt Nat.and_le_left (by have := hpr i (by omega); omega)) (Nat.lt_trans (rk_v_lt (fun j _ => hu _)) (by decide))).mpr z)
        have hcn : ¬ rk_cons P (fun x => rk_tb K x && rk_tb Bd x) u (pr i) := fun z => c_78 ((rk_cons_sel (hpr i (by omega)) hu).mpr (by rw [rk_tb_and]; exact z))
        refine lv_iinc (v := nI (i + 1)) (lv' := [(7, .int (nI (i + 1))), (0, .ref (ad 1)), (1, .int (nI d)), (2, .int (nI Bd)), (3, .ref (ad (9 + 4 * d))), (4, .int (nI (rk_m (rk_ink P (rk_tb (K &&& Bd)))))), (5, .int (nI (rk_v (rk_ink P (rk_tb (K &&& Bd))) (fun j => u (rk_at P j - 32))))), (6, .int (nI (rk_sum (List.range i) (fun i => tm i * rk_if (rk_cons P (fun x => rk_tb K x && rk_tb Bd x) u (pr i)) (rk_cj (cs.drop (d + 1)) (fun x => rk_tb Bd x || rk_tb K x) (rk_bind P (fun x => rk_tb K x && !rk_tb Bd x) (pr i) u))))))]) hx hb d_Sv_countJoined_133 hl (k := 7) rfl (nI_1 i) (by decide) rfl (fun ls hl => ?_)
        refine lv_goto (tgt := 57) hx hb d_Sv_countJoined_136 (by decide) ?_
        exact ih_57 _ _ _ (by omega) ⟨u1, (by rw [rk_range_sum, rk_if_f hcn, Nat.mul_zero, Nat.add_zero]; exact lv_sub hl [1, 2, 3, 4, 5, 6, 7, 0] rfl), hu1, hex, hP, hS⟩
      · have c_78 : (pr i &&& rk_m (rk_ink P (rk_tb (K &&& Bd)))) = (rk_v (rk_ink P (rk_tb (K &&& Bd))) (fun j => u (rk_at P j - 32))) := (nI_eq (Nat.lt_of_le_of_lt Nat.and_le_left (by have := hpr i (by omega); omega)) (Nat.lt_trans (rk_v_lt (fun j _ => hu _)) (by decide))).mp c_78
        have hcn : rk_cons P (fun x => rk_tb K x && rk_tb Bd x) u (pr i) := by rw [← rk_tb_and]; exact (rk_cons_sel (hpr i (by omega)) hu).mp c_78
        refine lv_aload_n hx hb d_Sv_countJoined_81 rfl (lv_at hl 3 rfl) ?_
        refine mw_get (v := .ref src) (ci := 4) (C := R_Co) (T := T_Co) (N := 6) J i_Co hK hP (mw_ov_is (i := (9 + 4 * d)) ho.1 (by omega) ((va_up_ne _ _ (by omega)).trans hk0)) rfl 3 (by decide) (hts _ k_110) (fun _ h9 => h9) rfl d_Sv_countJoined_82 ?_
        refine lv_aload_n hx hb d_Sv_countJoined_85 rfl (lv_at hl 3 rfl) ?_
        refine mw_get (v := .ref (ad (9 + 4 * d + 1))) (ci := 4) (C := R_Co) (T := T_Co) (N := 6) J i_Co hK hP (mw_ov_is (i := (9 + 4 * d)) ho.1 (by omega) ((va_up_ne _ _ (by omega)).trans hk0)) rfl 0 (by decide) (hts _ k_105) (fun _ h9 => h9) rfl d_Sv_countJoined_86 ?_
        refine lv_iload hx hb d_Sv_countJoined_89 (lv_at hl 7 rfl) ?_
        refine mw_nald (k := i) J hK hP 0 (mw_ov_is (i := (9 + 4 * d + 1)) ho.1 (by omega) ((va_up_ne _ _ (by omega)).trans hk1)) rfl (by omega) (by decide) d_Sv_countJoined_91 ?_
        refine lv_aload_n hx hb d_Sv_countJoined_92 rfl (lv_at hl 3 rfl) ?_
        refine mw_get (v := .int (nI K)) (ci := 4) (C := R_Co) (T := T_Co) (N := 6) J i_Co hK hP (mw_ov_is (i := (9 + 4 * d)) ho.1 (by omega) ((va_up_ne _ _ (by omega)).trans hk0)) rfl 4 (by decide) (hts _ k_112) (fun _ h9 => h9) rfl d_Sv_countJoined_93 ?_
        refine lv_iload_n hx hb d_Sv_countJoined_96 rfl (lv_at hl 2 rfl) ?_
        refine lv_iconst (v := (-1)) hx hb d_Sv_countJoined_97 (by decide) ?_
        refine lv_ixor hx hb d_Sv_countJoined_98 ?_
        refine lv_iand hx hb d_Sv_countJoined_99 ?_
        refine mw_top (x' := nI (rk_an K Bd)) (rk_an_i _ _) ?_
        refine lv_aload_n hx hb d_Sv_countJoined_100 rfl (lv_at hl 0 rfl) ?_
        refine mw_get (v := .ref (ad 8)) (ci := 5) (C := R_Sv) (T := T_Sv) (N := 4) J i_Sv hK hP (mw_ov_is (i := 1) ho.1 (by decide) hc1) rfl 1 (by decide) (hts _ k_130) (fun _ h9 => h9) rfl d_Sv_countJoined_101 ?_
        refine mw_afterV hP hS hA (mw_runV (As := [.int (nI (pr i)), .int (nI (rk_an K Bd)), .ref (ad 8)]) (rest := []) J hK hZ hP hS hA (srcp _).choose_spec.choose_spec rfl (c_Pt_bind l D cI cZ cP cR cC tS _ (mw_ov B ad (va_up cw 8 (.inl (cI, 8, .inl (rk_nf u1)))) 21) src P (k_pat_mono hpp (k_fr ho _)) (pr i) (hpr i (by omega)) (rk_an K Bd) (rk_an_lt hK8) (ad 8) u1 hu1 (mw_ov_is (i := 8) ho.1 (by decide) rfl)) (cwV 3 hts (mw_gV k_243 k_244 k_245 k_6 k_246) rfl rfl rfl (by decide +kernel) ⟨(by dsimp only; omega), (by dsimp only; omega)⟩) rfl hl.1 rfl (Nat.le_of_ble_eq_true rfl) d_Sv_countJoined_104 ⟨Nat.le_of_ble_eq_true rfl, Nat.le_of_ble_eq_true rfl⟩) (fun M1 H locs hw hP hS => ?_)
        obtain rfl := hw
        rw [mw_ov_set ho.1 (by decide), bx_uu] at hP
        obtain ⟨u2, eu2⟩ : ∃ z, z = rk_bind P (rk_tb (rk_an K Bd)) (pr i) u1 := ⟨_, rfl⟩
        rw [← eu2] at hP
        have hu2 : rk_okV u2 := by rw [eu2]; exact rk_bind_ok hu1
        have he2 : ∀ x, (rk_tb Bd x || rk_tb K x) = true → u2 x = rk_bind P (fun x => rk_tb K x && !rk_tb Bd x) (pr i) u x := by rw [eu2, rk_tb_an]; exact rk_bind_ext hKP hex
        have he3 : ∀ x, rk_tb Bd x = true → u2 x = u x := fun x hx => by rw [he2 x (by simp [hx]), rk_bind_off (by simp [hx])]
        refine lv_iload hx hb d_Sv_countJoined_107 (lv_at hl 6 rfl) ?_
        refine lv_aload_n hx hb d_Sv_countJoined_109 rfl (lv_at hl 3 rfl) ?_
        refine mw_get (v := .ref (ad (9 + 4 * d + 2))) (ci := 4) (C := R_Co) (T := T_Co) (N := 6) J i_Co hK hP (mw_ov_is (i := (9 + 4 * d)) ho.1 (by omega) ((va_up_ne _ _ (by omega)).trans hk0)) rfl 1 (by decide) (hts _ k_107) (fun _ h9 => h9) rfl d_Sv_countJoined_110 ?_
        refine lv_iload hx hb d_Sv_countJoined_113 (lv_at hl 7 rfl) ?_
        refine mw_nald (k := i) J hK hP 0 (mw_ov_is (i := (9 + 4 * d + 2)) ho.1 (by omega) ((va_up_ne _ _ (by omega)).trans hk2)) rfl (by omega) (by decide) d_Sv_countJoined_115 ?_
        refine lv_aload_n hx hb d_Sv_countJoined_116 rfl (lv_at hl 0 rfl) ?_
        refine lv_iload_n hx hb d_Sv_countJoined_117 rfl (lv_at hl 1 rfl) ?_
        refine lv_iconst (v := 1) hx hb d_Sv_countJoined_118 (by decide) ?_
        refine mw_top (x' := nI 1) rfl ?_
        refine lv_iadd hx hb d_Sv_countJoined_119 ?_
        refine mw_top (x' := nI (d + 1)) (nI_add _ _) ?_
        refine lv_iload_n hx hb d_Sv_countJoined_120 rfl (lv_at hl 2 rfl) ?_
        refine lv_aload_n hx hb d_Sv_countJoined_121 rfl (lv_at hl 3 rfl) ?_
        refine mw_get (v := .int (nI K)) (ci := 4) (C := R_Co) (T := T_Co) (N := 6) J i_Co hK hP (mw_ov_is (i := (9 + 4 * d)) ho.1 (by omega) ((va_up_ne _ _ (by omega)).trans hk0)) rfl 4 (by decide) (hts _ k_112) (fun _ h9 => h9) rfl d_Sv_countJoined_122 ?_
        refine lv_ior hx hb d_Sv_countJoined_125 ?_
        refine mw_top (x' := nI (Bd ||| K)) (nx_or _ _) ?_
        refine mw_afterI hP hS hA (mw_runS (As := [.ref (ad 1), .int (nI (d + 1)), .int (nI (Bd ||| K))]) (rest := [.int (nI (tm i)), .int (nI (rk_sum (List.range i) (fun i => tm i * rk_if (rk_cons P (fun x => rk_tb K x && rk_tb Bd x) u (pr i)) (rk_cj (cs.drop (d + 1)) (fun x => rk_tb Bd x || rk_tb K x) (rk_bind P (fun x => rk_tb K x && !rk_tb Bd x) (pr i) u)))))]) J hK hZ hP hS hA (IH m1 hm1 _ B ad (va_up cw 8 (.inl (cI, 8, .inl (rk_nf u2)))) ho ca cs u2 ⟨hc1, rfl, hu2, fa, hca, hfa⟩ hcs3 (fun e he => k_cold_same (hcd e he) (fun z hz => va_up_ne _ _ (by omega))) hKi (d + 1) (Bd ||| K) (rk_or_lt hBd hK8) (by omega)) (cwS 3 hts (mw_gS k_351 k_352 k_2 k_353) rfl rfl rfl (by decide +kernel) ⟨(by dsimp only; omega), (by dsimp only; omega)⟩) rfl hl.1 rfl (Nat.le_of_ble_eq_true rfl) d_Sv_countJoined_126 ⟨Nat.le_of_ble_eq_true rfl, Nat.le_of_ble_eq_true rfl⟩) (fun r M1 H locs hw hP hS => ?_)
        obtain ⟨rfl, u3, rfl, hu3, he4⟩ := hw
        rw [bx_uu] at hP
        refine mw_top (x' := nI (rk_cj (cs.drop (d + 1)) (fun x => rk_tb Bd x || rk_tb K x) (rk_bind P (fun x => rk_tb K x && !rk_tb Bd x) (pr i) u))) (by congr 1; rw [rk_tb_or]; exact rk_cj_congr (fun c hc => hKi c (List.mem_of_mem_drop hc)) he2) ?_
        refine lv_imul hx hb d_Sv_countJoined_129 ?_
        refine mw_top (x' := nI (tm i * (rk_cj (cs.drop (d + 1)) (fun x => rk_tb Bd x || rk_tb K x) (rk_bind P (fun x => rk_tb K x && !rk_tb Bd x) (pr i) u)))) (pk_mul _ _) ?_
        refine lv_iadd hx hb d_Sv_countJoined_130 ?_
        refine mw_top (x' := nI (rk_sum (List.range (i + 1)) (fun i => tm i * rk_if (rk_cons P (fun x => rk_tb K x && rk_tb Bd x) u (pr i)) (rk_cj (cs.drop (d + 1)) (fun x => rk_tb Bd x || rk_tb K x) (rk_bind P (fun x => rk_tb K x && !rk_tb Bd x) (pr i) u))))) (by rw [nI_add, rk_range_sum, rk_if_t hcn]) ?_
        refine lv_istore (lv' := [(6, .int (nI (rk_sum (List.range (i + 1)) (fun i => tm i * rk_if (rk_cons P (fun x => rk_tb K x && rk_tb Bd x) u (pr i)) (rk_cj (cs.drop (d + 1)) (fun x => rk_tb Bd x || rk_tb K x) (rk_bind P (fun x => rk_tb K x && !rk_tb Bd x) (pr i) u)))))), (0, .ref (ad 1)), (1, .int (nI d)), (2, .int (nI Bd)), (3, .ref (ad (9 + 4 * d))), (4, .int (nI (rk_m (rk_ink P (rk_tb (K &&& Bd)))))), (5, .int (nI (rk_v (rk_ink P (rk_tb (K &&& Bd))) (fun j => u (rk_at P j - 32))))), (7, .int (nI i))]) hx hb d_Sv_countJoined_131 hl (by decide) rfl (fun ls hl => ?_)
        refine lv_iinc (v := nI (i + 1)) (lv' := [(7, .int (nI (i + 1))), (6, .int (nI (rk_sum (List.range (i + 1)) (fun i => tm i * rk_if (rk_cons P (fun x => rk_tb K x && rk_tb Bd x) u (pr i)) (rk_cj (cs.drop (d + 1)) (fun x => rk_tb Bd x || rk_tb K x) (rk_bind P (fun x => rk_tb K x && !rk_tb Bd x) (pr i) u)))))), (0, .ref (ad 1)), (1, .int (nI d)), (2, .int (nI Bd)), (3, .ref (ad (9 + 4 * d))), (4, .int (nI (rk_m (rk_ink P (rk_tb (K &&& Bd)))))), (5, .int (nI (rk_v (rk_ink P (rk_tb (K &&& Bd))) (fun j => u (rk_at P j - 32)))))]) hx hb d_Sv_countJoined_133 hl (k := 7) rfl (nI_1 i) (by decide) rfl (fun ls hl => ?_)
        refine lv_goto (tgt := 57) hx hb d_Sv_countJoined_136 (by decide) ?_
        exact ih_57 _ _ _ (by omega) ⟨u3, lv_sub hl [2, 3, 4, 5, 6, 7, 1, 0] rfl, hu3, (fun x hx => by rw [he4 x (by rw [rk_tb_or]; simp [hx]), he3 x hx]), hP, hS⟩
  · have c_5 : ¬ (d < cs.length) := fun z => c_5 ((nI_ltI (by omega) (by omega)).mpr z)
    have hdr : cs.drop d = [] := List.drop_eq_nil_of_le (by omega)
    refine lv_iconst (v := 1) hx hb d_Sv_countJoined_8 (by decide) ?_
    exact mw_iret J hr hlk hP hS d_Sv_countJoined_9 (⟨by rw [hdr]; rfl, u, by rw [va_up_same hc8], hu, fun _ _ => rfl⟩)
theorem c_Sv_count (l : Launch) (D : va_G) (cI cZ cP cR cC : ClassId) (tS : Nat) : ∀ m0, k_count l D cI cZ cP cR cC tS m0
  | 0 => c_Sv_count_step l D cI cZ cP cR cC tS 0 (fun m1 h => absurd h (by omega))
  | m0 + 1 => c_Sv_count_step l D cI cZ cP cR cC tS (m0 + 1) (fun m1 h => by
    have e : m1 = m0 := by omega
    rw [e]
    exact c_Sv_count l D cI cZ cP cR cC tS m0)
