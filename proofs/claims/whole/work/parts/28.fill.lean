/-! Column.fill -/
set_option maxHeartbeats 4000000 in
set_option maxRecDepth 100000 in
theorem c_Co_fill (l : Launch) (D : va_G) (cI cZ cP cR cC : ClassId) (tS : Nat) (sz : Nat) (M : mw_M) (ac : Nat → Nat) (hj : mw_inj ac 4) (src K : Nat) (cw : Nat → va_E) (n : Nat) (pr tm pl : Nat → Nat) (hc : k_co cI ac src K cw n pr tm pl) (P : rk_Pt) (hpat : ∀ c, k_pat cI (mw_ov M ac c 4) src P) (tr co pm v : Nat) (L : List Nat) (fc u : Nat → Nat) (htr : ∀ c, mw_ov M ac c 4 tr = some (.inr (1, [.ref co, .ref pm, .int (nI L.length)]))) (hco : ∀ c, mw_ov M ac c 4 co = some (.inl (cI, 300, .inl (rk_nf fc)))) (hv : ∀ c, mw_ov M ac c 4 v = some (.inl (cI, 8, .inl (rk_nf u)))) (hu : rk_okV u) (hfc : ∀ i, i < L.length → fc i = L.getD i 0) (hL3 : L.length ≤ 300) (hlt : ∀ k, k ∈ L → k < 32768) (len Bd : Nat) (hlen : len ≤ L.length) (hBd : Bd < 256) (hK0 : K < 256) (hpl0 : ∀ q, pl q = 0) :
    Met l y_Co_fill (.code y_Co_fill b_Co_fill 10 none :: gw) ({ frames := 1, cells := 0, slots := 0, locals := 24 }) (va_Pc [.ref (ac 0), .ref tr, .int (nI len), .int (nI Bd), .ref v] (mw_B D k_cl (k_tys cI cZ cP cR cC) (k_g tS) (mw_ov M ac cw 4) sz)) (va_Qv (fun (M1 : mw_M) => ∃ cw1 n1 pr1 tm1 pl1, M1 = mw_ov M ac cw1 4 ∧ k_co cI ac src K cw1 n1 pr1 tm1 pl1 ∧ (∀ q, pl1 q = 0) ∧ n1 ≤ 300 ∧ (∀ i, i < n1 → 0 < tm1 i ∧ pr1 i < 32768) ∧ ∀ g : Nat → Nat, rk_sum (List.range n1) (fun j => tm1 j * g (pr1 j)) = rk_sum (L.take len) (fun k => rk_if (rk_mt P (rk_tb Bd) u k) (g (rk_part P (rk_tb K) k)))) (mw_E D k_cl (mw_ov M ac cw 4) sz) (mw_A (mw_ov M ac cw 4) sz)) 0 0 (mw_A (mw_ov M ac cw 4) sz) := by
  refine mw_met (by decide) rfl (Nat.le_of_ble_eq_true rfl) ?_
  intro p e s m below meth c hsz J hr hlk hnm hK hZ hP hS hA ls hl
  subst hsz
  have hx := J.1
  have hb := J.2.1
  have hts := J.2.2.2.2
  have hl : lv_has ls 10 [(0, .ref (ac 0)), (1, .ref tr), (2, .int (nI len)), (3, .int (nI Bd)), (4, .ref v)] := hl
  obtain ⟨hc0, hc1, hc2, hc3⟩ := hc
  have hK8 := hK0
  obtain ⟨hok, b, q, fb, fq, hs1, -⟩ := hpat cw
  have srcp : ∀ c, ∃ b q, mw_ov M ac c 4 src = some (.inr (2, k_pf P b q)) := fun c => by
    obtain ⟨-, b, q, _, _, h, -⟩ := hpat c
    exact ⟨b, q, h⟩
  refine lv_aload_n hx hb d_Co_fill_0 rfl (lv_at hl 0 rfl) ?_
  refine mw_get (v := .ref src) (ci := 4) (C := R_Co) (T := T_Co) (N := 6) J i_Co hK hP (mw_ov_is (i := 0) hj (by decide) hc0) rfl 3 (by decide) (hts _ k_109) (fun _ h9 => h9) rfl d_Co_fill_1 ?_
  refine mw_get (v := .int (nI (rk_m (rk_num P)))) (ci := 2) (C := R_Pt) (T := T_Pt) (N := 8) J i_Pt hK hP hs1 rfl 3 (by decide) (hts _ k_79) (fun _ h9 => h9) rfl d_Co_fill_4 ?_
  refine lv_aload_n hx hb d_Co_fill_7 rfl (lv_at hl 0 rfl) ?_
  refine mw_get (v := .ref src) (ci := 4) (C := R_Co) (T := T_Co) (N := 6) J i_Co hK hP (mw_ov_is (i := 0) hj (by decide) hc0) rfl 3 (by decide) (hts _ k_109) (fun _ h9 => h9) rfl d_Co_fill_8 ?_
  refine lv_iload_n hx hb d_Co_fill_11 rfl (lv_at hl 3 rfl) ?_
  refine mw_afterI hP hS hA (mw_runV (As := [.int (nI Bd)]) (rest := [.int (nI (rk_m (rk_num P)))]) J hK hZ hP hS hA hs1 rfl (c_Pt_maskOf l D cI cZ cP cR cC tS _ (mw_ov M ac cw 4) src P (hpat cw) Bd hBd) (cwV 1 hts (mw_gV k_268 k_252 k_253 k_6 k_254) rfl rfl rfl (by decide +kernel) ⟨Nat.le_of_ble_eq_true rfl, Nat.le_of_ble_eq_true rfl⟩) rfl hl.1 rfl (Nat.le_of_ble_eq_true rfl) d_Co_fill_12 ⟨Nat.le_of_ble_eq_true rfl, Nat.le_of_ble_eq_true rfl⟩) (fun r M1 H locs hw hP hS => ?_)
  obtain ⟨rfl, rfl⟩ := hw
  refine lv_ior hx hb d_Co_fill_15 ?_
  refine mw_top (x' := nI (rk_m (fun j => rk_num P j || rk_ink P (rk_tb Bd) j))) (by rw [nx_or, rk_m_or]) ?_
  refine lv_istore (lv' := [(5, .int (nI (rk_m (fun j => rk_num P j || rk_ink P (rk_tb Bd) j)))), (0, .ref (ac 0)), (1, .ref tr), (2, .int (nI len)), (3, .int (nI Bd)), (4, .ref v)]) hx hb d_Co_fill_16 hl (by decide) rfl (fun ls hl => ?_)
  refine lv_aload_n hx hb d_Co_fill_18 rfl (lv_at hl 1 rfl) ?_
  refine mw_get (v := .ref src) (ci := 4) (C := R_Co) (T := T_Co) (N := 6) J i_Co hK hP (mw_ov_is (i := 0) hj (by decide) hc0) rfl 3 (by decide) (hts _ k_109) (fun _ h9 => h9) rfl d_Co_fill_19 ?_
  refine mw_get (v := .int (nI (rk_v (rk_num P) (rk_at P)))) (ci := 2) (C := R_Pt) (T := T_Pt) (N := 8) J i_Pt hK hP hs1 rfl 4 (by decide) (hts _ k_82) (fun _ h9 => h9) rfl d_Co_fill_22 ?_
  refine lv_aload_n hx hb d_Co_fill_25 rfl (lv_at hl 1 rfl) ?_
  refine mw_get (v := .ref src) (ci := 4) (C := R_Co) (T := T_Co) (N := 6) J i_Co hK hP (mw_ov_is (i := 0) hj (by decide) hc0) rfl 3 (by decide) (hts _ k_109) (fun _ h9 => h9) rfl d_Co_fill_26 ?_
  refine lv_iload_n hx hb d_Co_fill_29 rfl (lv_at hl 4 rfl) ?_
  refine lv_aload hx hb d_Co_fill_30 (lv_at hl 5 rfl) ?_
  refine mw_afterI hP hS hA (mw_runV (As := [.int (nI Bd), .ref v]) (rest := [.int (nI (rk_v (rk_num P) (rk_at P)))]) J hK hZ hP hS hA hs1 rfl (c_Pt_filled l D cI cZ cP cR cC tS _ (mw_ov M ac cw 4) src P (hpat cw) Bd hBd v u hu (hv cw)) (cwV 2 hts (mw_gV k_269 k_256 k_257 k_6 k_258) rfl rfl rfl (by decide +kernel) ⟨Nat.le_of_ble_eq_true rfl, Nat.le_of_ble_eq_true rfl⟩) rfl hl.1 rfl (Nat.le_of_ble_eq_true rfl) d_Co_fill_32 ⟨Nat.le_of_ble_eq_true rfl, Nat.le_of_ble_eq_true rfl⟩) (fun r M1 H locs hw hP hS => ?_)
  obtain ⟨rfl, rfl⟩ := hw
  refine lv_ior hx hb d_Co_fill_35 ?_
  refine mw_top (x' := nI (rk_v (fun j => rk_num P j || rk_ink P (rk_tb Bd) j) (rk_wt P u))) (by rw [nx_or, rk_want hu]) ?_
  refine lv_istore (lv' := [(6, .int (nI (rk_v (fun j => rk_num P j || rk_ink P (rk_tb Bd) j) (rk_wt P u)))), (5, .int (nI (rk_m (fun j => rk_num P j || rk_ink P (rk_tb Bd) j)))), (0, .ref (ac 0)), (1, .ref tr), (2, .int (nI len)), (3, .int (nI Bd)), (4, .ref v)]) hx hb d_Co_fill_36 hl (by decide) rfl (fun ls hl => ?_)
  refine lv_aload_n hx hb d_Co_fill_38 rfl (lv_at hl 2 rfl) ?_
  refine mw_get (v := .ref src) (ci := 4) (C := R_Co) (T := T_Co) (N := 6) J i_Co hK hP (mw_ov_is (i := 0) hj (by decide) hc0) rfl 3 (by decide) (hts _ k_109) (fun _ h9 => h9) rfl d_Co_fill_39 ?_
  refine lv_aload_n hx hb d_Co_fill_42 rfl (lv_at hl 2 rfl) ?_
  refine mw_get (v := .int (nI K)) (ci := 4) (C := R_Co) (T := T_Co) (N := 6) J i_Co hK hP (mw_ov_is (i := 0) hj (by decide) hc0) rfl 4 (by decide) (hts _ k_111) (fun _ h9 => h9) rfl d_Co_fill_43 ?_
  refine mw_afterI hP hS hA (mw_runV (As := [.int (nI K)]) (rest := []) J hK hZ hP hS hA hs1 rfl (c_Pt_maskOf l D cI cZ cP cR cC tS _ (mw_ov M ac cw 4) src P (hpat cw) K hK8) (cwV 1 hts (mw_gV k_268 k_252 k_253 k_6 k_254) rfl rfl rfl (by decide +kernel) ⟨Nat.le_of_ble_eq_true rfl, Nat.le_of_ble_eq_true rfl⟩) rfl hl.1 rfl (Nat.le_of_ble_eq_true rfl) d_Co_fill_46 ⟨Nat.le_of_ble_eq_true rfl, Nat.le_of_ble_eq_true rfl⟩) (fun r M1 H locs hw hP hS => ?_)
  obtain ⟨rfl, rfl⟩ := hw
  refine lv_istore (lv' := [(7, .int (nI (rk_m (rk_ink P (rk_tb K))))), (6, .int (nI (rk_v (fun j => rk_num P j || rk_ink P (rk_tb Bd) j) (rk_wt P u)))), (5, .int (nI (rk_m (fun j => rk_num P j || rk_ink P (rk_tb Bd) j)))), (0, .ref (ac 0)), (1, .ref tr), (2, .int (nI len)), (3, .int (nI Bd)), (4, .ref v)]) hx hb d_Co_fill_49 hl (by decide) rfl (fun ls hl => ?_)
  refine lv_aload_n hx hb d_Co_fill_51 rfl (lv_at hl 3 rfl) ?_
  refine lv_iconst (v := 0) hx hb d_Co_fill_52 (by decide) ?_
  refine mw_top (x' := nI 0) nI_0.symm ?_
  refine mw_put (v := .int (nI 0)) (ty := .int) (ci := 4) (C := R_Co) (T := T_Co) (N := 6) J i_Co t_Co o_Co n_Co hK hP hS (mw_ov_is (i := 0) hj (by decide) hc0) rfl 5 (by decide) (hts _ k_113) (fun _ h9 => h9) rfl rfl rfl rfl (Nat.le_of_ble_eq_true rfl) d_Co_fill_53 (fun H locs hP hS => ?_)
  rw [mw_ov_set hj (by decide)] at hP
  have hP : mw_P D k_cl (mw_ov M ac (va_up cw 0 (.inr (4, [.ref (ac 1), .ref (ac 2), .ref (ac 3), .ref src, .int (nI K), .int (nI 0)]))) 4) _ H := hP
  refine lv_iconst (v := 0) hx hb d_Co_fill_56 (by decide) ?_
  refine mw_top (x' := nI 0) nI_0.symm ?_
  refine lv_istore (lv' := [(8, .int (nI 0)), (7, .int (nI (rk_m (rk_ink P (rk_tb K))))), (6, .int (nI (rk_v (fun j => rk_num P j || rk_ink P (rk_tb Bd) j) (rk_wt P u)))), (5, .int (nI (rk_m (fun j => rk_num P j || rk_ink P (rk_tb Bd) j)))), (0, .ref (ac 0)), (1, .ref tr), (2, .int (nI len)), (3, .int (nI Bd)), (4, .ref v)]) hx hb d_Co_fill_57 hl (by decide) rfl (fun ls hl => ?_)
  refine mw_loop (W' := fun H locs ls => W p l e _ s m _ below meth c H locs _ _ _ (F0 m 59 ls [])) len (fun i H locs ls => ∃ (cx : Nat → va_E), ∃ (n1 : Nat), ∃ (pr1 : Nat → Nat), ∃ (tm1 : Nat → Nat), ∃ (pl1 : Nat → Nat), lv_has ls 10 [(0, .ref (ac 0)), (1, .ref tr), (2, .int (nI len)), (3, .int (nI Bd)), (4, .ref v), (5, .int (nI (rk_m (fun j => rk_num P j || rk_ink P (rk_tb Bd) j)))), (6, .int (nI (rk_v (fun j => rk_num P j || rk_ink P (rk_tb Bd) j) (rk_wt P u)))), (7, .int (nI (rk_m (rk_ink P (rk_tb K))))), (8, .int (nI i))] ∧ (k_co cI ac src K cx n1 pr1 tm1 pl1) ∧ (rk_fi (rk_ink P (rk_tb K)) n1 pr1 tm1 pl1 (rk_seq P (rk_tb Bd) u (rk_tb K) (L.take i))) ∧ (∀ q, pl1 q ≤ 300) ∧ mw_P D k_cl (mw_ov M ac cx 4) (mw_A (mw_ov M ac cw 4) s.heap.size) H ∧ va_S (mw_A (mw_ov M ac cw 4) s.heap.size) s.heap H locs) ?_ len 0 (by omega) (by omega) _ _ _ ⟨(va_up cw 0 (.inr (4, [.ref (ac 1), .ref (ac 2), .ref (ac 3), .ref src, .int (nI K), .int (nI 0)]))), 0, pr, tm, pl, lv_sub hl [4, 5, 6, 7, 8, 3, 2, 1, 0] rfl, ⟨rfl, hc1, hc2, hc3⟩, (rk_fi_0 hpl0), (fun q => by rw [hpl0 q]; exact Nat.zero_le _), hP, hS⟩
  intro i H locs ls hi_59 hI ih_59
  obtain ⟨cx, n1, pr1, tm1, pl1, hl, hcx, hfi, hpb, hP, hS⟩ := hI
  obtain ⟨hx0, hx1, hx2, hx3⟩ := id hcx
  have hn3 := rk_fi_ge hfi
  have hsl := rk_seq_len (P := P) (B := rk_tb Bd) (u := u) (K := rk_tb K) (L.take i)
  rw [List.length_take] at hsl
  refine lv_iload hx hb d_Co_fill_59 (lv_at hl 8 rfl) ?_
  refine lv_iload_n hx hb d_Co_fill_61 rfl (lv_at hl 2 rfl) ?_
  refine lv_icmp_ge (tgt := 132) hx hb d_Co_fill_62 (by decide) (fun c_62 => ?_) (fun c_62 => ?_)
  · have c_62 : len ≤ i := (nI_leI (by omega) (by omega)).mp c_62
    have hie : i = len := by omega
    rw [hie] at hfi
    have hprl : ∀ j, j < n1 → pr1 j < 32768 := fun j hj => by
      obtain ⟨w0, hw0, e0⟩ := rk_seq_ps _ _ (hfi.2.2.1 j hj).2
      rw [e0]
      exact rk_v_lt hw0
    refine lv_iconst (v := 0) hx hb d_Co_fill_132 (by decide) ?_
    refine mw_top (x' := nI 0) nI_0.symm ?_
    refine lv_istore (lv' := [(8, .int (nI 0)), (0, .ref (ac 0)), (1, .ref tr), (2, .int (nI len)), (3, .int (nI Bd)), (4, .ref v), (5, .int (nI (rk_m (fun j => rk_num P j || rk_ink P (rk_tb Bd) j)))), (6, .int (nI (rk_v (fun j => rk_num P j || rk_ink P (rk_tb Bd) j) (rk_wt P u)))), (7, .int (nI (rk_m (rk_ink P (rk_tb K)))))]) hx hb d_Co_fill_133 hl (by decide) rfl (fun ls hl => ?_)
    refine mw_loop (W' := fun H locs ls => W p l e _ s m _ below meth c H locs _ _ _ (F0 m 135 ls [])) n1 (fun i2 H locs ls => ∃ (cy : Nat → va_E), ∃ (pl3 : Nat → Nat), lv_has ls 10 [(0, .ref (ac 0)), (1, .ref tr), (2, .int (nI len)), (3, .int (nI Bd)), (4, .ref v), (5, .int (nI (rk_m (fun j => rk_num P j || rk_ink P (rk_tb Bd) j)))), (6, .int (nI (rk_v (fun j => rk_num P j || rk_ink P (rk_tb Bd) j) (rk_wt P u)))), (7, .int (nI (rk_m (rk_ink P (rk_tb K))))), (8, .int (nI i2))] ∧ (k_co cI ac src K cy n1 pr1 tm1 pl3) ∧ (∀ q, pl3 q = 0 ∨ ∃ j, i2 ≤ j ∧ j < n1 ∧ q = rk_place ((rk_ink P (rk_tb K)) 0) (pr1 j)) ∧ mw_P D k_cl (mw_ov M ac cy 4) (mw_A (mw_ov M ac cw 4) s.heap.size) H ∧ va_S (mw_A (mw_ov M ac cw 4) s.heap.size) s.heap H locs) ?_ n1 0 (by omega) (by omega) _ _ _ ⟨cx, pl1, lv_sub hl [1, 2, 3, 4, 5, 6, 7, 8, 0] rfl, hcx, (fun q => (hfi.2.2.2.1 q).imp id (fun ⟨j, h1, h2⟩ => ⟨j, Nat.zero_le _, h1, h2⟩)), hP, hS⟩
    intro i2 H locs ls hi_135 hI ih_135
    obtain ⟨cy, pl3, hl, hcy, hwp, hP, hS⟩ := hI
    obtain ⟨hx0, hx1, hx2, hx3⟩ := id hcy
    refine lv_iload hx hb d_Co_fill_135 (lv_at hl 8 rfl) ?_
    refine lv_aload_n hx hb d_Co_fill_137 rfl (lv_at hl 0 rfl) ?_
    refine mw_get (v := .int (nI n1)) (ci := 4) (C := R_Co) (T := T_Co) (N := 6) J i_Co hK hP (mw_ov_is (i := 0) hj (by decide) hx0) rfl 5 (by decide) (hts _ k_113) (fun _ h9 => h9) rfl d_Co_fill_138 ?_
    refine lv_icmp_ge (tgt := 168) hx hb d_Co_fill_141 (by decide) (fun c_141 => ?_) (fun c_141 => ?_)
    · have c_141 : n1 ≤ i2 := (nI_leI (by omega) (by omega)).mp c_141
      exact mw_vret J hr hlk hP hS d_Co_fill_168 (⟨cy, n1, pr1, tm1, pl3, rfl, hcy, fun q => (hwp q).elim id (fun ⟨j, h1, h2, _⟩ => by omega), by omega, fun j hj => ⟨(hfi.2.2.1 j hj).1, hprl j hj⟩, fun g => by rw [hfi.2.1 g, rk_seq_sum]⟩)
    · have c_141 : ¬ (n1 ≤ i2) := fun z => c_141 ((nI_leI (by omega) (by omega)).mpr z)
      refine lv_aload_n hx hb d_Co_fill_144 rfl (lv_at hl 0 rfl) ?_
      refine mw_get (v := .ref (ac 3)) (ci := 4) (C := R_Co) (T := T_Co) (N := 6) J i_Co hK hP (mw_ov_is (i := 0) hj (by decide) hx0) rfl 2 (by decide) (hts _ k_108) (fun _ h9 => h9) rfl d_Co_fill_145 ?_
      refine lv_aload_n hx hb d_Co_fill_148 rfl (lv_at hl 0 rfl) ?_
      refine mw_get (v := .ref (ac 1)) (ci := 4) (C := R_Co) (T := T_Co) (N := 6) J i_Co hK hP (mw_ov_is (i := 0) hj (by decide) hx0) rfl 0 (by decide) (hts _ k_104) (fun _ h9 => h9) rfl d_Co_fill_149 ?_
      refine lv_iload hx hb d_Co_fill_152 (lv_at hl 8 rfl) ?_
      refine mw_nald (k := i2) J hK hP 0 (mw_ov_is (i := 1) hj (by decide) hx1) rfl (by omega) (by decide) d_Co_fill_154 ?_
      refine lv_iload hx hb d_Co_fill_155 (lv_at hl 7 rfl) ?_
      refine mw_afterI hP hS hA (mw_runS (As := [.int (nI (pr1 i2)), .int (nI (rk_m (rk_ink P (rk_tb K))))]) (rest := [.ref (ac 3)]) J hK hZ hP hS hA (c_Co_placeOf l D cI cZ cP cR cC tS _ (mw_ov M ac cy 4) (rk_ink P (rk_tb K)) (pr1 i2) (hprl i2 (by omega))) (cwS 2 hts (mw_gS k_271 k_272 k_5 k_273) rfl rfl rfl (by decide +kernel) ⟨Nat.le_of_ble_eq_true rfl, Nat.le_of_ble_eq_true rfl⟩) rfl hl.1 rfl (Nat.le_of_ble_eq_true rfl) d_Co_fill_157 ⟨Nat.le_of_ble_eq_true rfl, Nat.le_of_ble_eq_true rfl⟩) (fun r M1 H locs hw hP hS => ?_)
      obtain ⟨rfl, rfl⟩ := hw
      refine lv_iconst (v := 0) hx hb d_Co_fill_160 (by decide) ?_
      refine mw_top (x' := nI 0) nI_0.symm ?_
      refine mw_nast (k := (rk_place ((rk_ink P (rk_tb K)) 0) (pr1 i2))) (x := 0) J hK hP hS 0 (mw_ov_is (i := 3) hj (by decide) hx3) rfl (rk_place_lt _ _) (by decide) d_Co_fill_161 (fun H locs hP hS => ?_)
      rw [mw_ov_set hj (by decide)] at hP
      have hP : mw_P D k_cl (mw_ov M ac (va_up cy 3 (.inl (cI, 1024, .inl (rk_nf (va_up pl3 (rk_place ((rk_ink P (rk_tb K)) 0) (pr1 i2)) 0))))) 4) _ H := hP
      refine lv_iinc (v := nI (i2 + 1)) (lv' := [(8, .int (nI (i2 + 1))), (0, .ref (ac 0)), (1, .ref tr), (2, .int (nI len)), (3, .int (nI Bd)), (4, .ref v), (5, .int (nI (rk_m (fun j => rk_num P j || rk_ink P (rk_tb Bd) j)))), (6, .int (nI (rk_v (fun j => rk_num P j || rk_ink P (rk_tb Bd) j) (rk_wt P u)))), (7, .int (nI (rk_m (rk_ink P (rk_tb K)))))]) hx hb d_Co_fill_162 hl (k := 8) rfl (nI_1 i2) (by decide) rfl (fun ls hl => ?_)
      refine lv_goto (tgt := 135) hx hb d_Co_fill_165 (by decide) ?_
      exact ih_135 _ _ _ (by omega) ⟨(va_up cy 3 (.inl (cI, 1024, .inl (rk_nf (va_up pl3 (rk_place ((rk_ink P (rk_tb K)) 0) (pr1 i2)) 0))))), (va_up pl3 (rk_place ((rk_ink P (rk_tb K)) 0) (pr1 i2)) 0), lv_sub hl [1, 2, 3, 4, 5, 6, 7, 8, 0] rfl, ⟨hx0, hx1, hx2, rfl⟩, (rk_wipe (by omega) hwp), hP, hS⟩
  · have c_62 : ¬ (len ≤ i) := fun z => c_62 ((nI_leI (by omega) (by omega)).mpr z)
    refine lv_iload hx hb d_Co_fill_65 (lv_at hl 8 rfl) ?_
    refine lv_aload_n hx hb d_Co_fill_67 rfl (lv_at hl 1 rfl) ?_
    refine mw_get (v := .int (nI L.length)) (ci := 1) (C := R_Tr) (T := T_Tr) (N := 3) J i_Tr hK hP (htr _) rfl 2 (by decide) (hts _ k_47) (fun _ h9 => h9) rfl d_Co_fill_68 ?_
    refine lv_icmp_ge (tgt := 132) hx hb d_Co_fill_71 (by decide) (fun c_71 => ?_) (fun c_71 => ?_)
    · have c_71 : L.length ≤ i := (nI_leI (by omega) (by omega)).mp c_71
      have hie : i = len := by omega
      rw [hie] at hfi
      have hprl : ∀ j, j < n1 → pr1 j < 32768 := fun j hj => by
        obtain ⟨w0, hw0, e0⟩ := rk_seq_ps _ _ (hfi.2.2.1 j hj).2
        rw [e0]
        exact rk_v_lt hw0
      refine lv_iconst (v := 0) hx hb d_Co_fill_132 (by decide) ?_
      refine mw_top (x' := nI 0) nI_0.symm ?_
      refine lv_istore (lv' := [(8, .int (nI 0)), (0, .ref (ac 0)), (1, .ref tr), (2, .int (nI len)), (3, .int (nI Bd)), (4, .ref v), (5, .int (nI (rk_m (fun j => rk_num P j || rk_ink P (rk_tb Bd) j)))), (6, .int (nI (rk_v (fun j => rk_num P j || rk_ink P (rk_tb Bd) j) (rk_wt P u)))), (7, .int (nI (rk_m (rk_ink P (rk_tb K)))))]) hx hb d_Co_fill_133 hl (by decide) rfl (fun ls hl => ?_)
      refine mw_loop (W' := fun H locs ls => W p l e _ s m _ below meth c H locs _ _ _ (F0 m 135 ls [])) n1 (fun i2 H locs ls => ∃ (cy : Nat → va_E), ∃ (pl3 : Nat → Nat), lv_has ls 10 [(0, .ref (ac 0)), (1, .ref tr), (2, .int (nI len)), (3, .int (nI Bd)), (4, .ref v), (5, .int (nI (rk_m (fun j => rk_num P j || rk_ink P (rk_tb Bd) j)))), (6, .int (nI (rk_v (fun j => rk_num P j || rk_ink P (rk_tb Bd) j) (rk_wt P u)))), (7, .int (nI (rk_m (rk_ink P (rk_tb K))))), (8, .int (nI i2))] ∧ (k_co cI ac src K cy n1 pr1 tm1 pl3) ∧ (∀ q, pl3 q = 0 ∨ ∃ j, i2 ≤ j ∧ j < n1 ∧ q = rk_place ((rk_ink P (rk_tb K)) 0) (pr1 j)) ∧ mw_P D k_cl (mw_ov M ac cy 4) (mw_A (mw_ov M ac cw 4) s.heap.size) H ∧ va_S (mw_A (mw_ov M ac cw 4) s.heap.size) s.heap H locs) ?_ n1 0 (by omega) (by omega) _ _ _ ⟨cx, pl1, lv_sub hl [1, 2, 3, 4, 5, 6, 7, 8, 0] rfl, hcx, (fun q => (hfi.2.2.2.1 q).imp id (fun ⟨j, h1, h2⟩ => ⟨j, Nat.zero_le _, h1, h2⟩)), hP, hS⟩
      intro i2 H locs ls hi_135 hI ih_135
      obtain ⟨cy, pl3, hl, hcy, hwp, hP, hS⟩ := hI
      obtain ⟨hx0, hx1, hx2, hx3⟩ := id hcy
      refine lv_iload hx hb d_Co_fill_135 (lv_at hl 8 rfl) ?_
      refine lv_aload_n hx hb d_Co_fill_137 rfl (lv_at hl 0 rfl) ?_
      refine mw_get (v := .int (nI n1)) (ci := 4) (C := R_Co) (T := T_Co) (N := 6) J i_Co hK hP (mw_ov_is (i := 0) hj (by decide) hx0) rfl 5 (by decide) (hts _ k_113) (fun _ h9 => h9) rfl d_Co_fill_138 ?_
      refine lv_icmp_ge (tgt := 168) hx hb d_Co_fill_141 (by decide) (fun c_141 => ?_) (fun c_141 => ?_)
      · have c_141 : n1 ≤ i2 := (nI_leI (by omega) (by omega)).mp c_141
        exact mw_vret J hr hlk hP hS d_Co_fill_168 (⟨cy, n1, pr1, tm1, pl3, rfl, hcy, fun q => (hwp q).elim id (fun ⟨j, h1, h2, _⟩ => by omega), by omega, fun j hj => ⟨(hfi.2.2.1 j hj).1, hprl j hj⟩, fun g => by rw [hfi.2.1 g, rk_seq_sum]⟩)
      · have c_141 : ¬ (n1 ≤ i2) := fun z => c_141 ((nI_leI (by omega) (by omega)).mpr z)
        refine lv_aload_n hx hb d_Co_fill_144 rfl (lv_at hl 0 rfl) ?_
        refine mw_get (v := .ref (ac 3)) (ci := 4) (C := R_Co) (T := T_Co) (N := 6) J i_Co hK hP (mw_ov_is (i := 0) hj (by decide) hx0) rfl 2 (by decide) (hts _ k_108) (fun _ h9 => h9) rfl d_Co_fill_145 ?_
        refine lv_aload_n hx hb d_Co_fill_148 rfl (lv_at hl 0 rfl) ?_
        refine mw_get (v := .ref (ac 1)) (ci := 4) (C := R_Co) (T := T_Co) (N := 6) J i_Co hK hP (mw_ov_is (i := 0) hj (by decide) hx0) rfl 0 (by decide) (hts _ k_104) (fun _ h9 => h9) rfl d_Co_fill_149 ?_
        refine lv_iload hx hb d_Co_fill_152 (lv_at hl 8 rfl) ?_
        refine mw_nald (k := i2) J hK hP 0 (mw_ov_is (i := 1) hj (by decide) hx1) rfl (by omega) (by decide) d_Co_fill_154 ?_
        refine lv_iload hx hb d_Co_fill_155 (lv_at hl 7 rfl) ?_
        refine mw_afterI hP hS hA (mw_runS (As := [.int (nI (pr1 i2)), .int (nI (rk_m (rk_ink P (rk_tb K))))]) (rest := [.ref (ac 3)]) J hK hZ hP hS hA (c_Co_placeOf l D cI cZ cP cR cC tS _ (mw_ov M ac cy 4) (rk_ink P (rk_tb K)) (pr1 i2) (hprl i2 (by omega))) (cwS 2 hts (mw_gS k_271 k_272 k_5 k_273) rfl rfl rfl (by decide +kernel) ⟨Nat.le_of_ble_eq_true rfl, Nat.le_of_ble_eq_true rfl⟩) rfl hl.1 rfl (Nat.le_of_ble_eq_true rfl) d_Co_fill_157 ⟨Nat.le_of_ble_eq_true rfl, Nat.le_of_ble_eq_true rfl⟩) (fun r M1 H locs hw hP hS => ?_)
        obtain ⟨rfl, rfl⟩ := hw
        refine lv_iconst (v := 0) hx hb d_Co_fill_160 (by decide) ?_
        refine mw_top (x' := nI 0) nI_0.symm ?_
        refine mw_nast (k := (rk_place ((rk_ink P (rk_tb K)) 0) (pr1 i2))) (x := 0) J hK hP hS 0 (mw_ov_is (i := 3) hj (by decide) hx3) rfl (rk_place_lt _ _) (by decide) d_Co_fill_161 (fun H locs hP hS => ?_)
        rw [mw_ov_set hj (by decide)] at hP
        have hP : mw_P D k_cl (mw_ov M ac (va_up cy 3 (.inl (cI, 1024, .inl (rk_nf (va_up pl3 (rk_place ((rk_ink P (rk_tb K)) 0) (pr1 i2)) 0))))) 4) _ H := hP
        refine lv_iinc (v := nI (i2 + 1)) (lv' := [(8, .int (nI (i2 + 1))), (0, .ref (ac 0)), (1, .ref tr), (2, .int (nI len)), (3, .int (nI Bd)), (4, .ref v), (5, .int (nI (rk_m (fun j => rk_num P j || rk_ink P (rk_tb Bd) j)))), (6, .int (nI (rk_v (fun j => rk_num P j || rk_ink P (rk_tb Bd) j) (rk_wt P u)))), (7, .int (nI (rk_m (rk_ink P (rk_tb K)))))]) hx hb d_Co_fill_162 hl (k := 8) rfl (nI_1 i2) (by decide) rfl (fun ls hl => ?_)
        refine lv_goto (tgt := 135) hx hb d_Co_fill_165 (by decide) ?_
        exact ih_135 _ _ _ (by omega) ⟨(va_up cy 3 (.inl (cI, 1024, .inl (rk_nf (va_up pl3 (rk_place ((rk_ink P (rk_tb K)) 0) (pr1 i2)) 0))))), (va_up pl3 (rk_place ((rk_ink P (rk_tb K)) 0) (pr1 i2)) 0), lv_sub hl [1, 2, 3, 4, 5, 6, 7, 8, 0] rfl, ⟨hx0, hx1, hx2, rfl⟩, (rk_wipe (by omega) hwp), hP, hS⟩
    · have c_71 : ¬ (L.length ≤ i) := fun z => c_71 ((nI_leI (by omega) (by omega)).mpr z)
      have hkc : L.getD i 0 < 32768 := hlt _ (rk_getD_mem (by omega))
      refine lv_aload_n hx hb d_Co_fill_74 rfl (lv_at hl 1 rfl) ?_
      refine mw_get (v := .ref co) (ci := 1) (C := R_Tr) (T := T_Tr) (N := 3) J i_Tr hK hP (htr _) rfl 0 (by decide) (hts _ k_43) (fun _ h9 => h9) rfl d_Co_fill_75 ?_
      refine lv_iload hx hb d_Co_fill_78 (lv_at hl 8 rfl) ?_
      refine mw_nald (k := i) J hK hP 0 (hco _) rfl (by omega) (by decide) d_Co_fill_80 ?_
      refine mw_top (x' := nI (L.getD i 0)) (by rw [hfc i (by omega)]) ?_
      refine lv_istore (lv' := [(9, .int (nI (L.getD i 0))), (0, .ref (ac 0)), (1, .ref tr), (2, .int (nI len)), (3, .int (nI Bd)), (4, .ref v), (5, .int (nI (rk_m (fun j => rk_num P j || rk_ink P (rk_tb Bd) j)))), (6, .int (nI (rk_v (fun j => rk_num P j || rk_ink P (rk_tb Bd) j) (rk_wt P u)))), (7, .int (nI (rk_m (rk_ink P (rk_tb K))))), (8, .int (nI i))]) hx hb d_Co_fill_81 hl (by decide) rfl (fun ls hl => ?_)
      refine lv_iload hx hb d_Co_fill_83 (lv_at hl 0 rfl) ?_
      refine lv_iload hx hb d_Co_fill_85 (lv_at hl 6 rfl) ?_
      refine lv_iand hx hb d_Co_fill_87 ?_
      refine mw_top (x' := nI (L.getD i 0 &&& rk_m (fun j => rk_num P j || rk_ink P (rk_tb Bd) j))) (nx_and _ _) ?_
      refine lv_iload hx hb d_Co_fill_88 (lv_at hl 7 rfl) ?_
      refine lv_icmp_ne (tgt := 126) hx hb d_Co_fill_90 (by decide) (fun c_90 => ?_) (fun c_90 => ?_)
      · have c_90 : ¬ ((L.getD i 0 &&& rk_m (fun j => rk_num P j || rk_ink P (rk_tb Bd) j)) = (rk_v (fun j => rk_num P j || rk_ink P (rk_tb Bd) j) (rk_wt P u))) := fun z => c_90 ((nI_eq (Nat.lt_of_le_of_lt Nat.and_le_left (by omega)) (Nat.lt_trans (rk_v_lt (fun j _ => rk_wt_lt hu j)) (by decide))).mpr z)
        have hmt : ¬ rk_mt P (rk_tb Bd) u (L.getD i 0) := fun z => c_90 ((rk_mt_sel hkc hu).mp z).1
        refine lv_iinc (v := nI (i + 1)) (lv' := [(8, .int (nI (i + 1))), (9, .int (nI (L.getD i 0))), (0, .ref (ac 0)), (1, .ref tr), (2, .int (nI len)), (3, .int (nI Bd)), (4, .ref v), (5, .int (nI (rk_m (fun j => rk_num P j || rk_ink P (rk_tb Bd) j)))), (6, .int (nI (rk_v (fun j => rk_num P j || rk_ink P (rk_tb Bd) j) (rk_wt P u)))), (7, .int (nI (rk_m (rk_ink P (rk_tb K)))))]) hx hb d_Co_fill_126 hl (k := 9) rfl (nI_1 i) (by decide) rfl (fun ls hl => ?_)
        refine lv_goto (tgt := 59) hx hb d_Co_fill_129 (by decide) ?_
        exact ih_59 _ _ _ (by omega) ⟨cx, n1, pr1, tm1, pl1, lv_sub hl [2, 3, 4, 5, 6, 7, 8, 9, 0] rfl, hcx, (by rw [rk_take_succ (by omega), rk_seq_no hmt]; exact hfi), hpb, hP, hS⟩
      · have c_90 : (L.getD i 0 &&& rk_m (fun j => rk_num P j || rk_ink P (rk_tb Bd) j)) = (rk_v (fun j => rk_num P j || rk_ink P (rk_tb Bd) j) (rk_wt P u)) := (nI_eq (Nat.lt_of_le_of_lt Nat.and_le_left (by omega)) (Nat.lt_trans (rk_v_lt (fun j _ => rk_wt_lt hu j)) (by decide))).mp c_90
        refine lv_aload_n hx hb d_Co_fill_93 rfl (lv_at hl 1 rfl) ?_
        refine mw_get (v := .ref src) (ci := 4) (C := R_Co) (T := T_Co) (N := 6) J i_Co hK hP (mw_ov_is (i := 0) hj (by decide) hx0) rfl 3 (by decide) (hts _ k_109) (fun _ h9 => h9) rfl d_Co_fill_94 ?_
        refine lv_iload hx hb d_Co_fill_97 (lv_at hl 0 rfl) ?_
        refine mw_afterI hP hS hA (mw_runV (As := [.int (nI (L.getD i 0))]) (rest := []) J hK hZ hP hS hA (srcp _).choose_spec.choose_spec rfl (c_Pt_agrees l D cI cZ cP cR cC tS _ (mw_ov M ac cx 4) src P (hpat cx) (L.getD i 0) hkc) (cwV 1 hts (mw_gV k_270 k_240 k_241 k_6 k_242) rfl rfl rfl (by decide +kernel) ⟨Nat.le_of_ble_eq_true rfl, Nat.le_of_ble_eq_true rfl⟩) rfl hl.1 rfl (Nat.le_of_ble_eq_true rfl) d_Co_fill_99 ⟨Nat.le_of_ble_eq_true rfl, Nat.le_of_ble_eq_true rfl⟩) (fun r M1 H locs hw hP hS => ?_)
        obtain ⟨rfl, hw⟩ := hw
        refine lv_if_eq (tgt := 126) hx hb d_Co_fill_102 (by decide) (fun c_102 => ?_) (fun c_102 => ?_)
        · have hmt : ¬ rk_mt P (rk_tb Bd) u (L.getD i 0) := fun z => by
            rcases hw with ⟨h, _⟩ | ⟨_, h⟩
            · rw [h] at c_102
              exact absurd c_102 (by decide)
            · exact h ((rk_mt_sel hkc hu).mp z).2
          refine lv_iinc (v := nI (i + 1)) (lv' := [(8, .int (nI (i + 1))), (9, .int (nI (L.getD i 0))), (0, .ref (ac 0)), (1, .ref tr), (2, .int (nI len)), (3, .int (nI Bd)), (4, .ref v), (5, .int (nI (rk_m (fun j => rk_num P j || rk_ink P (rk_tb Bd) j)))), (6, .int (nI (rk_v (fun j => rk_num P j || rk_ink P (rk_tb Bd) j) (rk_wt P u)))), (7, .int (nI (rk_m (rk_ink P (rk_tb K)))))]) hx hb d_Co_fill_126 hl (k := 9) rfl (nI_1 i) (by decide) rfl (fun ls hl => ?_)
          refine lv_goto (tgt := 59) hx hb d_Co_fill_129 (by decide) ?_
          exact ih_59 _ _ _ (by omega) ⟨cx, n1, pr1, tm1, pl1, lv_sub hl [2, 3, 4, 5, 6, 7, 8, 9, 0] rfl, hcx, (by rw [rk_take_succ (by omega), rk_seq_no hmt]; exact hfi), hpb, hP, hS⟩
        · have hmt : rk_mt P (rk_tb Bd) u (L.getD i 0) := (rk_mt_sel hkc hu).mpr ⟨c_90, by
            rcases hw with ⟨_, h⟩ | ⟨h, _⟩
            · exact h
            · exact absurd h c_102⟩
          refine lv_aload_n hx hb d_Co_fill_105 rfl (lv_at hl 1 rfl) ?_
          refine lv_iload hx hb d_Co_fill_106 (lv_at hl 0 rfl) ?_
          refine lv_iload hx hb d_Co_fill_108 (lv_at hl 8 rfl) ?_
          refine lv_iand hx hb d_Co_fill_110 ?_
          refine mw_top (x' := nI (rk_part P (rk_tb K) (L.getD i 0))) (by rw [nx_and, rk_part_mask hkc]) ?_
          refine lv_iload hx hb d_Co_fill_111 (lv_at hl 0 rfl) ?_
          refine lv_iload hx hb d_Co_fill_113 (lv_at hl 8 rfl) ?_
          refine lv_iand hx hb d_Co_fill_115 ?_
          refine mw_top (x' := nI (rk_part P (rk_tb K) (L.getD i 0))) (by rw [nx_and, rk_part_mask hkc]) ?_
          refine lv_iload hx hb d_Co_fill_116 (lv_at hl 8 rfl) ?_
          refine mw_afterI hP hS hA (mw_runS (As := [.int (nI (rk_part P (rk_tb K) (L.getD i 0))), .int (nI (rk_m (rk_ink P (rk_tb K))))]) (rest := [.int (nI (rk_part P (rk_tb K) (L.getD i 0))), .ref (ac 0)]) J hK hZ hP hS hA (c_Co_placeOf l D cI cZ cP cR cC tS _ (mw_ov M ac cx 4) (rk_ink P (rk_tb K)) (rk_part P (rk_tb K) (L.getD i 0)) (rk_part_lt _ _ _)) (cwS 2 hts (mw_gS k_271 k_272 k_5 k_273) rfl rfl rfl (by decide +kernel) ⟨Nat.le_of_ble_eq_true rfl, Nat.le_of_ble_eq_true rfl⟩) rfl hl.1 rfl (Nat.le_of_ble_eq_true rfl) d_Co_fill_118 ⟨Nat.le_of_ble_eq_true rfl, Nat.le_of_ble_eq_true rfl⟩) (fun r M1 H locs hw hP hS => ?_)
          obtain ⟨rfl, rfl⟩ := hw
          refine lv_iload hx hb d_Co_fill_121 (lv_at hl 8 rfl) ?_
          refine mw_afterV hP hS hA (mw_runV (As := [.int (nI (rk_part P (rk_tb K) (L.getD i 0))), .int (nI (rk_place ((rk_ink P (rk_tb K)) 0) (rk_part P (rk_tb K) (L.getD i 0)))), .int (nI (rk_m (rk_ink P (rk_tb K))))]) (rest := []) J hK hZ hP hS hA (mw_ov_is (i := 0) hj (by decide) hx0) rfl (c_Co_take l D cI cZ cP cR cC tS _ M ac hj src K cx n1 pr1 tm1 pl1 hcx (rk_ink P (rk_tb K)) _ (rk_dg (L.getD i 0)) hfi (rk_seq_ps _) (fun j _ => rk_dg_lt _ j) (by omega) hpb) (cwV 3 hts (mw_gV k_274 k_276 s_Co_take k_5 k_277) rfl rfl rfl (by decide +kernel) ⟨Nat.le_of_ble_eq_true rfl, Nat.le_of_ble_eq_true rfl⟩) rfl hl.1 rfl (Nat.le_of_ble_eq_true rfl) d_Co_fill_123 ⟨Nat.le_of_ble_eq_true rfl, Nat.le_of_ble_eq_true rfl⟩) (fun M1 H locs hw hP hS => ?_)
          obtain ⟨cx2, n2, pr2, tm2, pl2, rfl, hc2x, hfi2, hpb2⟩ := hw
          refine lv_iinc (v := nI (i + 1)) (lv' := [(8, .int (nI (i + 1))), (9, .int (nI (L.getD i 0))), (0, .ref (ac 0)), (1, .ref tr), (2, .int (nI len)), (3, .int (nI Bd)), (4, .ref v), (5, .int (nI (rk_m (fun j => rk_num P j || rk_ink P (rk_tb Bd) j)))), (6, .int (nI (rk_v (fun j => rk_num P j || rk_ink P (rk_tb Bd) j) (rk_wt P u)))), (7, .int (nI (rk_m (rk_ink P (rk_tb K)))))]) hx hb d_Co_fill_126 hl (k := 9) rfl (nI_1 i) (by decide) rfl (fun ls hl => ?_)
          refine lv_goto (tgt := 59) hx hb d_Co_fill_129 (by decide) ?_
          exact ih_59 _ _ _ (by omega) ⟨cx2, n2, pr2, tm2, pl2, lv_sub hl [2, 3, 4, 5, 6, 7, 8, 9, 0] rfl, hc2x, (by rw [rk_take_succ (by omega), rk_seq_yes hmt]; exact hfi2), hpb2, hP, hS⟩
