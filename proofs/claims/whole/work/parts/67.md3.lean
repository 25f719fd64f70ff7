/-! the reference: reckon -/
set_option maxHeartbeats 4000000 in
set_option maxRecDepth 100000 in
theorem c_Md_reckon (l : Launch) (D : va_G) (cI cZ cP cR cC : ClassId) (tS : Nat) (sz : Nat) (B : mw_M) (ad : Nat → Nat) (cw : Nat → va_E) (ho : m_ov B ad) (S : Nat → Bool) (rs : List rk_Ru) (sw dn : Nat) (h0 : cw 0 = m_0 ad sw rs.length dn) (h1 : cw 1 = .inl (cZ, 32768, .inl (rk_bf S))) (Hd0 : Nat → Bool) (h2 : cw 2 = .inl (cZ, 32768, .inl (rk_bf Hd0))) (sp0 : Nat → Nat) (h3 : cw 3 = .inl (cI, 32768, .inl (rk_nf sp0))) (rw0 : Nat → Nat) (h4 : cw 4 = .inl (cI, 301, .inl (rk_nf rw0))) (it : Nat → Int32) (bd : Nat → Nat) (h5 : cw 5 = .inl (cI, 156, .inl it)) (h6 : cw 6 = .inl (cI, 13, .inl (rk_nf bd))) (hru : m_rul it bd rs) (hs8 : m_s8 cI cw) (hsd : ∀ j, S j = true → j < 32768) :
    Met l y_Md_reckon (.code y_Md_reckon b_Md_reckon 3 (some .boolean) :: gw) ({ frames := 3, cells := 0, slots := 0, locals := 76 }) (va_Pc [.ref (ad 0)] (mw_B D k_cl (k_tys cI cZ cP cR cC) (k_g tS) (mw_ov B ad cw 12) sz)) (va_Qi (fun (r : Int32) (M1 : mw_M) => ∃ cw1 L1 sp1, M1 = mw_ov B ad cw1 12 ∧ (∀ i, i ≠ 0 → i ≠ 2 → i ≠ 3 → i ≠ 4 → i ≠ 8 → i ≠ 9 → i ≠ 10 → cw1 i = cw i) ∧ m_s8 cI cw1 ∧ m_row cI cZ ad cw1 rs.length dn L1 ∧ cw1 3 = .inl (cI, 32768, .inl (rk_nf sp1)) ∧ ((r = 1 ∧ rk_holds S rs L1 ∧ ∀ c, c < 32768 → sp1 c = rk_support L1 rs c) ∨ (r = 0 ∧ rk_much S rs))) (mw_E D k_cl (mw_ov B ad cw 12) sz) (mw_A (mw_ov B ad cw 12) sz)) 0 0 (mw_A (mw_ov B ad cw 12) sz) := by
  refine mw_met (by decide) rfl (Nat.le_of_ble_eq_true rfl) ?_
  intro p e s m below meth c hsz J hr hlk hnm hK hZ hP hS hA ls hl
  subst hsz
  have hx := J.1
  have hb := J.2.1
  have hts := J.2.2.2.2
  have hl : lv_has ls 3 [(0, .ref (ad 0))] := hl
  have hr12 := hru.1
  refine lv_aload_n hx hb d_Md_reckon_0 rfl (lv_at hl 0 rfl) ?_
  refine lv_iconst (v := 0) hx hb d_Md_reckon_1 (by decide) ?_
  refine mw_top (x' := nI 0) nI_0.symm ?_
  refine mw_put (v := .int (nI 0)) (ty := .int) (ci := 7) (C := R_Md) (T := T_Md) (N := 14) J i_Md t_Md o_Md n_Md hK hP hS (mw_ov_is (i := 0) ho.1 (by decide) h0) rfl 4 (by decide) (hts _ k_382) (fun _ h9 => h9) rfl rfl rfl rfl (Nat.le_of_ble_eq_true rfl) d_Md_reckon_2 (fun H locs hP hS => ?_)
  rw [mw_ov_set ho.1 (by decide)] at hP
  have hP : mw_P D k_cl (mw_ov B ad (va_up cw 0 (.inr (7, [.ref (ad 1), .ref (ad 2), .ref (ad 3), .ref (ad 4), .int (nI 0), .ref (ad 5), .ref (ad 6), .int (nI rs.length), .ref (ad 7), .int (nI dn), .ref (ad 8), .ref (ad 9), .ref (ad 10), .ref (ad 11)]))) 12) _ H := hP
  refine lv_iconst (v := 0) hx hb d_Md_reckon_5 (by decide) ?_
  refine mw_top (x' := nI 0) nI_0.symm ?_
  refine lv_istore_n (lv' := [(1, .int (nI 0)), (0, .ref (ad 0))]) hx hb d_Md_reckon_6 rfl hl (by decide) rfl (fun ls hl => ?_)
  refine mw_loop (W' := fun H locs ls => W p l e _ s m _ below meth c H locs _ _ _ (F0 m 7 ls [])) 32768 (fun i H locs ls => ∃ (cx : Nat → va_E), ∃ (Hx : Nat → Bool), ∃ (sx : Nat → Nat), lv_has ls 3 [(0, .ref (ad 0)), (1, .int (nI i))] ∧ (cx 0 = m_0 ad 0 rs.length dn) ∧ (cx 2 = .inl (cZ, 32768, .inl (rk_bf Hx))) ∧ (cx 3 = .inl (cI, 32768, .inl (rk_nf sx))) ∧ (∀ i, i ≠ 0 → i ≠ 2 → i ≠ 3 → cx i = cw i) ∧ (∀ j, j < i → Hx j = false ∧ sx j = 0) ∧ mw_P D k_cl (mw_ov B ad cx 12) (mw_A (mw_ov B ad cw 12) s.heap.size) H ∧ va_S (mw_A (mw_ov B ad cw 12) s.heap.size) s.heap H locs) ?_ 32768 0 (by omega) (by omega) _ _ _ ⟨(va_up cw 0 (.inr (7, [.ref (ad 1), .ref (ad 2), .ref (ad 3), .ref (ad 4), .int (nI 0), .ref (ad 5), .ref (ad 6), .int (nI rs.length), .ref (ad 7), .int (nI dn), .ref (ad 8), .ref (ad 9), .ref (ad 10), .ref (ad 11)]))), Hd0, sp0, lv_sub hl [1, 0] rfl, rfl, h2, h3, (fun i a0 a2 a3 => va_up_ne _ _ a0), (fun j hj => absurd hj (Nat.not_lt_zero j)), hP, hS⟩
  intro i H locs ls hi_7 hI ih_7
  obtain ⟨cx, Hx, sx, hl, hx0, hx2, hx3, hxo, hHx, hP, hS⟩ := hI
  refine lv_iload_n hx hb d_Md_reckon_7 rfl (lv_at hl 1 rfl) ?_
  refine lv_ldc (v := 32768) hx hb J.2.2.2.1 (hts _ k_377) d_Md_reckon_8 ?_
  refine mw_top (x' := nI 32768) rfl ?_
  refine lv_icmp_ge (tgt := 33) hx hb d_Md_reckon_10 (by decide) (fun c_10 => ?_) (fun c_10 => ?_)
  · have c_10 : 32768 ≤ i := (nI_leI (by omega) (by omega)).mp c_10
    have hie : i = 32768 := by omega
    have hrwA : m_row cI cZ ad cx rs.length dn [] := ⟨hx0, ⟨rw0, (hxo 4 (by decide) (by decide) (by decide)).trans h4, fun i hi => absurd hi (Nat.not_lt_zero i)⟩, ⟨Hx, hx2, fun k hk => by rw [(hHx k (by omega)).1]; simp⟩, Nat.zero_le _, List.nodup_nil, fun k hk => absurd hk List.not_mem_nil⟩
    have hsx0 : ∀ c, c < 32768 → sx c = 0 := fun c hc => (hHx c (by omega)).2
    refine lv_iconst (v := 0) hx hb d_Md_reckon_33 (by decide) ?_
    refine mw_top (x' := nI 0) nI_0.symm ?_
    refine lv_istore_n (lv' := [(1, .int (nI 0)), (0, .ref (ad 0))]) hx hb d_Md_reckon_34 rfl hl (by decide) rfl (fun ls hl => ?_)
    refine mw_loop (W' := fun H locs ls => W p l e _ s m _ below meth c H locs _ _ _ (F0 m 35 ls [])) 32768 (fun j H locs ls => ∃ (cy : Nat → va_E), ∃ (L : List Nat), lv_has ls 3 [(0, .ref (ad 0)), (1, .int (nI j))] ∧ (m_row cI cZ ad cy rs.length dn L) ∧ (cy 3 = .inl (cI, 32768, .inl (rk_nf sx))) ∧ (∀ i, i ≠ 0 → i ≠ 2 → i ≠ 3 → i ≠ 4 → cy i = cw i) ∧ (∀ k, k ∈ L → S k = true) ∧ (∀ k, k < j → S k = true → k ∈ L) ∧ mw_P D k_cl (mw_ov B ad cy 12) (mw_A (mw_ov B ad cw 12) s.heap.size) H ∧ va_S (mw_A (mw_ov B ad cw 12) s.heap.size) s.heap H locs) ?_ 32768 0 (by omega) (by omega) _ _ _ ⟨cx, [], lv_sub hl [1, 0] rfl, hrwA, hx3, (fun i a0 a2 a3 a4 => hxo i a0 a2 a3), (fun k hk => absurd hk List.not_mem_nil), (fun k hk => absurd hk (Nat.not_lt_zero k)), hP, hS⟩
    intro j H locs ls hi_35 hI ih_35
    obtain ⟨cy, L, hl, hry, hy3, hyo, hLs, hSL, hP, hS⟩ := hI
    refine lv_iload_n hx hb d_Md_reckon_35 rfl (lv_at hl 1 rfl) ?_
    refine lv_ldc (v := 32768) hx hb J.2.2.2.1 (hts _ k_377) d_Md_reckon_36 ?_
    refine mw_top (x' := nI 32768) rfl ?_
    refine lv_icmp_ge (tgt := 66) hx hb d_Md_reckon_38 (by decide) (fun c_38 => ?_) (fun c_38 => ?_)
    · have c_38 : 32768 ≤ j := (nI_leI (by omega) (by omega)).mp c_38
      have hje : j = 32768 := by omega
      have hSLa : ∀ k, S k = true → k ∈ L := fun k hk => hSL k (by have := hsd k hk; omega) hk
      have hlfL : ∀ k, k ∈ L → rk_lfp S rs k := fun k hk => rk_lfp_said (hLs k hk)
      have hs8y : m_s8 cI cy := m_s8_s hs8 (hyo 8 (by decide) (by decide) (by decide) (by decide)) (hyo 9 (by decide) (by decide) (by decide) (by decide)) (hyo 10 (by decide) (by decide) (by decide) (by decide))
      refine lv_iconst (v := (-1)) hx hb d_Md_reckon_66 (by decide) ?_
      refine mw_top (x' := nI 0 + (-1)) (by decide) ?_
      refine lv_istore_n (lv' := [(1, .int (nI 0 + (-1))), (0, .ref (ad 0))]) hx hb d_Md_reckon_67 rfl hl (by decide) rfl (fun ls hl => ?_)
      refine mw_loopm (W' := fun H locs ls => W p l e _ s m _ below meth c H locs _ _ _ (F0 m 68 ls [])) 601 (fun i H locs ls => ∃ (cz : Nat → va_E), ∃ (N1 : List Nat), ∃ (b0 : Nat), lv_has ls 3 [(0, .ref (ad 0)), (1, .int (nI b0 + (-1)))] ∧ (m_row cI cZ ad cz rs.length dn (L ++ N1)) ∧ (cz 3 = .inl (cI, 32768, .inl (rk_nf sx))) ∧ (∀ i, i ≠ 0 → i ≠ 2 → i ≠ 3 → i ≠ 4 → i ≠ 8 → i ≠ 9 → i ≠ 10 → cz i = cw i) ∧ (m_s8 cI cz) ∧ (∀ z, z ∈ N1 → rk_gen L rs z) ∧ (b0 ≤ (L ++ N1).length + 1) ∧ (b0 = (L ++ N1).length + 1 → rk_clo rs (L ++ N1)) ∧ (i = rk_mc b0 (L ++ N1).length) ∧ mw_P D k_cl (mw_ov B ad cz 12) (mw_A (mw_ov B ad cw 12) s.heap.size) H ∧ va_S (mw_A (mw_ov B ad cw 12) s.heap.size) s.heap H locs) ?_ 601 (rk_mc 0 (L ++ []).length) (Nat.sub_le _ _) (rk_mc_le (by rw [List.append_nil]; exact hry.2.2.2.1)) _ _ _ ⟨cy, [], 0, lv_sub hl [1, 0] rfl, (by rw [List.append_nil]; exact hry), hy3, (fun i a0 a2 a3 a4 a8 a9 a10 => hyo i a0 a2 a3 a4), hs8y, (fun z hz => absurd hz List.not_mem_nil), (Nat.zero_le _), (fun g => absurd g (by omega)), rfl, hP, hS⟩
      intro i H locs ls hi_68 hI_68 ih_68
      obtain ⟨cz, N1, b0, hl, hrz, hz3, hzo, hz8, hgz, hbz, hclz, hme, hP, hS⟩ := hI_68
      have hz300 := hrz.2.2.2.1
      refine lv_iload_n hx hb d_Md_reckon_68 rfl (lv_at hl 1 rfl) ?_
      refine lv_aload_n hx hb d_Md_reckon_69 rfl (lv_at hl 0 rfl) ?_
      refine mw_get (v := .int (nI ((L ++ N1).length))) (ci := 7) (C := R_Md) (T := T_Md) (N := 14) J i_Md hK hP (mw_ov_is (i := 0) ho.1 (by decide) hrz.1) rfl 4 (by decide) (hts _ k_382) (fun _ h9 => h9) rfl d_Md_reckon_70 ?_
      refine lv_icmp_ge (tgt := 115) hx hb d_Md_reckon_73 (by decide) (fun c_73 => ?_) (fun c_73 => ?_)
      · have hbe : b0 = (L ++ N1).length + 1 := (rk_m1_le hz300 hbz).mp c_73
        have hh : rk_holds S rs (L ++ N1) := rk_holds_of hrz.2.2.2.2.1 hz300 hlfL (fun j hj => List.mem_append_left _ (hSLa j hj)) hgz (hclz hbe)
        refine lv_iconst (v := 0) hx hb d_Md_reckon_115 (by decide) ?_
        refine mw_top (x' := nI 0) nI_0.symm ?_
        refine lv_istore_n (lv' := [(2, .int (nI 0)), (0, .ref (ad 0)), (1, .int (nI b0 + (-1)))]) hx hb d_Md_reckon_116 rfl hl (by decide) rfl (fun ls hl => ?_)
        refine mw_loop (W' := fun H locs ls => W p l e _ s m _ below meth c H locs _ _ _ (F0 m 117 ls [])) rs.length (fun k H locs ls => ∃ (ck : Nat → va_E), ∃ (sk : Nat → Nat), lv_has ls 3 [(0, .ref (ad 0)), (1, .int (nI b0 + (-1))), (2, .int (nI k))] ∧ (m_row cI cZ ad ck rs.length dn (L ++ N1)) ∧ (ck 3 = .inl (cI, 32768, .inl (rk_nf sk))) ∧ (∀ i, i ≠ 0 → i ≠ 2 → i ≠ 3 → i ≠ 4 → i ≠ 8 → i ≠ 9 → i ≠ 10 → ck i = cw i) ∧ (m_s8 cI ck) ∧ (∀ c, c < 32768 → sk c = ((rs.take k).map (fun r => rk_sup (L ++ N1) r c)).sum) ∧ mw_P D k_cl (mw_ov B ad ck 12) (mw_A (mw_ov B ad cw 12) s.heap.size) H ∧ va_S (mw_A (mw_ov B ad cw 12) s.heap.size) s.heap H locs) ?_ rs.length 0 (by omega) (by omega) _ _ _ ⟨cz, sx, lv_sub hl [1, 2, 0] rfl, hrz, hz3, hzo, hz8, (fun c hc => by rw [hsx0 c hc, List.take_zero]; rfl), hP, hS⟩
        intro k H locs ls hi_117 hI ih_117
        obtain ⟨ck, sk, hl, hrk, hk3, hko, hk8, hsk, hP, hS⟩ := hI
        obtain ⟨⟨vk, hk8v, hvk⟩, ⟨bk, hk9⟩, pk, hk10⟩ := id hk8
        refine lv_iload_n hx hb d_Md_reckon_117 rfl (lv_at hl 2 rfl) ?_
        refine lv_aload_n hx hb d_Md_reckon_118 rfl (lv_at hl 0 rfl) ?_
        refine mw_get (v := .int (nI rs.length)) (ci := 7) (C := R_Md) (T := T_Md) (N := 14) J i_Md hK hP (mw_ov_is (i := 0) ho.1 (by decide) hrk.1) rfl 7 (by decide) (hts _ k_385) (fun _ h9 => h9) rfl d_Md_reckon_119 ?_
        refine lv_icmp_ge (tgt := 142) hx hb d_Md_reckon_122 (by decide) (fun c_122 => ?_) (fun c_122 => ?_)
        · have c_122 : rs.length ≤ k := (nI_leI (by omega) (by omega)).mp c_122
          have hke : k = rs.length := by omega
          refine lv_iconst (v := 1) hx hb d_Md_reckon_142 (by decide) ?_
          exact mw_zret J hr hlk rfl hP hS d_Md_reckon_143 (⟨ck, _, sk, rfl, hko, hk8, hrk, hk3, Or.inl ⟨rfl, hh, fun c hc => by rw [hsk c hc, hke, List.take_length]; rfl⟩⟩)
        · have c_122 : ¬ (rs.length ≤ k) := fun z => c_122 ((nI_leI (by omega) (by omega)).mpr z)
          refine lv_aload_n hx hb d_Md_reckon_125 rfl (lv_at hl 0 rfl) ?_
          refine mw_afterV hP hS hA (mw_runV (As := []) (rest := []) J hK hZ hP hS hA (mw_ov_is (i := 0) ho.1 (by decide) hrk.1) rfl (c_Md_free l D cI cZ cP cR cC tS _ B ad ck ho (L ++ N1).length rs.length dn hrk.1 bk hk9) (cwV 0 hts (mw_gV k_440 k_442 s_Md_free k_8 k_443) rfl rfl rfl (by decide +kernel) ⟨Nat.le_of_ble_eq_true rfl, Nat.le_of_ble_eq_true rfl⟩) rfl hl.1 rfl (Nat.le_of_ble_eq_true rfl) d_Md_reckon_126 ⟨Nat.le_of_ble_eq_true rfl, Nat.le_of_ble_eq_true rfl⟩) (fun M1 H locs hw hP hS => ?_)
          obtain ⟨cf, bf, rfl, hf9, hfo, hbf⟩ := hw
          refine lv_aload_n hx hb d_Md_reckon_129 rfl (lv_at hl 0 rfl) ?_
          refine lv_iload_n hx hb d_Md_reckon_130 rfl (lv_at hl 2 rfl) ?_
          refine lv_iconst (v := 1) hx hb d_Md_reckon_131 (by decide) ?_
          refine mw_afterI hP hS hA (mw_runV (As := [.int (nI k), .int 1]) (rest := []) J hK hZ hP hS hA (mw_ov_is (i := 0) ho.1 (by decide) ((hfo 0 (by decide)).trans hrk.1)) rfl (c_Md_allCases1 l D cI cZ cP cR cC tS _ B ad cf ho rs.length dn (L ++ N1) (m_row_s hrk (hfo 0 (by decide)) (hfo 2 (by decide)) (hfo 4 (by decide))) rs it bd ((hfo 5 (by decide)).trans ((hko 5 (by decide) (by decide) (by decide) (by decide) (by decide) (by decide) (by decide)).trans h5)) ((hfo 6 (by decide)).trans ((hko 6 (by decide) (by decide) (by decide) (by decide) (by decide) (by decide) (by decide)).trans h6)) hru k (by omega) vk ((hfo 8 (by decide)).trans hk8v) hvk bf hf9 hbf pk ((hfo 10 (by decide)).trans hk10) sk ((hfo 3 (by decide)).trans hk3)) (cwV 2 hts (mw_gV k_444 k_446 s_Md_allCases k_8 k_447) rfl rfl rfl (by decide +kernel) ⟨Nat.le_of_ble_eq_true rfl, Nat.le_of_ble_eq_true rfl⟩) rfl hl.1 rfl (Nat.le_of_ble_eq_true rfl) d_Md_reckon_132 ⟨Nat.le_of_ble_eq_true rfl, Nat.le_of_ble_eq_true rfl⟩) (fun r7 M1 H locs hw hP hS => ?_)
          obtain ⟨c6, s6, rfl, hr6, h63, h68, h69, h610, h6o, -, hs6⟩ := hw
          refine lv_pop hx hb d_Md_reckon_135 rfl ?_
          refine lv_iinc (v := nI (k + 1)) (lv' := [(2, .int (nI (k + 1))), (0, .ref (ad 0)), (1, .int (nI b0 + (-1)))]) hx hb d_Md_reckon_136 hl (k := 2) rfl (nI_1 k) (by decide) rfl (fun ls hl => ?_)
          refine lv_goto (tgt := 117) hx hb d_Md_reckon_139 (by decide) ?_
          exact ih_117 _ _ _ (by omega) ⟨c6, s6, lv_sub hl [1, 2, 0] rfl, hr6, h63, (fun i a0 a2 a3 a4 a8 a9 a10 => (h6o i a0 a2 a3 a4 a8 a9 a10).trans ((hfo i a9).trans (hko i a0 a2 a3 a4 a8 a9 a10))), ⟨h68, h69, h610⟩, (fun c hc => by rw [hs6 c, hsk c hc, rk_sum_take (by omega)]), hP, hS⟩
      · have hb0n : ¬ b0 = (L ++ N1).length + 1 := fun z => c_73 ((rk_m1_le hz300 hbz).mpr z)
        refine lv_aload_n hx hb d_Md_reckon_76 rfl (lv_at hl 0 rfl) ?_
        refine mw_get (v := .int (nI ((L ++ N1).length))) (ci := 7) (C := R_Md) (T := T_Md) (N := 14) J i_Md hK hP (mw_ov_is (i := 0) ho.1 (by decide) hrz.1) rfl 4 (by decide) (hts _ k_382) (fun _ h9 => h9) rfl d_Md_reckon_77 ?_
        refine lv_istore_n (lv' := [(1, .int (nI ((L ++ N1).length))), (0, .ref (ad 0))]) hx hb d_Md_reckon_80 rfl hl (by decide) rfl (fun ls hl => ?_)
        refine lv_iconst (v := 0) hx hb d_Md_reckon_81 (by decide) ?_
        refine mw_top (x' := nI 0) nI_0.symm ?_
        refine lv_istore_n (lv' := [(2, .int (nI 0)), (1, .int (nI ((L ++ N1).length))), (0, .ref (ad 0))]) hx hb d_Md_reckon_82 rfl hl (by decide) rfl (fun ls hl => ?_)
        refine mw_loop (W' := fun H locs ls => W p l e _ s m _ below meth c H locs _ _ _ (F0 m 83 ls [])) rs.length (fun k H locs ls => ∃ (ck : Nat → va_E), ∃ (N2 : List Nat), lv_has ls 3 [(0, .ref (ad 0)), (1, .int (nI (L ++ N1).length)), (2, .int (nI k))] ∧ (m_row cI cZ ad ck rs.length dn ((L ++ N1) ++ N2)) ∧ (ck 3 = .inl (cI, 32768, .inl (rk_nf sx))) ∧ (∀ i, i ≠ 0 → i ≠ 2 → i ≠ 3 → i ≠ 4 → i ≠ 8 → i ≠ 9 → i ≠ 10 → ck i = cw i) ∧ (m_s8 cI ck) ∧ (∀ z, z ∈ N2 → rk_gen L rs z) ∧ (∀ i, i < k → ∀ v, rk_case (rk_rth rs i) (· ∈ (L ++ N1)) v → rk_inst (rk_rth rs i).2 v ∈ ((L ++ N1) ++ N2)) ∧ mw_P D k_cl (mw_ov B ad ck 12) (mw_A (mw_ov B ad cw 12) s.heap.size) H ∧ va_S (mw_A (mw_ov B ad cw 12) s.heap.size) s.heap H locs) ?_ rs.length 0 (by omega) (by omega) _ _ _ ⟨cz, [], lv_sub hl [2, 1, 0] rfl, (by rw [List.append_nil]; exact hrz), hz3, hzo, hz8, (fun z hz => absurd hz List.not_mem_nil), (fun i hi => absurd hi (Nat.not_lt_zero i)), hP, hS⟩
        intro k H locs ls hi_83 hI ih_83
        obtain ⟨ck, N2, hl, hrk, hk3, hko, hk8, hgk, hck, hP, hS⟩ := hI
        obtain ⟨⟨vk, hk8v, hvk⟩, ⟨bk, hk9⟩, pk, hk10⟩ := id hk8
        refine lv_iload_n hx hb d_Md_reckon_83 rfl (lv_at hl 2 rfl) ?_
        refine lv_aload_n hx hb d_Md_reckon_84 rfl (lv_at hl 0 rfl) ?_
        refine mw_get (v := .int (nI rs.length)) (ci := 7) (C := R_Md) (T := T_Md) (N := 14) J i_Md hK hP (mw_ov_is (i := 0) ho.1 (by decide) hrk.1) rfl 7 (by decide) (hts _ k_385) (fun _ h9 => h9) rfl d_Md_reckon_85 ?_
        refine lv_icmp_ge (tgt := 112) hx hb d_Md_reckon_88 (by decide) (fun c_88 => ?_) (fun c_88 => ?_)
        · have c_88 : rs.length ≤ k := (nI_leI (by omega) (by omega)).mp c_88
          have hke : k = rs.length := by omega
          have hclN : (L ++ N1).length + 1 = (L ++ (N1 ++ N2)).length + 1 → rk_clo rs (L ++ (N1 ++ N2)) := fun e => by
            rw [← List.append_assoc, List.length_append (as := L ++ N1)] at e
            have hN2 : N2 = [] := List.eq_nil_of_length_eq_zero (by omega)
            rw [← List.append_assoc, hN2, List.append_nil]
            rw [hN2, List.append_nil] at hck
            exact fun i hi v hv => hck i (by omega) v hv
          refine lv_goto (tgt := 68) hx hb d_Md_reckon_112 (by decide) ?_
          exact ih_68 (rk_mc ((L ++ N1).length + 1) (L ++ (N1 ++ N2)).length) _ _ _ (by rw [hme, ← List.append_assoc, List.length_append (as := L ++ N1)]; exact rk_mc_lt hb0n) (rk_mc_le (by rw [← List.append_assoc]; exact hrk.2.2.2.1)) ⟨ck, (N1 ++ N2), ((L ++ N1).length + 1), (by rw [pk_m1]; exact lv_sub hl [0, 1] rfl), (by rw [← List.append_assoc]; exact hrk), hk3, hko, hk8, (fun z hz => (List.mem_append.mp hz).elim (hgz z) (hgk z)), (by rw [← List.append_assoc, List.length_append (as := L ++ N1)]; omega), hclN, rfl, hP, hS⟩
        · have c_88 : ¬ (rs.length ≤ k) := fun z => c_88 ((nI_leI (by omega) (by omega)).mpr z)
          refine lv_aload_n hx hb d_Md_reckon_91 rfl (lv_at hl 0 rfl) ?_
          refine mw_afterV hP hS hA (mw_runV (As := []) (rest := []) J hK hZ hP hS hA (mw_ov_is (i := 0) ho.1 (by decide) hrk.1) rfl (c_Md_free l D cI cZ cP cR cC tS _ B ad ck ho ((L ++ N1) ++ N2).length rs.length dn hrk.1 bk hk9) (cwV 0 hts (mw_gV k_440 k_442 s_Md_free k_8 k_443) rfl rfl rfl (by decide +kernel) ⟨Nat.le_of_ble_eq_true rfl, Nat.le_of_ble_eq_true rfl⟩) rfl hl.1 rfl (Nat.le_of_ble_eq_true rfl) d_Md_reckon_92 ⟨Nat.le_of_ble_eq_true rfl, Nat.le_of_ble_eq_true rfl⟩) (fun M1 H locs hw hP hS => ?_)
          obtain ⟨cf, bf, rfl, hf9, hfo, hbf⟩ := hw
          refine lv_aload_n hx hb d_Md_reckon_95 rfl (lv_at hl 0 rfl) ?_
          refine lv_iload_n hx hb d_Md_reckon_96 rfl (lv_at hl 2 rfl) ?_
          refine lv_iconst (v := 0) hx hb d_Md_reckon_97 (by decide) ?_
          refine mw_afterI hP hS hA (mw_runV (As := [.int (nI k), .int 0]) (rest := []) J hK hZ hP hS hA (mw_ov_is (i := 0) ho.1 (by decide) ((hfo 0 (by decide)).trans hrk.1)) rfl (c_Md_allCases0 l D cI cZ cP cR cC tS _ B ad cf ho rs.length dn ((L ++ N1) ++ N2) (m_row_s hrk (hfo 0 (by decide)) (hfo 2 (by decide)) (hfo 4 (by decide))) rs it bd ((hfo 5 (by decide)).trans ((hko 5 (by decide) (by decide) (by decide) (by decide) (by decide) (by decide) (by decide)).trans h5)) ((hfo 6 (by decide)).trans ((hko 6 (by decide) (by decide) (by decide) (by decide) (by decide) (by decide) (by decide)).trans h6)) hru k (by omega) vk ((hfo 8 (by decide)).trans hk8v) hvk bf hf9 hbf pk ((hfo 10 (by decide)).trans hk10)) (cwV 2 hts (mw_gV k_444 k_446 s_Md_allCases k_8 k_447) rfl rfl rfl (by decide +kernel) ⟨Nat.le_of_ble_eq_true rfl, Nat.le_of_ble_eq_true rfl⟩) rfl hl.1 rfl (Nat.le_of_ble_eq_true rfl) d_Md_reckon_98 ⟨Nat.le_of_ble_eq_true rfl, Nat.le_of_ble_eq_true rfl⟩) (fun r6 M1 H locs hw hP hS => ?_)
          obtain ⟨c6, N3, rfl, hr6, h63, h68, h69, h610, h6o, hg6, hcs6⟩ := hw
          have hgK : ∀ z, z ∈ ((L ++ N1) ++ N2) → rk_gen L rs z := fun z hz => (List.mem_append.mp hz).elim (fun h => (List.mem_append.mp h).elim rk_gen_in (hgz z)) (hgk z)
          have hg3 : ∀ z, z ∈ N3 → rk_gen L rs z := fun z hz => rk_gen_trans hgK (hg6 z hz)
          refine lv_if_ne (tgt := 106) hx hb d_Md_reckon_101 (by decide) (fun c_101 => ?_) (fun c_101 => ?_)
          · have hcl6 := (hcs6.resolve_right (fun g => c_101 g.1)).2
            have hck6 : ∀ i, i < k + 1 → ∀ v, rk_case (rk_rth rs i) (· ∈ (L ++ N1)) v → rk_inst (rk_rth rs i).2 v ∈ (L ++ N1) ++ (N2 ++ N3) := fun i hi v hv => by
              rw [← List.append_assoc]
              by_cases e : i = k
              · rw [e] at hv ⊢
                exact hcl6 v (rk_case_mono hv (fun z hz => List.mem_append_left _ hz))
              · exact List.mem_append_left _ (hck i (by omega) v hv)
            refine lv_iinc (v := nI (k + 1)) (lv' := [(2, .int (nI (k + 1))), (0, .ref (ad 0)), (1, .int (nI (L ++ N1).length))]) hx hb d_Md_reckon_106 hl (k := 2) rfl (nI_1 k) (by decide) rfl (fun ls hl => ?_)
            refine lv_goto (tgt := 83) hx hb d_Md_reckon_109 (by decide) ?_
            exact ih_83 _ _ _ (by omega) ⟨c6, (N2 ++ N3), lv_sub hl [1, 2, 0] rfl, (by rw [← List.append_assoc]; exact hr6), (h63.trans ((hfo 3 (by decide)).trans hk3)), (fun i a0 a2 a3 a4 a8 a9 a10 => (h6o i a0 a2 a3 a4 a8 a9 a10).trans ((hfo i a9).trans (hko i a0 a2 a3 a4 a8 a9 a10))), ⟨h68, h69, h610⟩, (fun z hz => (List.mem_append.mp hz).elim (hgk z) (hg3 z)), hck6, hP, hS⟩
          · obtain ⟨-, h300, z9, hz9, hgz9⟩ := hcs6.resolve_left (fun g => by rw [g.1] at c_101; exact absurd c_101 (by decide))
            have hmu : rk_much S rs := rk_much_of hlfL (rk_many_of hr6.2.2.2.2.1 h300 (fun z hz => (List.mem_append.mp hz).elim (hgK z) (hg3 z)) hz9 (rk_gen_trans hgK hgz9))
            refine lv_iconst (v := 0) hx hb d_Md_reckon_104 (by decide) ?_
            exact mw_zret J hr hlk rfl hP hS d_Md_reckon_105 (⟨c6, _, sx, rfl, fun i a0 a2 a3 a4 a8 a9 a10 => (h6o i a0 a2 a3 a4 a8 a9 a10).trans ((hfo i a9).trans (hko i a0 a2 a3 a4 a8 a9 a10)), ⟨h68, h69, h610⟩, hr6, h63.trans ((hfo 3 (by decide)).trans hk3), Or.inr ⟨rfl, hmu⟩⟩)
    · have c_38 : ¬ (32768 ≤ j) := fun z => c_38 ((nI_leI (by omega) (by omega)).mpr z)
      refine lv_aload_n hx hb d_Md_reckon_41 rfl (lv_at hl 0 rfl) ?_
      refine mw_get (v := .ref (ad 1)) (ci := 7) (C := R_Md) (T := T_Md) (N := 14) J i_Md hK hP (mw_ov_is (i := 0) ho.1 (by decide) hry.1) rfl 0 (by decide) (hts _ k_378) (fun _ h9 => h9) rfl d_Md_reckon_42 ?_
      refine lv_iload_n hx hb d_Md_reckon_45 rfl (lv_at hl 1 rfl) ?_
      refine mw_bald (k := j) J hK hP 1 (mw_ov_is (i := 1) ho.1 (by decide) ((hyo 1 (by decide) (by decide) (by decide) (by decide)).trans h1)) rfl (by omega) (by decide) d_Md_reckon_46 ?_
      refine lv_if_eq (tgt := 60) hx hb d_Md_reckon_47 (by decide) (fun c_47 => ?_) (fun c_47 => ?_)
      · have hsF : S j = false := by
          cases z : S j
          · rfl
          · rw [if_pos z] at c_47
            exact absurd c_47 (by decide)
        refine lv_iinc (v := nI (j + 1)) (lv' := [(1, .int (nI (j + 1))), (0, .ref (ad 0))]) hx hb d_Md_reckon_60 hl (k := 1) rfl (nI_1 j) (by decide) rfl (fun ls hl => ?_)
        refine lv_goto (tgt := 35) hx hb d_Md_reckon_63 (by decide) ?_
        exact ih_35 _ _ _ (by omega) ⟨cy, L, lv_sub hl [1, 0] rfl, hry, hy3, hyo, hLs, (fun k hk hs => by
            by_cases e : k = j
            · rw [e, hsF] at hs; cases hs
            · exact hSL k (by omega) hs), hP, hS⟩
      · have hsT : S j = true := by
          cases z : S j
          · exact absurd (if_neg (by rw [z]; decide)) c_47
          · rfl
        refine lv_aload_n hx hb d_Md_reckon_50 rfl (lv_at hl 0 rfl) ?_
        refine lv_iload_n hx hb d_Md_reckon_51 rfl (lv_at hl 1 rfl) ?_
        refine mw_afterI hP hS hA (mw_runV (As := [.int (nI j)]) (rest := []) J hK hZ hP hS hA (mw_ov_is (i := 0) ho.1 (by decide) hry.1) rfl (c_Md_come l D cI cZ cP cR cC tS _ B ad cy ho rs.length dn L hry j (by omega)) (cwV 1 hts (mw_gV k_436 k_438 s_Md_come k_8 k_439) rfl rfl rfl (by decide +kernel) ⟨Nat.le_of_ble_eq_true rfl, Nat.le_of_ble_eq_true rfl⟩) rfl hl.1 rfl (Nat.le_of_ble_eq_true rfl) d_Md_reckon_52 ⟨Nat.le_of_ble_eq_true rfl, Nat.le_of_ble_eq_true rfl⟩) (fun r5 M1 H locs hw hP hS => ?_)
        obtain ⟨c2, L2, rfl, hr2, h2o, hcs⟩ := hw
        refine lv_if_ne (tgt := 60) hx hb d_Md_reckon_55 (by decide) (fun c_55 => ?_) (fun c_55 => ?_)
        · obtain ⟨hj2, hL2, hL2s⟩ : j ∈ L2 ∧ (∀ k, k ∈ L → k ∈ L2) ∧ ∀ k, k ∈ L2 → S k = true := by
            rcases hcs with ⟨_, h, e⟩ | ⟨_, _, e⟩ | ⟨h, _⟩
            · rw [e]
              exact ⟨h, fun _ g => g, hLs⟩
            · rw [e]
              exact ⟨by simp, fun _ g => List.mem_append_left _ g, fun k hk => (List.mem_append.mp hk).elim (hLs k) (fun g => by rw [List.mem_singleton.mp g]; exact hsT)⟩
            · exact absurd h c_55
          refine lv_iinc (v := nI (j + 1)) (lv' := [(1, .int (nI (j + 1))), (0, .ref (ad 0))]) hx hb d_Md_reckon_60 hl (k := 1) rfl (nI_1 j) (by decide) rfl (fun ls hl => ?_)
          refine lv_goto (tgt := 35) hx hb d_Md_reckon_63 (by decide) ?_
          exact ih_35 _ _ _ (by omega) ⟨c2, L2, lv_sub hl [1, 0] rfl, hr2, ((h2o 3 (by decide) (by decide) (by decide)).trans hy3), (fun i a0 a2 a3 a4 => (h2o i a0 a2 a4).trans (hyo i a0 a2 a3 a4)), hL2s, (fun k hk hs => by
            by_cases e : k = j
            · rw [e]; exact hj2
            · exact hL2 k (hSL k (by omega) hs)), hP, hS⟩
        · obtain ⟨-, e2, hjn, h300⟩ := (hcs.resolve_left (fun g => by rw [g.1] at c_55; exact absurd c_55 (by decide))).resolve_left (fun g => by rw [g.1] at c_55; exact absurd c_55 (by decide))
          have hmu : rk_much S rs := rk_said_much hry.2.2.2.2.1 h300 hLs hjn hsT
          refine lv_iconst (v := 0) hx hb d_Md_reckon_58 (by decide) ?_
          exact mw_zret J hr hlk rfl hP hS d_Md_reckon_59 (⟨c2, L2, sx, rfl, fun i a0 a2 a3 a4 a8 a9 a10 => (h2o i a0 a2 a4).trans (hyo i a0 a2 a3 a4), m_s8_s hs8 ((h2o 8 (by decide) (by decide) (by decide)).trans (hyo 8 (by decide) (by decide) (by decide) (by decide))) ((h2o 9 (by decide) (by decide) (by decide)).trans (hyo 9 (by decide) (by decide) (by decide) (by decide))) ((h2o 10 (by decide) (by decide) (by decide)).trans (hyo 10 (by decide) (by decide) (by decide) (by decide))), hr2, (h2o 3 (by decide) (by decide) (by decide)).trans hy3, Or.inr ⟨rfl, hmu⟩⟩)
  · have c_10 : ¬ (32768 ≤ i) := fun z => c_10 ((nI_leI (by omega) (by omega)).mpr z)
    refine lv_aload_n hx hb d_Md_reckon_13 rfl (lv_at hl 0 rfl) ?_
    refine mw_get (v := .ref (ad 2)) (ci := 7) (C := R_Md) (T := T_Md) (N := 14) J i_Md hK hP (mw_ov_is (i := 0) ho.1 (by decide) hx0) rfl 1 (by decide) (hts _ k_379) (fun _ h9 => h9) rfl d_Md_reckon_14 ?_
    refine lv_iload_n hx hb d_Md_reckon_17 rfl (lv_at hl 1 rfl) ?_
    refine lv_iconst (v := 0) hx hb d_Md_reckon_18 (by decide) ?_
    refine mw_bast (k := i) (b := false) J hK hP hS 1 (by decide) (mw_ov_is (i := 2) ho.1 (by decide) hx2) rfl (by omega) (by decide) d_Md_reckon_19 (fun H locs hP hS => ?_)
    rw [mw_ov_set ho.1 (by decide)] at hP
    have hP : mw_P D k_cl (mw_ov B ad (va_up cx 2 (.inl (cZ, 32768, .inl (rk_bf (va_up Hx i false))))) 12) _ H := hP
    refine lv_aload_n hx hb d_Md_reckon_20 rfl (lv_at hl 0 rfl) ?_
    refine mw_get (v := .ref (ad 3)) (ci := 7) (C := R_Md) (T := T_Md) (N := 14) J i_Md hK hP (mw_ov_is (i := 0) ho.1 (by decide) hx0) rfl 2 (by decide) (hts _ k_380) (fun _ h9 => h9) rfl d_Md_reckon_21 ?_
    refine lv_iload_n hx hb d_Md_reckon_24 rfl (lv_at hl 1 rfl) ?_
    refine lv_iconst (v := 0) hx hb d_Md_reckon_25 (by decide) ?_
    refine mw_top (x' := nI 0) nI_0.symm ?_
    refine mw_nast (k := i) (x := 0) J hK hP hS 0 (mw_ov_is (i := 3) ho.1 (by decide) hx3) rfl (by omega) (by decide) d_Md_reckon_26 (fun H locs hP hS => ?_)
    rw [mw_ov_set ho.1 (by decide)] at hP
    have hP : mw_P D k_cl (mw_ov B ad (va_up (va_up cx 2 (.inl (cZ, 32768, .inl (rk_bf (va_up Hx i false))))) 3 (.inl (cI, 32768, .inl (rk_nf (va_up sx i 0))))) 12) _ H := hP
    refine lv_iinc (v := nI (i + 1)) (lv' := [(1, .int (nI (i + 1))), (0, .ref (ad 0))]) hx hb d_Md_reckon_27 hl (k := 1) rfl (nI_1 i) (by decide) rfl (fun ls hl => ?_)
    refine lv_goto (tgt := 7) hx hb d_Md_reckon_30 (by decide) ?_
    exact ih_7 _ _ _ (by omega) ⟨(va_up (va_up cx 2 (.inl (cZ, 32768, .inl (rk_bf (va_up Hx i false))))) 3 (.inl (cI, 32768, .inl (rk_nf (va_up sx i 0))))), (va_up Hx i false), (va_up sx i 0), lv_sub hl [1, 0] rfl, hx0, rfl, rfl, (fun j a0 a2 a3 => (va_up_ne _ _ a3).trans ((va_up_ne _ _ a2).trans (hxo j a0 a2 a3))), (lt_s (fun z hz => ⟨(va_up_ne _ _ (by omega)).trans (hHx z hz).1, (va_up_ne _ _ (by omega)).trans (hHx z hz).2⟩) ⟨va_up_self _ _ _, va_up_self _ _ _⟩), hP, hS⟩
