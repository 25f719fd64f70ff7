/-! the reference: isNumber, isItem, code, part, free, loosen, bind, value, come -/
set_option maxHeartbeats 4000000 in
set_option maxRecDepth 100000 in
theorem c_Md_isNumber (l : Launch) (D : va_G) (cI cZ cP cR cC : ClassId) (tS : Nat) (sz : Nat) (M : mw_M) (x : Int32) :
    Met l y_Md_isNumber (.code y_Md_isNumber b_Md_isNumber 1 (some .boolean) :: gw) ({ frames := 0, cells := 0, slots := 0, locals := 0 }) (va_Pc [.int x] (mw_B D k_cl (k_tys cI cZ cP cR cC) (k_g tS) M sz)) (va_Qi (fun (r : Int32) (M1 : mw_M) => M1 = M ∧ ((r = 1 ∧ rk_isn x) ∨ (r = 0 ∧ ¬ rk_isn x))) (mw_E D k_cl M sz) (mw_A M sz)) 0 0 (mw_A M sz) := by
  refine mw_met (by decide) rfl (Nat.le_of_ble_eq_true rfl) ?_
  intro p e s m below meth c hsz J hr hlk hnm hK hZ hP hS hA ls hl
  subst hsz
  have hx := J.1
  have hb := J.2.1
  have hts := J.2.2.2.2
  have hl : lv_has ls 1 [(0, .int x)] := hl
  refine lv_iload_n hx hb d_Md_isNumber_0 rfl (lv_at hl 0 rfl) ?_
  refine lv_if_lt (tgt := 14) hx hb d_Md_isNumber_1 (by decide) (fun c_1 => ?_) (fun c_1 => ?_)
  · have hn := rk_isn_lo c_1
    refine lv_iconst (v := 0) hx hb d_Md_isNumber_14 (by decide) ?_
    exact mw_zret J hr hlk rfl hP hS d_Md_isNumber_15 (⟨rfl, Or.inr ⟨rfl, hn⟩⟩)
  · refine lv_iload_n hx hb d_Md_isNumber_4 rfl (lv_at hl 0 rfl) ?_
    refine lv_bipush (v := 32) hx hb d_Md_isNumber_5 (by decide) ?_
    refine lv_icmp_ge (tgt := 14) hx hb d_Md_isNumber_7 (by decide) (fun c_7 => ?_) (fun c_7 => ?_)
    · have hn := rk_isn_hi c_7
      refine lv_iconst (v := 0) hx hb d_Md_isNumber_14 (by decide) ?_
      exact mw_zret J hr hlk rfl hP hS d_Md_isNumber_15 (⟨rfl, Or.inr ⟨rfl, hn⟩⟩)
    · have hy := rk_isn_of c_1 c_7
      refine lv_iconst (v := 1) hx hb d_Md_isNumber_10 (by decide) ?_
      refine lv_goto (tgt := 15) hx hb d_Md_isNumber_11 (by decide) ?_
      exact mw_zret J hr hlk rfl hP hS d_Md_isNumber_15 (⟨rfl, Or.inl ⟨rfl, hy⟩⟩)

set_option maxHeartbeats 4000000 in
set_option maxRecDepth 100000 in
theorem c_Md_isItem (l : Launch) (D : va_G) (cI cZ cP cR cC : ClassId) (tS : Nat) (sz : Nat) (M : mw_M) (x : Int32) :
    Met l y_Md_isItem (.code y_Md_isItem b_Md_isItem 1 (some .boolean) :: gw) ({ frames := 0, cells := 0, slots := 0, locals := 0 }) (va_Pc [.int x] (mw_B D k_cl (k_tys cI cZ cP cR cC) (k_g tS) M sz)) (va_Qi (fun (r : Int32) (M1 : mw_M) => M1 = M ∧ ((r = 1 ∧ rk_isi x) ∨ (r = 0 ∧ ¬ rk_isi x))) (mw_E D k_cl M sz) (mw_A M sz)) 0 0 (mw_A M sz) := by
  refine mw_met (by decide) rfl (Nat.le_of_ble_eq_true rfl) ?_
  intro p e s m below meth c hsz J hr hlk hnm hK hZ hP hS hA ls hl
  subst hsz
  have hx := J.1
  have hb := J.2.1
  have hts := J.2.2.2.2
  have hl : lv_has ls 1 [(0, .int x)] := hl
  refine lv_iload_n hx hb d_Md_isItem_0 rfl (lv_at hl 0 rfl) ?_
  refine lv_bipush (v := (-8)) hx hb d_Md_isItem_1 (by decide) ?_
  refine lv_icmp_lt (tgt := 16) hx hb d_Md_isItem_3 (by decide) (fun c_3 => ?_) (fun c_3 => ?_)
  · have hn := rk_isi_lo c_3
    refine lv_iconst (v := 0) hx hb d_Md_isItem_16 (by decide) ?_
    exact mw_zret J hr hlk rfl hP hS d_Md_isItem_17 (⟨rfl, Or.inr ⟨rfl, hn⟩⟩)
  · refine lv_iload_n hx hb d_Md_isItem_6 rfl (lv_at hl 0 rfl) ?_
    refine lv_bipush (v := 32) hx hb d_Md_isItem_7 (by decide) ?_
    refine lv_icmp_ge (tgt := 16) hx hb d_Md_isItem_9 (by decide) (fun c_9 => ?_) (fun c_9 => ?_)
    · have hn := rk_isi_hi c_9
      refine lv_iconst (v := 0) hx hb d_Md_isItem_16 (by decide) ?_
      exact mw_zret J hr hlk rfl hP hS d_Md_isItem_17 (⟨rfl, Or.inr ⟨rfl, hn⟩⟩)
    · have hy := rk_isi_of c_3 c_9
      refine lv_iconst (v := 1) hx hb d_Md_isItem_12 (by decide) ?_
      refine lv_goto (tgt := 17) hx hb d_Md_isItem_13 (by decide) ?_
      exact mw_zret J hr hlk rfl hP hS d_Md_isItem_17 (⟨rfl, Or.inl ⟨rfl, hy⟩⟩)

set_option maxHeartbeats 4000000 in
set_option maxRecDepth 100000 in
theorem c_Md_code (l : Launch) (D : va_G) (cI cZ cP cR cC : ClassId) (tS : Nat) (sz : Nat) (M : mw_M) (x y z : Int32) (k : Nat) (hk : rk_tri x y z k) :
    Met l y_Md_code (.code y_Md_code b_Md_code 3 (some .int) :: gw) ({ frames := 0, cells := 0, slots := 0, locals := 0 }) (va_Pc [.int x, .int y, .int z] (mw_B D k_cl (k_tys cI cZ cP cR cC) (k_g tS) M sz)) (va_Qi (fun (r : Int32) (M1 : mw_M) => M1 = M ∧ r = nI k) (mw_E D k_cl M sz) (mw_A M sz)) 0 0 (mw_A M sz) := by
  refine mw_met (by decide) rfl (Nat.le_of_ble_eq_true rfl) ?_
  intro p e s m below meth c hsz J hr hlk hnm hK hZ hP hS hA ls hl
  subst hsz
  have hx := J.1
  have hb := J.2.1
  have hts := J.2.2.2.2
  have hl : lv_has ls 3 [(0, .int x), (1, .int y), (2, .int z)] := hl
  obtain ⟨i, j, n, hi, hj, hn, rfl, rfl, rfl, rfl⟩ := hk
  have hl : lv_has ls 3 [(0, .int (nI i)), (1, .int (nI j)), (2, .int (nI n))] := hl
  refine lv_sipush (v := 1024) hx hb d_Md_code_0 (by decide) ?_
  refine mw_top (x' := nI 1024) rfl ?_
  refine lv_iload_n hx hb d_Md_code_3 rfl (lv_at hl 0 rfl) ?_
  refine lv_imul hx hb d_Md_code_4 ?_
  refine mw_top (x' := nI (1024 * i)) (pk_mul _ _) ?_
  refine lv_bipush (v := 32) hx hb d_Md_code_5 (by decide) ?_
  refine mw_top (x' := nI 32) rfl ?_
  refine lv_iload_n hx hb d_Md_code_7 rfl (lv_at hl 1 rfl) ?_
  refine lv_imul hx hb d_Md_code_8 ?_
  refine mw_top (x' := nI (32 * j)) (pk_mul _ _) ?_
  refine lv_iadd hx hb d_Md_code_9 ?_
  refine mw_top (x' := nI (1024 * i + 32 * j)) (nI_add _ _) ?_
  refine lv_iload_n hx hb d_Md_code_10 rfl (lv_at hl 2 rfl) ?_
  refine lv_iadd hx hb d_Md_code_11 ?_
  refine mw_top (x' := nI (1024 * i + 32 * j + n)) (nI_add _ _) ?_
  exact mw_iret J hr hlk hP hS d_Md_code_12 (⟨rfl, by unfold rk_pk; congr 1; omega⟩)

set_option maxHeartbeats 4000000 in
set_option maxRecDepth 100000 in
theorem c_Md_part (l : Launch) (D : va_G) (cI cZ cP cR cC : ClassId) (tS : Nat) (sz : Nat) (M : mw_M) (k j : Nat) (hk : k < 32768) (hj : j < 3) :
    Met l y_Md_part (.code y_Md_part b_Md_part 2 (some .int) :: gw) ({ frames := 0, cells := 0, slots := 0, locals := 0 }) (va_Pc [.int (nI k), .int (nI j)] (mw_B D k_cl (k_tys cI cZ cP cR cC) (k_g tS) M sz)) (va_Qi (fun (r : Int32) (M1 : mw_M) => M1 = M ∧ r = nI (rk_dg k j)) (mw_E D k_cl M sz) (mw_A M sz)) 0 0 (mw_A M sz) := by
  refine mw_met (by decide) rfl (Nat.le_of_ble_eq_true rfl) ?_
  intro p e s m below meth c hsz J hr hlk hnm hK hZ hP hS hA ls hl
  subst hsz
  have hx := J.1
  have hb := J.2.1
  have hts := J.2.2.2.2
  have hl : lv_has ls 2 [(0, .int (nI k)), (1, .int (nI j))] := hl
  refine lv_iload_n hx hb d_Md_part_0 rfl (lv_at hl 1 rfl) ?_
  refine lv_if_ne (tgt := 12) hx hb d_Md_part_1 (by decide) (fun c_1 => ?_) (fun c_1 => ?_)
  · have hj0 : j ≠ 0 := fun z => c_1 ((rk_nI0 (by omega)).mpr z)
    refine lv_iload_n hx hb d_Md_part_12 rfl (lv_at hl 1 rfl) ?_
    refine lv_iconst (v := 1) hx hb d_Md_part_13 (by decide) ?_
    refine mw_top (x' := nI 1) rfl ?_
    refine lv_icmp_ne (tgt := 27) hx hb d_Md_part_14 (by decide) (fun c_14 => ?_) (fun c_14 => ?_)
    · have c_14 : ¬ (j = 1) := fun z => c_14 ((nI_eq (by omega) (by omega)).mpr z)
      have hj2 : j = 2 := by omega
      refine lv_iload_n hx hb d_Md_part_27 rfl (lv_at hl 0 rfl) ?_
      refine lv_bipush (v := 32) hx hb d_Md_part_28 (by decide) ?_
      refine mw_top (x' := nI 32) rfl ?_
      refine lv_irem hx hb d_Md_part_30 (by decide) ?_
      refine mw_top (x' := nI (k % 32)) (pk_rem (by omega) (by decide) (by decide)) ?_
      exact mw_iret J hr hlk hP hS d_Md_part_31 (⟨rfl, by rw [hj2, rk_dg2]⟩)
    · have c_14 : j = 1 := (nI_eq (by omega) (by omega)).mp c_14
      refine lv_iload_n hx hb d_Md_part_17 rfl (lv_at hl 0 rfl) ?_
      refine lv_bipush (v := 32) hx hb d_Md_part_18 (by decide) ?_
      refine mw_top (x' := nI 32) rfl ?_
      refine lv_idiv hx hb d_Md_part_20 (by decide) ?_
      refine mw_top (x' := nI (k / 32)) (pk_div (by omega) (by decide) (by decide)) ?_
      refine lv_bipush (v := 32) hx hb d_Md_part_21 (by decide) ?_
      refine mw_top (x' := nI 32) rfl ?_
      refine lv_irem hx hb d_Md_part_23 (by decide) ?_
      refine mw_top (x' := nI (k / 32 % 32)) (pk_rem (by omega) (by decide) (by decide)) ?_
      refine lv_goto (tgt := 31) hx hb d_Md_part_24 (by decide) ?_
      exact mw_iret J hr hlk hP hS d_Md_part_31 (⟨rfl, by rw [c_14, rk_dg1]⟩)
  · have hj0 : j = 0 := (rk_nI0 (by omega)).mp c_1
    refine lv_iload_n hx hb d_Md_part_4 rfl (lv_at hl 0 rfl) ?_
    refine lv_sipush (v := 1024) hx hb d_Md_part_5 (by decide) ?_
    refine mw_top (x' := nI 1024) rfl ?_
    refine lv_idiv hx hb d_Md_part_8 (by decide) ?_
    refine mw_top (x' := nI (k / 1024)) (pk_div (by omega) (by decide) (by decide)) ?_
    refine lv_goto (tgt := 31) hx hb d_Md_part_9 (by decide) ?_
    exact mw_iret J hr hlk hP hS d_Md_part_31 (⟨rfl, by rw [hj0, rk_dg0 hk]⟩)

set_option maxHeartbeats 4000000 in
set_option maxRecDepth 100000 in
theorem c_Md_free (l : Launch) (D : va_G) (cI cZ cP cR cC : ClassId) (tS : Nat) (sz : Nat) (B : mw_M) (ad : Nat → Nat) (cw : Nat → va_E) (ho : m_ov B ad) (sw ru dn : Nat) (h0 : cw 0 = m_0 ad sw ru dn) (bn : Nat → Nat) (h9 : cw 9 = .inl (cI, 9, .inl (rk_nf bn))) :
    Met l y_Md_free (.code y_Md_free b_Md_free 2 none :: gw) ({ frames := 0, cells := 0, slots := 0, locals := 0 }) (va_Pc [.ref (ad 0)] (mw_B D k_cl (k_tys cI cZ cP cR cC) (k_g tS) (mw_ov B ad cw 12) sz)) (va_Qv (fun (M1 : mw_M) => ∃ cw1 bn1, M1 = mw_ov B ad cw1 12 ∧ cw1 9 = .inl (cI, 9, .inl (rk_nf bn1)) ∧ (∀ i, i ≠ 9 → cw1 i = cw i) ∧ ∀ j, j < 9 → bn1 j = 0) (mw_E D k_cl (mw_ov B ad cw 12) sz) (mw_A (mw_ov B ad cw 12) sz)) 0 0 (mw_A (mw_ov B ad cw 12) sz) := by
  refine mw_met (by decide) rfl (Nat.le_of_ble_eq_true rfl) ?_
  intro p e s m below meth c hsz J hr hlk hnm hK hZ hP hS hA ls hl
  subst hsz
  have hx := J.1
  have hb := J.2.1
  have hts := J.2.2.2.2
  have hl : lv_has ls 2 [(0, .ref (ad 0))] := hl
  refine lv_iconst (v := 0) hx hb d_Md_free_0 (by decide) ?_
  refine mw_top (x' := nI 0) nI_0.symm ?_
  refine lv_istore_n (lv' := [(1, .int (nI 0)), (0, .ref (ad 0))]) hx hb d_Md_free_1 rfl hl (by decide) rfl (fun ls hl => ?_)
  refine mw_loop (W' := fun H locs ls => W p l e _ s m _ below meth c H locs _ _ _ (F0 m 2 ls [])) 9 (fun i H locs ls => ∃ (cx : Nat → va_E), ∃ (bx : Nat → Nat), lv_has ls 2 [(0, .ref (ad 0)), (1, .int (nI i))] ∧ (cx 9 = .inl (cI, 9, .inl (rk_nf bx))) ∧ (∀ i, i ≠ 9 → cx i = cw i) ∧ (∀ j, j < i → bx j = 0) ∧ mw_P D k_cl (mw_ov B ad cx 12) (mw_A (mw_ov B ad cw 12) s.heap.size) H ∧ va_S (mw_A (mw_ov B ad cw 12) s.heap.size) s.heap H locs) ?_ 9 0 (by omega) (by omega) _ _ _ ⟨cw, bn, lv_sub hl [1, 0] rfl, h9, (fun _ _ => rfl), (fun j hj => absurd hj (Nat.not_lt_zero j)), hP, hS⟩
  intro i H locs ls hi_2 hI ih_2
  obtain ⟨cx, bx, hl, hx9, hxo, hbz, hP, hS⟩ := hI
  refine lv_iload_n hx hb d_Md_free_2 rfl (lv_at hl 1 rfl) ?_
  refine lv_bipush (v := 9) hx hb d_Md_free_3 (by decide) ?_
  refine mw_top (x' := nI 9) rfl ?_
  refine lv_icmp_ge (tgt := 21) hx hb d_Md_free_5 (by decide) (fun c_5 => ?_) (fun c_5 => ?_)
  · have c_5 : 9 ≤ i := (nI_leI (by omega) (by omega)).mp c_5
    exact mw_vret J hr hlk hP hS d_Md_free_21 (⟨cx, bx, rfl, hx9, hxo, fun j hj => hbz j (by omega)⟩)
  · have c_5 : ¬ (9 ≤ i) := fun z => c_5 ((nI_leI (by omega) (by omega)).mpr z)
    refine lv_aload_n hx hb d_Md_free_8 rfl (lv_at hl 0 rfl) ?_
    refine mw_get (v := .ref (ad 9)) (ci := 7) (C := R_Md) (T := T_Md) (N := 14) J i_Md hK hP (mw_ov_is (i := 0) ho.1 (by decide) ((hxo 0 (by decide)).trans h0)) rfl 11 (by decide) (hts _ k_389) (fun _ h9 => h9) rfl d_Md_free_9 ?_
    refine lv_iload_n hx hb d_Md_free_12 rfl (lv_at hl 1 rfl) ?_
    refine lv_iconst (v := 0) hx hb d_Md_free_13 (by decide) ?_
    refine mw_top (x' := nI 0) nI_0.symm ?_
    refine mw_nast (k := i) (x := 0) J hK hP hS 0 (mw_ov_is (i := 9) ho.1 (by decide) hx9) rfl (by omega) (by decide) d_Md_free_14 (fun H locs hP hS => ?_)
    rw [mw_ov_set ho.1 (by decide)] at hP
    have hP : mw_P D k_cl (mw_ov B ad (va_up cx 9 (.inl (cI, 9, .inl (rk_nf (va_up bx i 0))))) 12) _ H := hP
    refine lv_iinc (v := nI (i + 1)) (lv' := [(1, .int (nI (i + 1))), (0, .ref (ad 0))]) hx hb d_Md_free_15 hl (k := 1) rfl (nI_1 i) (by decide) rfl (fun ls hl => ?_)
    refine lv_goto (tgt := 2) hx hb d_Md_free_18 (by decide) ?_
    exact ih_2 _ _ _ (by omega) ⟨_, (va_up bx i 0), lv_sub hl [1, 0] rfl, rfl, (fun z hz => (va_up_ne _ _ hz).trans (hxo z hz)), (lt_s (fun z hz => (va_up_ne _ _ (by omega)).trans (hbz z hz)) (va_up_self _ _ _)), hP, hS⟩

set_option maxHeartbeats 4000000 in
set_option maxRecDepth 100000 in
theorem c_Md_loosen (l : Launch) (D : va_G) (cI cZ cP cR cC : ClassId) (tS : Nat) (sz : Nat) (B : mw_M) (ad : Nat → Nat) (cw : Nat → va_E) (ho : m_ov B ad) (sw ru dn : Nat) (h0 : cw 0 = m_0 ad sw ru dn) (fx Nn : Nat) (hfx : fx = 5 ∨ fx = 11) (g : Nat → Int32) (hg : cw fx = .inl (cI, Nn, .inl g)) (at0 : Nat) (hNn : Nn < 2 ^ 31) (hat : at0 + 3 ≤ Nn) (P : rk_Pt) (hp : m_pt g at0 P) (n : Nat) (hn : n ≤ 3) (bn b0 : Nat → Nat) (h9 : cw 9 = .inl (cI, 9, .inl (rk_nf bn))) (hbn : ∀ x, x < 8 → bn (x + 1) = b0 x + rk_oc P n x) :
    Met l y_Md_loosen (.code y_Md_loosen b_Md_loosen 5 none :: gw) ({ frames := 0, cells := 0, slots := 0, locals := 0 }) (va_Pc [.ref (ad 0), .ref (ad fx), .int (nI at0), .int (nI n)] (mw_B D k_cl (k_tys cI cZ cP cR cC) (k_g tS) (mw_ov B ad cw 12) sz)) (va_Qv (fun (M1 : mw_M) => ∃ cw1 bn1, M1 = mw_ov B ad cw1 12 ∧ cw1 9 = .inl (cI, 9, .inl (rk_nf bn1)) ∧ (∀ i, i ≠ 9 → cw1 i = cw i) ∧ ∀ x, x < 8 → bn1 (x + 1) = b0 x) (mw_E D k_cl (mw_ov B ad cw 12) sz) (mw_A (mw_ov B ad cw 12) sz)) 0 0 (mw_A (mw_ov B ad cw 12) sz) := by
  refine mw_met (by decide) rfl (Nat.le_of_ble_eq_true rfl) ?_
  intro p e s m below meth c hsz J hr hlk hnm hK hZ hP hS hA ls hl
  subst hsz
  have hx := J.1
  have hb := J.2.1
  have hts := J.2.2.2.2
  have hl : lv_has ls 5 [(0, .ref (ad 0)), (1, .ref (ad fx)), (2, .int (nI at0)), (3, .int (nI n))] := hl
  refine lv_iconst (v := 0) hx hb d_Md_loosen_0 (by decide) ?_
  refine mw_top (x' := nI 0) nI_0.symm ?_
  refine lv_istore (lv' := [(4, .int (nI 0)), (0, .ref (ad 0)), (1, .ref (ad fx)), (2, .int (nI at0)), (3, .int (nI n))]) hx hb d_Md_loosen_1 hl (by decide) rfl (fun ls hl => ?_)
  refine mw_loop (W' := fun H locs ls => W p l e _ s m _ below meth c H locs _ _ _ (F0 m 3 ls [])) n (fun i H locs ls => ∃ (cx : Nat → va_E), ∃ (bx : Nat → Nat), lv_has ls 5 [(0, .ref (ad 0)), (1, .ref (ad fx)), (2, .int (nI at0)), (3, .int (nI n)), (4, .int (nI i))] ∧ (cx 9 = .inl (cI, 9, .inl (rk_nf bx))) ∧ (∀ i, i ≠ 9 → cx i = cw i) ∧ (∀ x, x < 8 → bx (x + 1) + rk_oc P i x = b0 x + rk_oc P n x) ∧ mw_P D k_cl (mw_ov B ad cx 12) (mw_A (mw_ov B ad cw 12) s.heap.size) H ∧ va_S (mw_A (mw_ov B ad cw 12) s.heap.size) s.heap H locs) ?_ n 0 (by omega) (by omega) _ _ _ ⟨cw, bn, lv_sub hl [1, 2, 3, 4, 0] rfl, h9, (fun _ _ => rfl), (fun x hx => hbn x hx), hP, hS⟩
  intro i H locs ls hi_3 hI ih_3
  obtain ⟨cx, bx, hl, hx9, hxo, hbx, hP, hS⟩ := hI
  refine lv_iload hx hb d_Md_loosen_3 (lv_at hl 4 rfl) ?_
  refine lv_iload_n hx hb d_Md_loosen_5 rfl (lv_at hl 3 rfl) ?_
  refine lv_icmp_ge (tgt := 40) hx hb d_Md_loosen_6 (by decide) (fun c_6 => ?_) (fun c_6 => ?_)
  · have c_6 : n ≤ i := (nI_leI (by omega) (by omega)).mp c_6
    have hie : i = n := by omega
    exact mw_vret J hr hlk hP hS d_Md_loosen_40 (⟨cx, bx, rfl, hx9, hxo, fun x hx => by have := hbx x hx; rw [hie] at this; omega⟩)
  · have c_6 : ¬ (n ≤ i) := fun z => c_6 ((nI_leI (by omega) (by omega)).mpr z)
    refine lv_aload_n hx hb d_Md_loosen_9 rfl (lv_at hl 1 rfl) ?_
    refine lv_iload_n hx hb d_Md_loosen_10 rfl (lv_at hl 2 rfl) ?_
    refine lv_iload hx hb d_Md_loosen_11 (lv_at hl 4 rfl) ?_
    refine lv_iadd hx hb d_Md_loosen_13 ?_
    refine mw_top (x' := nI (at0 + i)) (nI_add _ _) ?_
    refine mw_ialdN (k := (at0 + i)) J hK hP 0 (mw_ov_is (i := fx) ho.1 (by omega) ((hxo fx (by omega)).trans hg)) rfl (by omega) (by omega) d_Md_loosen_14 ?_
    refine mw_top (x' := rk_iv (rk_at P i)) (hp.2 i (by omega)) ?_
    refine lv_if_ge (tgt := 34) hx hb d_Md_loosen_15 (by decide) (fun c_15 => ?_) (fun c_15 => ?_)
    · have ha := (rk_at_num (hp.1 i (by omega)) (rk_nlt c_15)).1
      refine lv_iinc (v := nI (i + 1)) (lv' := [(4, .int (nI (i + 1))), (0, .ref (ad 0)), (1, .ref (ad fx)), (2, .int (nI at0)), (3, .int (nI n))]) hx hb d_Md_loosen_34 hl (k := 4) rfl (nI_1 i) (by decide) rfl (fun ls hl => ?_)
      refine lv_goto (tgt := 3) hx hb d_Md_loosen_37 (by decide) ?_
      exact ih_3 _ _ _ (by omega) ⟨cx, bx, lv_sub hl [1, 2, 3, 4, 0] rfl, hx9, hxo, (fun x hx => by rw [rk_oc_skip ha]; exact hbx x hx), hP, hS⟩
    · obtain ⟨x, hxl, hax, hng⟩ := rk_at_var (hp.1 i (by omega)) (rk_ltn c_15)
      refine lv_aload_n hx hb d_Md_loosen_18 rfl (lv_at hl 0 rfl) ?_
      refine mw_get (v := .ref (ad 9)) (ci := 7) (C := R_Md) (T := T_Md) (N := 14) J i_Md hK hP (mw_ov_is (i := 0) ho.1 (by decide) ((hxo 0 (by decide)).trans h0)) rfl 11 (by decide) (hts _ k_389) (fun _ h9 => h9) rfl d_Md_loosen_19 ?_
      refine lv_aload_n hx hb d_Md_loosen_22 rfl (lv_at hl 1 rfl) ?_
      refine lv_iload_n hx hb d_Md_loosen_23 rfl (lv_at hl 2 rfl) ?_
      refine lv_iload hx hb d_Md_loosen_24 (lv_at hl 4 rfl) ?_
      refine lv_iadd hx hb d_Md_loosen_26 ?_
      refine mw_top (x' := nI (at0 + i)) (nI_add _ _) ?_
      refine mw_ialdN (k := (at0 + i)) J hK hP 0 (mw_ov_is (i := fx) ho.1 (by omega) ((hxo fx (by omega)).trans hg)) rfl (by omega) (by omega) d_Md_loosen_27 ?_
      refine mw_top (x' := rk_iv (rk_at P i)) (hp.2 i (by omega)) ?_
      refine lv_ineg hx hb d_Md_loosen_28 ?_
      refine mw_top (x' := nI (x + 1)) hng ?_
      refine lv_dup2_11 hx hb d_Md_loosen_29 rfl rfl ?_
      refine mw_nald (k := (x + 1)) J hK hP 0 (mw_ov_is (i := 9) ho.1 (by decide) hx9) rfl (by omega) (by decide) d_Md_loosen_30 ?_
      refine lv_iconst (v := 1) hx hb d_Md_loosen_31 (by decide) ?_
      refine mw_top (x' := nI 1) rfl ?_
      refine lv_isub hx hb d_Md_loosen_32 ?_
      refine mw_top (x' := nI (bx (x + 1) - 1)) (pk_sub (lo_ge hbx (by omega) hxl hax)) ?_
      refine mw_nast (k := (x + 1)) (x := (bx (x + 1) - 1)) J hK hP hS 0 (mw_ov_is (i := 9) ho.1 (by decide) hx9) rfl (by omega) (by decide) d_Md_loosen_33 (fun H locs hP hS => ?_)
      rw [mw_ov_set ho.1 (by decide)] at hP
      have hP : mw_P D k_cl (mw_ov B ad (va_up cx 9 (.inl (cI, 9, .inl (rk_nf (va_up bx (x + 1) (bx (x + 1) - 1)))))) 12) _ H := hP
      refine lv_iinc (v := nI (i + 1)) (lv' := [(4, .int (nI (i + 1))), (0, .ref (ad 0)), (1, .ref (ad fx)), (2, .int (nI at0)), (3, .int (nI n))]) hx hb d_Md_loosen_34 hl (k := 4) rfl (nI_1 i) (by decide) rfl (fun ls hl => ?_)
      refine lv_goto (tgt := 3) hx hb d_Md_loosen_37 (by decide) ?_
      exact ih_3 _ _ _ (by omega) ⟨_, (va_up bx (x + 1) (bx (x + 1) - 1)), lv_sub hl [1, 2, 3, 4, 0] rfl, rfl, (fun z hz => (va_up_ne _ _ hz).trans (hxo z hz)), (lo_bx hbx (by omega) hax), hP, hS⟩

set_option maxHeartbeats 4000000 in
set_option maxRecDepth 100000 in
theorem c_Md_bind (l : Launch) (D : va_G) (cI cZ cP cR cC : ClassId) (tS : Nat) (sz : Nat) (B : mw_M) (ad : Nat → Nat) (cw : Nat → va_E) (ho : m_ov B ad) (sw ru dn : Nat) (h0 : cw 0 = m_0 ad sw ru dn) (fx Nn : Nat) (hfx : fx = 5 ∨ fx = 11) (g : Nat → Int32) (hg : cw fx = .inl (cI, Nn, .inl g)) (at0 : Nat) (hNn : Nn < 2 ^ 31) (hat : at0 + 3 ≤ Nn) (P : rk_Pt) (hp : m_pt g at0 P) (k : Nat) (hk : k < 32768) (vl bn b0 : Nat → Nat) (h8 : cw 8 = .inl (cI, 9, .inl (rk_nf vl))) (h9 : cw 9 = .inl (cI, 9, .inl (rk_nf bn))) (hvl : ∀ i, vl i < 32) (hbn : ∀ x, x < 8 → bn (x + 1) = b0 x) (hb0 : ∀ x, x < 8 → b0 x ≤ 9) :
    Met l y_Md_bind (.code y_Md_bind b_Md_bind 8 (some .boolean) :: gw) ({ frames := 1, cells := 0, slots := 0, locals := 24 }) (va_Pc [.ref (ad 0), .ref (ad fx), .int (nI at0), .int (nI k)] (mw_B D k_cl (k_tys cI cZ cP cR cC) (k_g tS) (mw_ov B ad cw 12) sz)) (va_Qi (fun (r : Int32) (M1 : mw_M) => ∃ cw1 vl1 bn1, M1 = mw_ov B ad cw1 12 ∧ cw1 8 = .inl (cI, 9, .inl (rk_nf vl1)) ∧ cw1 9 = .inl (cI, 9, .inl (rk_nf bn1)) ∧ (∀ i, i ≠ 8 → i ≠ 9 → cw1 i = cw i) ∧ (∀ i, vl1 i < 32) ∧ (∀ x, x < 8 → 0 < b0 x → vl1 (x + 1) = vl (x + 1)) ∧ ((r = 1 ∧ (∀ x, x < 8 → bn1 (x + 1) = b0 x + rk_oc P 3 x) ∧ rk_inst P (rk_as vl1) = k) ∨ (r = 0 ∧ (∀ x, x < 8 → bn1 (x + 1) = b0 x) ∧ ¬ ∃ v, rk_okV v ∧ (∀ x, x < 8 → 0 < b0 x → v x = vl (x + 1)) ∧ rk_inst P v = k))) (mw_E D k_cl (mw_ov B ad cw 12) sz) (mw_A (mw_ov B ad cw 12) sz)) 0 0 (mw_A (mw_ov B ad cw 12) sz) := by
  refine mw_met (by decide) rfl (Nat.le_of_ble_eq_true rfl) ?_
  intro p e s m below meth c hsz J hr hlk hnm hK hZ hP hS hA ls hl
  subst hsz
  have hx := J.1
  have hb := J.2.1
  have hts := J.2.2.2.2
  have hl : lv_has ls 8 [(0, .ref (ad 0)), (1, .ref (ad fx)), (2, .int (nI at0)), (3, .int (nI k))] := hl
  refine lv_iconst (v := 0) hx hb d_Md_bind_0 (by decide) ?_
  refine mw_top (x' := nI 0) nI_0.symm ?_
  refine lv_istore (lv' := [(4, .int (nI 0)), (0, .ref (ad 0)), (1, .ref (ad fx)), (2, .int (nI at0)), (3, .int (nI k))]) hx hb d_Md_bind_1 hl (by decide) rfl (fun ls hl => ?_)
  refine mw_loop (W' := fun H locs ls => W p l e _ s m _ below meth c H locs _ _ _ (F0 m 3 ls [])) 3 (fun i H locs ls => ∃ (cx : Nat → va_E), ∃ (vx : Nat → Nat), ∃ (bx : Nat → Nat), lv_has ls 8 [(0, .ref (ad 0)), (1, .ref (ad fx)), (2, .int (nI at0)), (3, .int (nI k)), (4, .int (nI i))] ∧ (cx 8 = .inl (cI, 9, .inl (rk_nf vx))) ∧ (cx 9 = .inl (cI, 9, .inl (rk_nf bx))) ∧ (∀ i, i ≠ 8 → i ≠ 9 → cx i = cw i) ∧ (∀ j, vx j < 32) ∧ (∀ x, x < 8 → 0 < b0 x → vx (x + 1) = vl (x + 1)) ∧ (∀ x, x < 8 → bx (x + 1) = b0 x + rk_oc P i x) ∧ (∀ j, j < i → rk_val (rk_at P j) (rk_as vx) = rk_dg k j) ∧ mw_P D k_cl (mw_ov B ad cx 12) (mw_A (mw_ov B ad cw 12) s.heap.size) H ∧ va_S (mw_A (mw_ov B ad cw 12) s.heap.size) s.heap H locs) ?_ 3 0 (by omega) (by omega) _ _ _ ⟨cw, vl, bn, lv_sub hl [1, 2, 3, 4, 0] rfl, h8, h9, (fun _ _ _ => rfl), hvl, (fun _ _ _ => rfl), (fun x hx => hbn x hx), (fun j hj => absurd hj (Nat.not_lt_zero j)), hP, hS⟩
  intro i H locs ls hi_3 hI ih_3
  obtain ⟨cx, vx, bx, hl, hx8, hx9, hxo, hvx, hvk, hbx, hm, hP, hS⟩ := hI
  refine lv_iload hx hb d_Md_bind_3 (lv_at hl 4 rfl) ?_
  refine lv_iconst (v := 3) hx hb d_Md_bind_5 (by decide) ?_
  refine mw_top (x' := nI 3) rfl ?_
  refine lv_icmp_ge (tgt := 124) hx hb d_Md_bind_6 (by decide) (fun c_6 => ?_) (fun c_6 => ?_)
  · have c_6 : 3 ≤ i := (nI_leI (by omega) (by omega)).mp c_6
    have hie : i = 3 := by omega
    refine lv_iconst (v := 1) hx hb d_Md_bind_124 (by decide) ?_
    exact mw_zret J hr hlk rfl hP hS d_Md_bind_125 (⟨cx, vx, bx, rfl, hx8, hx9, hxo, hvx, hvk, Or.inl ⟨rfl, fun x hx => by rw [hbx x hx, hie], bi_end hk (rk_as_ok hvx) (fun j hj => hm j (by omega))⟩⟩)
  · have c_6 : ¬ (3 ≤ i) := fun z => c_6 ((nI_leI (by omega) (by omega)).mpr z)
    refine lv_aload_n hx hb d_Md_bind_9 rfl (lv_at hl 1 rfl) ?_
    refine lv_iload_n hx hb d_Md_bind_10 rfl (lv_at hl 2 rfl) ?_
    refine lv_iload hx hb d_Md_bind_11 (lv_at hl 4 rfl) ?_
    refine lv_iadd hx hb d_Md_bind_13 ?_
    refine mw_top (x' := nI (at0 + i)) (nI_add _ _) ?_
    refine mw_ialdN (k := (at0 + i)) J hK hP 0 (mw_ov_is (i := fx) ho.1 (by omega) ((hxo fx (by omega) (by omega)).trans hg)) rfl (by omega) (by omega) d_Md_bind_14 ?_
    refine mw_top (x' := rk_iv (rk_at P i)) (hp.2 i (by omega)) ?_
    refine lv_istore (lv' := [(5, .int (rk_iv (rk_at P i))), (0, .ref (ad 0)), (1, .ref (ad fx)), (2, .int (nI at0)), (3, .int (nI k)), (4, .int (nI i))]) hx hb d_Md_bind_15 hl (by decide) rfl (fun ls hl => ?_)
    refine lv_iload_n hx hb d_Md_bind_17 rfl (lv_at hl 4 rfl) ?_
    refine lv_iload hx hb d_Md_bind_18 (lv_at hl 5 rfl) ?_
    refine mw_afterI hP hS hA (mw_runS (As := [.int (nI k), .int (nI i)]) (rest := []) J hK hZ hP hS hA (c_Md_part l D cI cZ cP cR cC tS _ (mw_ov B ad cx 12) k i hk (by omega)) (cwS 2 hts (mw_gS k_456 k_457 k_8 k_458) rfl rfl rfl (by decide +kernel) ⟨Nat.le_of_ble_eq_true rfl, Nat.le_of_ble_eq_true rfl⟩) rfl hl.1 rfl (Nat.le_of_ble_eq_true rfl) d_Md_bind_20 ⟨Nat.le_of_ble_eq_true rfl, Nat.le_of_ble_eq_true rfl⟩) (fun r M1 H locs hw hP hS => ?_)
    obtain ⟨rfl, rfl⟩ := hw
    refine lv_istore (lv' := [(6, .int (nI (rk_dg k i))), (5, .int (rk_iv (rk_at P i))), (0, .ref (ad 0)), (1, .ref (ad fx)), (2, .int (nI at0)), (3, .int (nI k)), (4, .int (nI i))]) hx hb d_Md_bind_23 hl (by decide) rfl (fun ls hl => ?_)
    refine lv_iload hx hb d_Md_bind_25 (lv_at hl 1 rfl) ?_
    refine lv_if_lt (tgt := 45) hx hb d_Md_bind_27 (by decide) (fun c_27 => ?_) (fun c_27 => ?_)
    · obtain ⟨x, hxl, hax, hng⟩ := rk_at_var (hp.1 i (by omega)) c_27
      have hge : ¬ 0 ≤ rk_iv (rk_at P i) := fun z => rk_nlt z c_27
      refine lv_aload_n hx hb d_Md_bind_45 rfl (lv_at hl 2 rfl) ?_
      refine mw_get (v := .ref (ad 9)) (ci := 7) (C := R_Md) (T := T_Md) (N := 14) J i_Md hK hP (mw_ov_is (i := 0) ho.1 (by decide) ((hxo 0 (by decide) (by decide)).trans h0)) rfl 11 (by decide) (hts _ k_389) (fun _ h9 => h9) rfl d_Md_bind_46 ?_
      refine lv_iload hx hb d_Md_bind_49 (lv_at hl 1 rfl) ?_
      refine lv_ineg hx hb d_Md_bind_51 ?_
      refine mw_top (x' := nI (x + 1)) hng ?_
      refine mw_nald (k := (x + 1)) J hK hP 0 (mw_ov_is (i := 9) ho.1 (by decide) hx9) rfl (by omega) (by decide) d_Md_bind_52 ?_
      refine lv_if_eq (tgt := 69) hx hb d_Md_bind_53 (by decide) (fun c_53 => ?_) (fun c_53 => ?_)
      · have hz0 : bx (x + 1) = 0 := (rk_nI0 (by have := hbx x hxl; have := hb0 x hxl; have := rk_oc_le P x i; omega)).mp c_53
        have hcc : (b0 x = 0 ∧ rk_oc P i x = 0) ∨ vx (x + 1) = rk_dg k i := Or.inl (by have := hbx x hxl; omega)
        refine lv_iconst (v := 1) hx hb d_Md_bind_69 (by decide) ?_
        refine lv_goto (tgt := 74) hx hb d_Md_bind_70 (by decide) ?_
        refine lv_istore (lv' := [(7, .int 1), (6, .int (nI (rk_dg k i))), (5, .int (rk_iv (rk_at P i))), (0, .ref (ad 0)), (1, .ref (ad fx)), (2, .int (nI at0)), (3, .int (nI k)), (4, .int (nI i))]) hx hb d_Md_bind_74 hl (by decide) rfl (fun ls hl => ?_)
        refine lv_iload hx hb d_Md_bind_76 (lv_at hl 0 rfl) ?_
        refine lv_if_ne (tgt := 91) hx hb d_Md_bind_78 (by decide) (fun c_78 => ?_) (fun c_78 => absurd c_78 (by decide))
        refine lv_iload hx hb d_Md_bind_91 (lv_at hl 2 rfl) ?_
        refine lv_if_ge (tgt := 118) hx hb d_Md_bind_93 (by decide) (fun c_93 => absurd c_93 (hge)) (fun c_93 => ?_)
        refine lv_aload_n hx hb d_Md_bind_96 rfl (lv_at hl 3 rfl) ?_
        refine mw_get (v := .ref (ad 8)) (ci := 7) (C := R_Md) (T := T_Md) (N := 14) J i_Md hK hP (mw_ov_is (i := 0) ho.1 (by decide) ((hxo 0 (by decide) (by decide)).trans h0)) rfl 10 (by decide) (hts _ k_388) (fun _ h9 => h9) rfl d_Md_bind_97 ?_
        refine lv_iload hx hb d_Md_bind_100 (lv_at hl 2 rfl) ?_
        refine lv_ineg hx hb d_Md_bind_102 ?_
        refine mw_top (x' := nI (x + 1)) hng ?_
        refine lv_iload hx hb d_Md_bind_103 (lv_at hl 1 rfl) ?_
        refine mw_nast (k := (x + 1)) (x := (rk_dg k i)) J hK hP hS 0 (mw_ov_is (i := 8) ho.1 (by decide) hx8) rfl (by omega) (by decide) d_Md_bind_105 (fun H locs hP hS => ?_)
        rw [mw_ov_set ho.1 (by decide)] at hP
        have hP : mw_P D k_cl (mw_ov B ad (va_up cx 8 (.inl (cI, 9, .inl (rk_nf (va_up vx (x + 1) (rk_dg k i)))))) 12) _ H := hP
        refine lv_aload_n hx hb d_Md_bind_106 rfl (lv_at hl 3 rfl) ?_
        refine mw_get (v := .ref (ad 9)) (ci := 7) (C := R_Md) (T := T_Md) (N := 14) J i_Md hK hP (mw_ov_is (i := 0) ho.1 (by decide) ((hxo 0 (by decide) (by decide)).trans h0)) rfl 11 (by decide) (hts _ k_389) (fun _ h9 => h9) rfl d_Md_bind_107 ?_
        refine lv_iload hx hb d_Md_bind_110 (lv_at hl 2 rfl) ?_
        refine lv_ineg hx hb d_Md_bind_112 ?_
        refine mw_top (x' := nI (x + 1)) hng ?_
        refine lv_dup2_11 hx hb d_Md_bind_113 rfl rfl ?_
        refine mw_nald (k := (x + 1)) J hK hP 0 (mw_ov_is (i := 9) ho.1 (by decide) hx9) rfl (by omega) (by decide) d_Md_bind_114 ?_
        refine lv_iconst (v := 1) hx hb d_Md_bind_115 (by decide) ?_
        refine mw_top (x' := nI 1) rfl ?_
        refine lv_iadd hx hb d_Md_bind_116 ?_
        refine mw_top (x' := nI (bx (x + 1) + 1)) (nI_add _ _) ?_
        refine mw_nast (k := (x + 1)) (x := (bx (x + 1) + 1)) J hK hP hS 0 (mw_ov_is (i := 9) ho.1 (by decide) hx9) rfl (by omega) (by decide) d_Md_bind_117 (fun H locs hP hS => ?_)
        rw [mw_ov_set ho.1 (by decide)] at hP
        have hP : mw_P D k_cl (mw_ov B ad (va_up (va_up cx 8 (.inl (cI, 9, .inl (rk_nf (va_up vx (x + 1) (rk_dg k i)))))) 9 (.inl (cI, 9, .inl (rk_nf (va_up bx (x + 1) (bx (x + 1) + 1)))))) 12) _ H := hP
        refine lv_iinc (v := nI (i + 1)) (lv' := [(4, .int (nI (i + 1))), (7, .int 1), (6, .int (nI (rk_dg k i))), (5, .int (rk_iv (rk_at P i))), (0, .ref (ad 0)), (1, .ref (ad fx)), (2, .int (nI at0)), (3, .int (nI k))]) hx hb d_Md_bind_118 hl (k := 7) rfl (nI_1 i) (by decide) rfl (fun ls hl => ?_)
        refine lv_goto (tgt := 3) hx hb d_Md_bind_121 (by decide) ?_
        exact ih_3 _ _ _ (by omega) ⟨_, (va_up vx (x + 1) (rk_dg k i)), (va_up bx (x + 1) (bx (x + 1) + 1)), lv_sub hl [4, 5, 6, 7, 0] rfl, rfl, rfl, (fun z h1 h2 => (va_up_ne _ _ h2).trans ((va_up_ne _ _ h1).trans (hxo z h1 h2))), (bi_lt hvx (rk_dg_lt k i)), (bi_vk hvk (hcc.imp (fun h => by omega) id)), (bi_bx hbx hax), (bi_var hm hax (hcc.imp (fun h => by omega) id)), hP, hS⟩
      · refine lv_aload_n hx hb d_Md_bind_56 rfl (lv_at hl 2 rfl) ?_
        refine mw_get (v := .ref (ad 8)) (ci := 7) (C := R_Md) (T := T_Md) (N := 14) J i_Md hK hP (mw_ov_is (i := 0) ho.1 (by decide) ((hxo 0 (by decide) (by decide)).trans h0)) rfl 10 (by decide) (hts _ k_388) (fun _ h9 => h9) rfl d_Md_bind_57 ?_
        refine lv_iload hx hb d_Md_bind_60 (lv_at hl 1 rfl) ?_
        refine lv_ineg hx hb d_Md_bind_62 ?_
        refine mw_top (x' := nI (x + 1)) hng ?_
        refine mw_nald (k := (x + 1)) J hK hP 0 (mw_ov_is (i := 8) ho.1 (by decide) hx8) rfl (by omega) (by decide) d_Md_bind_63 ?_
        refine lv_iload hx hb d_Md_bind_64 (lv_at hl 0 rfl) ?_
        refine lv_icmp_ne (tgt := 73) hx hb d_Md_bind_66 (by decide) (fun c_66 => ?_) (fun c_66 => ?_)
        · have c_66 : ¬ ((vx (x + 1)) = (rk_dg k i)) := fun z => c_66 ((nI_eq (by have := hvx (x + 1); omega) (by have := rk_dg_lt k i; omega)).mpr z)
          have hnz : ¬ b0 x + rk_oc P i x = 0 := fun z => c_53 (by rw [hbx x hxl, z, nI_0])
          refine lv_iconst (v := 0) hx hb d_Md_bind_73 (by decide) ?_
          refine lv_istore (lv' := [(7, .int 0), (6, .int (nI (rk_dg k i))), (5, .int (rk_iv (rk_at P i))), (0, .ref (ad 0)), (1, .ref (ad fx)), (2, .int (nI at0)), (3, .int (nI k)), (4, .int (nI i))]) hx hb d_Md_bind_74 hl (by decide) rfl (fun ls hl => ?_)
          refine lv_iload hx hb d_Md_bind_76 (lv_at hl 0 rfl) ?_
          refine lv_if_ne (tgt := 91) hx hb d_Md_bind_78 (by decide) (fun c_78 => absurd (rfl) c_78) (fun c_78 => ?_)
          refine lv_aload_n hx hb d_Md_bind_81 rfl (lv_at hl 3 rfl) ?_
          refine lv_aload_n hx hb d_Md_bind_82 rfl (lv_at hl 4 rfl) ?_
          refine lv_iload_n hx hb d_Md_bind_83 rfl (lv_at hl 5 rfl) ?_
          refine lv_iload hx hb d_Md_bind_84 (lv_at hl 7 rfl) ?_
          refine mw_afterV hP hS hA (mw_runV (As := [.ref (ad fx), .int (nI at0), .int (nI i)]) (rest := []) J hK hZ hP hS hA (mw_ov_is (i := 0) ho.1 (by decide) ((hxo 0 (by decide) (by decide)).trans h0)) rfl (c_Md_loosen l D cI cZ cP cR cC tS _ B ad cx ho sw ru dn ((hxo 0 (by decide) (by decide)).trans h0) fx Nn hfx g ((hxo fx (by omega) (by omega)).trans hg) at0 hNn hat P hp i (by omega) bx b0 hx9 hbx) (cwV 3 hts (mw_gV k_448 k_450 s_Md_loosen k_8 k_451) rfl rfl rfl (by decide +kernel) ⟨Nat.le_of_ble_eq_true rfl, Nat.le_of_ble_eq_true rfl⟩) rfl hl.1 rfl (Nat.le_of_ble_eq_true rfl) d_Md_bind_86 ⟨Nat.le_of_ble_eq_true rfl, Nat.le_of_ble_eq_true rfl⟩) (fun M1 H locs hw hP hS => ?_)
          obtain ⟨c2, b2, rfl, h29, h2o, h2b⟩ := hw
          refine lv_iconst (v := 0) hx hb d_Md_bind_89 (by decide) ?_
          exact mw_zret J hr hlk rfl hP hS d_Md_bind_90 (⟨c2, vx, b2, rfl, (h2o 8 (by decide)).trans hx8, h29, fun z h1 h2 => (h2o z h2).trans (hxo z h1 h2), hvx, hvk, Or.inr ⟨rfl, h2b, fun ⟨v, hv, hvv, hin⟩ => bi_no_var (by omega) hxl hm hvk hax hnz c_66 hv hvv hin⟩⟩)
        · have c_66 : (vx (x + 1)) = (rk_dg k i) := (nI_eq (by have := hvx (x + 1); omega) (by have := rk_dg_lt k i; omega)).mp c_66
          have hcc : (b0 x = 0 ∧ rk_oc P i x = 0) ∨ vx (x + 1) = rk_dg k i := Or.inr c_66
          refine lv_iconst (v := 1) hx hb d_Md_bind_69 (by decide) ?_
          refine lv_goto (tgt := 74) hx hb d_Md_bind_70 (by decide) ?_
          refine lv_istore (lv' := [(7, .int 1), (6, .int (nI (rk_dg k i))), (5, .int (rk_iv (rk_at P i))), (0, .ref (ad 0)), (1, .ref (ad fx)), (2, .int (nI at0)), (3, .int (nI k)), (4, .int (nI i))]) hx hb d_Md_bind_74 hl (by decide) rfl (fun ls hl => ?_)
          refine lv_iload hx hb d_Md_bind_76 (lv_at hl 0 rfl) ?_
          refine lv_if_ne (tgt := 91) hx hb d_Md_bind_78 (by decide) (fun c_78 => ?_) (fun c_78 => absurd c_78 (by decide))
          refine lv_iload hx hb d_Md_bind_91 (lv_at hl 2 rfl) ?_
          refine lv_if_ge (tgt := 118) hx hb d_Md_bind_93 (by decide) (fun c_93 => absurd c_93 (hge)) (fun c_93 => ?_)
          refine lv_aload_n hx hb d_Md_bind_96 rfl (lv_at hl 3 rfl) ?_
          refine mw_get (v := .ref (ad 8)) (ci := 7) (C := R_Md) (T := T_Md) (N := 14) J i_Md hK hP (mw_ov_is (i := 0) ho.1 (by decide) ((hxo 0 (by decide) (by decide)).trans h0)) rfl 10 (by decide) (hts _ k_388) (fun _ h9 => h9) rfl d_Md_bind_97 ?_
          refine lv_iload hx hb d_Md_bind_100 (lv_at hl 2 rfl) ?_
          refine lv_ineg hx hb d_Md_bind_102 ?_
          refine mw_top (x' := nI (x + 1)) hng ?_
          refine lv_iload hx hb d_Md_bind_103 (lv_at hl 1 rfl) ?_
          refine mw_nast (k := (x + 1)) (x := (rk_dg k i)) J hK hP hS 0 (mw_ov_is (i := 8) ho.1 (by decide) hx8) rfl (by omega) (by decide) d_Md_bind_105 (fun H locs hP hS => ?_)
          rw [mw_ov_set ho.1 (by decide)] at hP
          have hP : mw_P D k_cl (mw_ov B ad (va_up cx 8 (.inl (cI, 9, .inl (rk_nf (va_up vx (x + 1) (rk_dg k i)))))) 12) _ H := hP
          refine lv_aload_n hx hb d_Md_bind_106 rfl (lv_at hl 3 rfl) ?_
          refine mw_get (v := .ref (ad 9)) (ci := 7) (C := R_Md) (T := T_Md) (N := 14) J i_Md hK hP (mw_ov_is (i := 0) ho.1 (by decide) ((hxo 0 (by decide) (by decide)).trans h0)) rfl 11 (by decide) (hts _ k_389) (fun _ h9 => h9) rfl d_Md_bind_107 ?_
          refine lv_iload hx hb d_Md_bind_110 (lv_at hl 2 rfl) ?_
          refine lv_ineg hx hb d_Md_bind_112 ?_
          refine mw_top (x' := nI (x + 1)) hng ?_
          refine lv_dup2_11 hx hb d_Md_bind_113 rfl rfl ?_
          refine mw_nald (k := (x + 1)) J hK hP 0 (mw_ov_is (i := 9) ho.1 (by decide) hx9) rfl (by omega) (by decide) d_Md_bind_114 ?_
          refine lv_iconst (v := 1) hx hb d_Md_bind_115 (by decide) ?_
          refine mw_top (x' := nI 1) rfl ?_
          refine lv_iadd hx hb d_Md_bind_116 ?_
          refine mw_top (x' := nI (bx (x + 1) + 1)) (nI_add _ _) ?_
          refine mw_nast (k := (x + 1)) (x := (bx (x + 1) + 1)) J hK hP hS 0 (mw_ov_is (i := 9) ho.1 (by decide) hx9) rfl (by omega) (by decide) d_Md_bind_117 (fun H locs hP hS => ?_)
          rw [mw_ov_set ho.1 (by decide)] at hP
          have hP : mw_P D k_cl (mw_ov B ad (va_up (va_up cx 8 (.inl (cI, 9, .inl (rk_nf (va_up vx (x + 1) (rk_dg k i)))))) 9 (.inl (cI, 9, .inl (rk_nf (va_up bx (x + 1) (bx (x + 1) + 1)))))) 12) _ H := hP
          refine lv_iinc (v := nI (i + 1)) (lv' := [(4, .int (nI (i + 1))), (7, .int 1), (6, .int (nI (rk_dg k i))), (5, .int (rk_iv (rk_at P i))), (0, .ref (ad 0)), (1, .ref (ad fx)), (2, .int (nI at0)), (3, .int (nI k))]) hx hb d_Md_bind_118 hl (k := 7) rfl (nI_1 i) (by decide) rfl (fun ls hl => ?_)
          refine lv_goto (tgt := 3) hx hb d_Md_bind_121 (by decide) ?_
          exact ih_3 _ _ _ (by omega) ⟨_, (va_up vx (x + 1) (rk_dg k i)), (va_up bx (x + 1) (bx (x + 1) + 1)), lv_sub hl [4, 5, 6, 7, 0] rfl, rfl, rfl, (fun z h1 h2 => (va_up_ne _ _ h2).trans ((va_up_ne _ _ h1).trans (hxo z h1 h2))), (bi_lt hvx (rk_dg_lt k i)), (bi_vk hvk (hcc.imp (fun h => by omega) id)), (bi_bx hbx hax), (bi_var hm hax (hcc.imp (fun h => by omega) id)), hP, hS⟩
    · have ha := rk_at_num (hp.1 i (by omega)) c_27
      have hge : 0 ≤ rk_iv (rk_at P i) := Int32.not_lt.mp c_27
      refine lv_iload hx hb d_Md_bind_30 (lv_at hl 1 rfl) ?_
      refine mw_top (x' := nI (rk_at P i)) ha.2 ?_
      refine lv_iload hx hb d_Md_bind_32 (lv_at hl 0 rfl) ?_
      refine lv_icmp_ne (tgt := 41) hx hb d_Md_bind_34 (by decide) (fun c_34 => ?_) (fun c_34 => ?_)
      · have c_34 : ¬ ((rk_at P i) = (rk_dg k i)) := fun z => c_34 ((nI_eq (by have := ha.1; omega) (by have := rk_dg_lt k i; omega)).mpr z)
        refine lv_iconst (v := 0) hx hb d_Md_bind_41 (by decide) ?_
        refine lv_goto (tgt := 74) hx hb d_Md_bind_42 (by decide) ?_
        refine lv_istore (lv' := [(7, .int 0), (6, .int (nI (rk_dg k i))), (5, .int (rk_iv (rk_at P i))), (0, .ref (ad 0)), (1, .ref (ad fx)), (2, .int (nI at0)), (3, .int (nI k)), (4, .int (nI i))]) hx hb d_Md_bind_74 hl (by decide) rfl (fun ls hl => ?_)
        refine lv_iload hx hb d_Md_bind_76 (lv_at hl 0 rfl) ?_
        refine lv_if_ne (tgt := 91) hx hb d_Md_bind_78 (by decide) (fun c_78 => absurd (rfl) c_78) (fun c_78 => ?_)
        refine lv_aload_n hx hb d_Md_bind_81 rfl (lv_at hl 3 rfl) ?_
        refine lv_aload_n hx hb d_Md_bind_82 rfl (lv_at hl 4 rfl) ?_
        refine lv_iload_n hx hb d_Md_bind_83 rfl (lv_at hl 5 rfl) ?_
        refine lv_iload hx hb d_Md_bind_84 (lv_at hl 7 rfl) ?_
        refine mw_afterV hP hS hA (mw_runV (As := [.ref (ad fx), .int (nI at0), .int (nI i)]) (rest := []) J hK hZ hP hS hA (mw_ov_is (i := 0) ho.1 (by decide) ((hxo 0 (by decide) (by decide)).trans h0)) rfl (c_Md_loosen l D cI cZ cP cR cC tS _ B ad cx ho sw ru dn ((hxo 0 (by decide) (by decide)).trans h0) fx Nn hfx g ((hxo fx (by omega) (by omega)).trans hg) at0 hNn hat P hp i (by omega) bx b0 hx9 hbx) (cwV 3 hts (mw_gV k_448 k_450 s_Md_loosen k_8 k_451) rfl rfl rfl (by decide +kernel) ⟨Nat.le_of_ble_eq_true rfl, Nat.le_of_ble_eq_true rfl⟩) rfl hl.1 rfl (Nat.le_of_ble_eq_true rfl) d_Md_bind_86 ⟨Nat.le_of_ble_eq_true rfl, Nat.le_of_ble_eq_true rfl⟩) (fun M1 H locs hw hP hS => ?_)
        obtain ⟨c2, b2, rfl, h29, h2o, h2b⟩ := hw
        refine lv_iconst (v := 0) hx hb d_Md_bind_89 (by decide) ?_
        exact mw_zret J hr hlk rfl hP hS d_Md_bind_90 (⟨c2, vx, b2, rfl, (h2o 8 (by decide)).trans hx8, h29, fun z h1 h2 => (h2o z h2).trans (hxo z h1 h2), hvx, hvk, Or.inr ⟨rfl, h2b, fun ⟨v, hv, _, hin⟩ => bi_no_num (by omega) ha.1 c_34 hv hin⟩⟩)
      · have c_34 : (rk_at P i) = (rk_dg k i) := (nI_eq (by have := ha.1; omega) (by have := rk_dg_lt k i; omega)).mp c_34
        refine lv_iconst (v := 1) hx hb d_Md_bind_37 (by decide) ?_
        refine lv_goto (tgt := 74) hx hb d_Md_bind_38 (by decide) ?_
        refine lv_istore (lv' := [(7, .int 1), (6, .int (nI (rk_dg k i))), (5, .int (rk_iv (rk_at P i))), (0, .ref (ad 0)), (1, .ref (ad fx)), (2, .int (nI at0)), (3, .int (nI k)), (4, .int (nI i))]) hx hb d_Md_bind_74 hl (by decide) rfl (fun ls hl => ?_)
        refine lv_iload hx hb d_Md_bind_76 (lv_at hl 0 rfl) ?_
        refine lv_if_ne (tgt := 91) hx hb d_Md_bind_78 (by decide) (fun c_78 => ?_) (fun c_78 => absurd c_78 (by decide))
        refine lv_iload hx hb d_Md_bind_91 (lv_at hl 2 rfl) ?_
        refine lv_if_ge (tgt := 118) hx hb d_Md_bind_93 (by decide) (fun c_93 => ?_) (fun c_93 => absurd (hge) c_93)
        refine lv_iinc (v := nI (i + 1)) (lv' := [(4, .int (nI (i + 1))), (7, .int 1), (6, .int (nI (rk_dg k i))), (5, .int (rk_iv (rk_at P i))), (0, .ref (ad 0)), (1, .ref (ad fx)), (2, .int (nI at0)), (3, .int (nI k))]) hx hb d_Md_bind_118 hl (k := 7) rfl (nI_1 i) (by decide) rfl (fun ls hl => ?_)
        refine lv_goto (tgt := 3) hx hb d_Md_bind_121 (by decide) ?_
        exact ih_3 _ _ _ (by omega) ⟨cx, vx, bx, lv_sub hl [4, 5, 6, 7, 0] rfl, hx8, hx9, hxo, hvx, hvk, (fun x hx => by rw [rk_oc_skip ha.1]; exact hbx x hx), (bi_num hm ha.1 c_34), hP, hS⟩

set_option maxHeartbeats 4000000 in
set_option maxRecDepth 100000 in
theorem c_Md_value (l : Launch) (D : va_G) (cI cZ cP cR cC : ClassId) (tS : Nat) (sz : Nat) (B : mw_M) (ad : Nat → Nat) (cw : Nat → va_E) (ho : m_ov B ad) (sw ru dn : Nat) (h0 : cw 0 = m_0 ad sw ru dn) (a : Nat) (ha : a < 40) (vl : Nat → Nat) (h8 : cw 8 = .inl (cI, 9, .inl (rk_nf vl))) :
    Met l y_Md_value (.code y_Md_value b_Md_value 2 (some .int) :: gw) ({ frames := 0, cells := 0, slots := 0, locals := 0 }) (va_Pc [.ref (ad 0), .int (rk_iv a)] (mw_B D k_cl (k_tys cI cZ cP cR cC) (k_g tS) (mw_ov B ad cw 12) sz)) (va_Qi (fun (r : Int32) (M1 : mw_M) => M1 = mw_ov B ad cw 12 ∧ r = nI (rk_val a (rk_as vl))) (mw_E D k_cl (mw_ov B ad cw 12) sz) (mw_A (mw_ov B ad cw 12) sz)) 0 0 (mw_A (mw_ov B ad cw 12) sz) := by
  refine mw_met (by decide) rfl (Nat.le_of_ble_eq_true rfl) ?_
  intro p e s m below meth c hsz J hr hlk hnm hK hZ hP hS hA ls hl
  subst hsz
  have hx := J.1
  have hb := J.2.1
  have hts := J.2.2.2.2
  have hl : lv_has ls 2 [(0, .ref (ad 0)), (1, .int (rk_iv a))] := hl
  refine lv_iload_n hx hb d_Md_value_0 rfl (lv_at hl 1 rfl) ?_
  refine lv_if_lt (tgt := 8) hx hb d_Md_value_1 (by decide) (fun c_1 => ?_) (fun c_1 => ?_)
  · obtain ⟨x, hxl, hax, hng⟩ : ∃ x, x < 8 ∧ a = 32 + x ∧ -(rk_iv a) = nI (x + 1) := by
      rcases rk_iv_at a ha with ⟨_, _, h1⟩ | ⟨x, h1, h2, _, h3⟩
      · exact absurd c_1 h1
      · exact ⟨x, h1, h2, h3⟩
    refine lv_aload_n hx hb d_Md_value_8 rfl (lv_at hl 0 rfl) ?_
    refine mw_get (v := .ref (ad 8)) (ci := 7) (C := R_Md) (T := T_Md) (N := 14) J i_Md hK hP (mw_ov_is (i := 0) ho.1 (by decide) h0) rfl 10 (by decide) (hts _ k_388) (fun _ h9 => h9) rfl d_Md_value_9 ?_
    refine lv_iload_n hx hb d_Md_value_12 rfl (lv_at hl 1 rfl) ?_
    refine lv_ineg hx hb d_Md_value_13 ?_
    refine mw_top (x' := nI (x + 1)) hng ?_
    refine mw_nald (k := (x + 1)) J hK hP 0 (mw_ov_is (i := 8) ho.1 (by decide) h8) rfl (by omega) (by decide) d_Md_value_14 ?_
    exact mw_iret J hr hlk hP hS d_Md_value_15 (⟨rfl, by rw [hax, rk_val_var]; rfl⟩)
  · obtain ⟨hal, hav⟩ : a < 32 ∧ rk_iv a = nI a := by
      rcases rk_iv_at a ha with ⟨h1, h2, _⟩ | ⟨x, _, _, h1, _⟩
      · exact ⟨h1, h2⟩
      · exact absurd h1 c_1
    refine lv_iload_n hx hb d_Md_value_4 rfl (lv_at hl 1 rfl) ?_
    refine lv_goto (tgt := 15) hx hb d_Md_value_5 (by decide) ?_
    exact mw_iret J hr hlk hP hS d_Md_value_15 (⟨rfl, by rw [hav, rk_val_num hal]⟩)

theorem rk_nodup1 {L : List Nat} {k : Nat} (hn : L.Nodup) (hk : k ∉ L) : (L ++ [k]).Nodup := List.nodup_append.mpr ⟨hn, by simp, fun a ha b hb e => hk (by rw [← List.mem_singleton.mp hb, ← e]; exact ha)⟩
set_option maxHeartbeats 4000000 in
set_option maxRecDepth 100000 in
theorem c_Md_come (l : Launch) (D : va_G) (cI cZ cP cR cC : ClassId) (tS : Nat) (sz : Nat) (B : mw_M) (ad : Nat → Nat) (cw : Nat → va_E) (ho : m_ov B ad) (ru dn : Nat) (L : List Nat) (hrw : m_row cI cZ ad cw ru dn L) (k : Nat) (hk : k < 32768) :
    Met l y_Md_come (.code y_Md_come b_Md_come 2 (some .boolean) :: gw) ({ frames := 0, cells := 0, slots := 0, locals := 0 }) (va_Pc [.ref (ad 0), .int (nI k)] (mw_B D k_cl (k_tys cI cZ cP cR cC) (k_g tS) (mw_ov B ad cw 12) sz)) (va_Qi (fun (r : Int32) (M1 : mw_M) => ∃ cw1 L1, M1 = mw_ov B ad cw1 12 ∧ m_row cI cZ ad cw1 ru dn L1 ∧ (∀ i, i ≠ 0 → i ≠ 2 → i ≠ 4 → cw1 i = cw i) ∧ ((r = 1 ∧ k ∈ L ∧ L1 = L) ∨ (r = 1 ∧ k ∉ L ∧ L1 = L ++ [k]) ∨ (r = 0 ∧ L1 = L ∧ k ∉ L ∧ L.length = 300))) (mw_E D k_cl (mw_ov B ad cw 12) sz) (mw_A (mw_ov B ad cw 12) sz)) 0 0 (mw_A (mw_ov B ad cw 12) sz) := by
  refine mw_met (by decide) rfl (Nat.le_of_ble_eq_true rfl) ?_
  intro p e s m below meth c hsz J hr hlk hnm hK hZ hP hS hA ls hl
  subst hsz
  have hx := J.1
  have hb := J.2.1
  have hts := J.2.2.2.2
  have hl : lv_has ls 2 [(0, .ref (ad 0)), (1, .int (nI k))] := hl
  obtain ⟨h0, ⟨rw0, h4, hrow⟩, ⟨Hd, h2, hHd⟩, hL3, hnd, hlt⟩ := id hrw
  refine lv_aload_n hx hb d_Md_come_0 rfl (lv_at hl 0 rfl) ?_
  refine mw_get (v := .ref (ad 2)) (ci := 7) (C := R_Md) (T := T_Md) (N := 14) J i_Md hK hP (mw_ov_is (i := 0) ho.1 (by decide) h0) rfl 1 (by decide) (hts _ k_379) (fun _ h9 => h9) rfl d_Md_come_1 ?_
  refine lv_iload_n hx hb d_Md_come_4 rfl (lv_at hl 1 rfl) ?_
  refine mw_bald (k := k) J hK hP 1 (mw_ov_is (i := 2) ho.1 (by decide) h2) rfl hk (by decide) d_Md_come_5 ?_
  refine lv_if_eq (tgt := 11) hx hb d_Md_come_6 (by decide) (fun c_6 => ?_) (fun c_6 => ?_)
  · have hkL : k ∉ L := fun z => by
      rw [hHd k hk, decide_eq_true z] at c_6
      exact absurd c_6 (by decide)
    refine lv_aload_n hx hb d_Md_come_11 rfl (lv_at hl 0 rfl) ?_
    refine mw_get (v := .int (nI L.length)) (ci := 7) (C := R_Md) (T := T_Md) (N := 14) J i_Md hK hP (mw_ov_is (i := 0) ho.1 (by decide) h0) rfl 4 (by decide) (hts _ k_382) (fun _ h9 => h9) rfl d_Md_come_12 ?_
    refine lv_sipush (v := 300) hx hb d_Md_come_15 (by decide) ?_
    refine mw_top (x' := nI 300) rfl ?_
    refine lv_icmp_ne (tgt := 23) hx hb d_Md_come_18 (by decide) (fun c_18 => ?_) (fun c_18 => ?_)
    · have c_18 : ¬ (L.length = 300) := fun z => c_18 ((nI_eq (by omega) (by omega)).mpr z)
      refine lv_aload_n hx hb d_Md_come_23 rfl (lv_at hl 0 rfl) ?_
      refine mw_get (v := .ref (ad 2)) (ci := 7) (C := R_Md) (T := T_Md) (N := 14) J i_Md hK hP (mw_ov_is (i := 0) ho.1 (by decide) h0) rfl 1 (by decide) (hts _ k_379) (fun _ h9 => h9) rfl d_Md_come_24 ?_
      refine lv_iload_n hx hb d_Md_come_27 rfl (lv_at hl 1 rfl) ?_
      refine lv_iconst (v := 1) hx hb d_Md_come_28 (by decide) ?_
      refine mw_bast (k := k) (b := true) J hK hP hS 1 (by decide) (mw_ov_is (i := 2) ho.1 (by decide) h2) rfl hk (by decide) d_Md_come_29 (fun H locs hP hS => ?_)
      rw [mw_ov_set ho.1 (by decide)] at hP
      have hP : mw_P D k_cl (mw_ov B ad (va_up cw 2 (.inl (cZ, 32768, .inl (rk_bf (va_up Hd k true))))) 12) _ H := hP
      refine lv_aload_n hx hb d_Md_come_30 rfl (lv_at hl 0 rfl) ?_
      refine mw_get (v := .ref (ad 4)) (ci := 7) (C := R_Md) (T := T_Md) (N := 14) J i_Md hK hP (mw_ov_is (i := 0) ho.1 (by decide) h0) rfl 3 (by decide) (hts _ k_381) (fun _ h9 => h9) rfl d_Md_come_31 ?_
      refine lv_aload_n hx hb d_Md_come_34 rfl (lv_at hl 0 rfl) ?_
      refine mw_get (v := .int (nI L.length)) (ci := 7) (C := R_Md) (T := T_Md) (N := 14) J i_Md hK hP (mw_ov_is (i := 0) ho.1 (by decide) h0) rfl 4 (by decide) (hts _ k_382) (fun _ h9 => h9) rfl d_Md_come_35 ?_
      refine lv_iload_n hx hb d_Md_come_38 rfl (lv_at hl 1 rfl) ?_
      refine mw_nast (k := L.length) (x := k) J hK hP hS 0 (mw_ov_is (i := 4) ho.1 (by decide) h4) rfl (by omega) (by decide) d_Md_come_39 (fun H locs hP hS => ?_)
      rw [mw_ov_set ho.1 (by decide)] at hP
      have hP : mw_P D k_cl (mw_ov B ad (va_up (va_up cw 2 (.inl (cZ, 32768, .inl (rk_bf (va_up Hd k true))))) 4 (.inl (cI, 301, .inl (rk_nf (va_up rw0 L.length k))))) 12) _ H := hP
      refine lv_aload_n hx hb d_Md_come_40 rfl (lv_at hl 0 rfl) ?_
      refine lv_dup hx hb d_Md_come_41 rfl ?_
      refine mw_get (v := .int (nI L.length)) (ci := 7) (C := R_Md) (T := T_Md) (N := 14) J i_Md hK hP (mw_ov_is (i := 0) ho.1 (by decide) h0) rfl 4 (by decide) (hts _ k_382) (fun _ h9 => h9) rfl d_Md_come_42 ?_
      refine lv_iconst (v := 1) hx hb d_Md_come_45 (by decide) ?_
      refine mw_top (x' := nI 1) rfl ?_
      refine lv_iadd hx hb d_Md_come_46 ?_
      refine mw_top (x' := nI (L.length + 1)) (nI_add _ _) ?_
      refine mw_put (v := .int (nI (L.length + 1))) (ty := .int) (ci := 7) (C := R_Md) (T := T_Md) (N := 14) J i_Md t_Md o_Md n_Md hK hP hS (mw_ov_is (i := 0) ho.1 (by decide) h0) rfl 4 (by decide) (hts _ k_382) (fun _ h9 => h9) rfl rfl rfl rfl (Nat.le_of_ble_eq_true rfl) d_Md_come_47 (fun H locs hP hS => ?_)
      rw [mw_ov_set ho.1 (by decide)] at hP
      have hP : mw_P D k_cl (mw_ov B ad (va_up (va_up (va_up cw 2 (.inl (cZ, 32768, .inl (rk_bf (va_up Hd k true))))) 4 (.inl (cI, 301, .inl (rk_nf (va_up rw0 L.length k))))) 0 (.inr (7, [.ref (ad 1), .ref (ad 2), .ref (ad 3), .ref (ad 4), .int (nI (L.length + 1)), .ref (ad 5), .ref (ad 6), .int (nI ru), .ref (ad 7), .int (nI dn), .ref (ad 8), .ref (ad 9), .ref (ad 10), .ref (ad 11)]))) 12) _ H := hP
      refine lv_iconst (v := 1) hx hb d_Md_come_50 (by decide) ?_
      refine mw_zret J hr hlk rfl hP hS d_Md_come_51 (⟨_, L ++ [k], rfl, ⟨by rw [List.length_append]; rfl, ⟨_, rfl, fun z hz => ?_⟩, ⟨_, rfl, fun z hz => ?_⟩, by rw [List.length_append]; show L.length + 1 ≤ 300; omega, rk_nodup1 hnd hkL, fun z hz => (List.mem_append.mp hz).elim (hlt z) (fun h => by rw [List.mem_singleton.mp h]; exact hk)⟩, fun z g0 g2 g4 => (va_up_ne _ _ g0).trans ((va_up_ne _ _ g4).trans (va_up_ne _ _ g2)), Or.inr (Or.inl ⟨rfl, hkL, rfl⟩)⟩)
      · rw [List.length_append] at hz
        by_cases e : z = L.length
        · rw [e, va_up_self, rk_getD_last]
        · have hz : z < L.length + 1 := hz
          rw [va_up_ne _ _ e, rk_getD_app (by omega), hrow z (by omega)]
      · by_cases e : z = k
        · rw [e, va_up_self]
          exact (decide_eq_true (by simp)).symm
        · rw [va_up_ne _ _ e, hHd z hz]
          simp [e]
    · have c_18 : L.length = 300 := (nI_eq (by omega) (by omega)).mp c_18
      refine lv_iconst (v := 0) hx hb d_Md_come_21 (by decide) ?_
      exact mw_zret J hr hlk rfl hP hS d_Md_come_22 (⟨cw, L, rfl, hrw, fun _ _ _ _ => rfl, Or.inr (Or.inr ⟨rfl, rfl, hkL, c_18⟩)⟩)
  · have hkL : k ∈ L := Classical.byContradiction fun z => c_6 (by rw [hHd k hk, decide_eq_false z]; rfl)
    refine lv_iconst (v := 1) hx hb d_Md_come_9 (by decide) ?_
    exact mw_zret J hr hlk rfl hP hS d_Md_come_10 (⟨cw, L, rfl, hrw, fun _ _ _ _ => rfl, Or.inl ⟨rfl, hkL, rfl⟩⟩)
