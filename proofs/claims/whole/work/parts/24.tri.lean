/-! Triples: the row of what holds -/
set_option maxHeartbeats 4000000 in
set_option maxRecDepth 100000 in
theorem c_Tr_has (l : Launch) (D : va_G) (cI cZ cP cR cC : ClassId) (tS : Nat) (sz : Nat) (B : mw_M) (ad : Nat → Nat) (cw : Nat → va_E) (pm : Nat) (L : List Nat) (ho : k_ov B ad) (hpm : B pm = some (.inr (0, [.ref (ad 4)]))) (ht : k_tr cI ad cw pm L) (k : Nat) (hk : k < 32768) :
    Met l y_Tr_has (.code y_Tr_has b_Tr_has 2 (some .boolean) :: gw) ({ frames := 1, cells := 0, slots := 0, locals := 21 }) (va_Pc [.ref (ad 2), .int (nI k)] (mw_B D k_cl (k_tys cI cZ cP cR cC) (k_g tS) (mw_ov B ad cw 21) sz)) (va_Qi (fun (r : Int32) (M1 : mw_M) => M1 = mw_ov B ad cw 21 ∧ r = if k ∈ L then 1 else 0) (mw_E D k_cl (mw_ov B ad cw 21) sz) (mw_A (mw_ov B ad cw 21) sz)) 0 0 (mw_A (mw_ov B ad cw 21) sz) := by
  refine mw_met (by decide) rfl (Nat.le_of_ble_eq_true rfl) ?_
  intro p e s m below meth c hsz J hr hlk hnm hK hZ hP hS hA ls hl
  subst hsz
  have hx := J.1
  have hb := J.2.1
  have hts := J.2.2.2.2
  have hl : lv_has ls 2 [(0, .ref (ad 2)), (1, .int (nI k))] := hl
  obtain ⟨fc, w, hc2, hc3, hc4, hfc, hW, hL3, hnd, hlt⟩ := ht
  refine lv_aload_n hx hb d_Tr_has_0 rfl (lv_at hl 0 rfl) ?_
  refine mw_get (v := .ref pm) (ci := 1) (C := R_Tr) (T := T_Tr) (N := 3) J i_Tr hK hP (mw_ov_is (i := 2) ho.1 (by decide) hc2) rfl 1 (by decide) (hts _ k_45) (fun _ h9 => h9) rfl d_Tr_has_1 ?_
  refine lv_iload_n hx hb d_Tr_has_4 rfl (lv_at hl 1 rfl) ?_
  refine mw_afterI hP hS hA (mw_runV (As := [.int (nI k)]) (rest := []) J hK hZ hP hS hA (mw_ov_fr ho.2 hpm) rfl (c_Mk_has l D cI cZ cP cR cC tS _ (mw_ov B ad cw 21) pm (ad 4) w _ k hk hW (mw_ov_fr ho.2 hpm) (mw_ov_is (i := 4) ho.1 (by decide) hc4)) (cwV 1 hts (mw_gV k_211 k_204 k_205 k_4 k_206) rfl rfl rfl (by decide +kernel) ⟨Nat.le_of_ble_eq_true rfl, Nat.le_of_ble_eq_true rfl⟩) rfl hl.1 rfl (Nat.le_of_ble_eq_true rfl) d_Tr_has_5 ⟨Nat.le_of_ble_eq_true rfl, Nat.le_of_ble_eq_true rfl⟩) (fun r M1 H locs hw hP hS => ?_)
  obtain ⟨rfl, rfl⟩ := hw
  exact mw_zret J hr hlk (by by_cases h : k ∈ L <;> simp [h] <;> rfl) hP hS d_Tr_has_8 (⟨rfl, by simp⟩)

set_option maxHeartbeats 4000000 in
set_option maxRecDepth 100000 in
theorem c_Tr_add (l : Launch) (D : va_G) (cI cZ cP cR cC : ClassId) (tS : Nat) (sz : Nat) (B : mw_M) (ad : Nat → Nat) (cw : Nat → va_E) (pm : Nat) (L : List Nat) (ho : k_ov B ad) (hpm : B pm = some (.inr (0, [.ref (ad 4)]))) (ht : k_tr cI ad cw pm L) (k : Nat) (hk : k < 32768) (hkL : k ∉ L) :
    Met l y_Tr_add (.code y_Tr_add b_Tr_add 2 (some .boolean) :: gw) ({ frames := 1, cells := 0, slots := 0, locals := 21 }) (va_Pc [.ref (ad 2), .int (nI k)] (mw_B D k_cl (k_tys cI cZ cP cR cC) (k_g tS) (mw_ov B ad cw 21) sz)) (va_Qi (fun (r : Int32) (M1 : mw_M) => (L.length < 300 ∧ r = 1 ∧ ∃ cw1, M1 = mw_ov B ad cw1 21 ∧ k_tr cI ad cw1 pm (L ++ [k]) ∧ ∀ i, i ≠ 2 → i ≠ 3 → i ≠ 4 → cw1 i = cw i) ∨ (L.length = 300 ∧ r = 0 ∧ M1 = mw_ov B ad cw 21)) (mw_E D k_cl (mw_ov B ad cw 21) sz) (mw_A (mw_ov B ad cw 21) sz)) 0 0 (mw_A (mw_ov B ad cw 21) sz) := by
  refine mw_met (by decide) rfl (Nat.le_of_ble_eq_true rfl) ?_
  intro p e s m below meth c hsz J hr hlk hnm hK hZ hP hS hA ls hl
  subst hsz
  have hx := J.1
  have hb := J.2.1
  have hts := J.2.2.2.2
  have hl : lv_has ls 2 [(0, .ref (ad 2)), (1, .int (nI k))] := hl
  obtain ⟨fc, w, hc2, hc3, hc4, hfc, hW, hL3, hnd, hlt⟩ := ht
  refine lv_aload_n hx hb d_Tr_add_0 rfl (lv_at hl 0 rfl) ?_
  refine mw_get (v := .int (nI L.length)) (ci := 1) (C := R_Tr) (T := T_Tr) (N := 3) J i_Tr hK hP (mw_ov_is (i := 2) ho.1 (by decide) hc2) rfl 2 (by decide) (hts _ k_46) (fun _ h9 => h9) rfl d_Tr_add_1 ?_
  refine lv_sipush (v := 300) hx hb d_Tr_add_4 (by decide) ?_
  refine mw_top (x' := nI 300) rfl ?_
  refine lv_icmp_lt (tgt := 12) hx hb d_Tr_add_7 (by decide) (fun c_7 => ?_) (fun c_7 => ?_)
  · have c_7 : L.length < 300 := (nI_ltI (by omega) (by omega)).mp c_7
    refine lv_aload_n hx hb d_Tr_add_12 rfl (lv_at hl 0 rfl) ?_
    refine mw_get (v := .ref (ad 3)) (ci := 1) (C := R_Tr) (T := T_Tr) (N := 3) J i_Tr hK hP (mw_ov_is (i := 2) ho.1 (by decide) hc2) rfl 0 (by decide) (hts _ k_41) (fun _ h9 => h9) rfl d_Tr_add_13 ?_
    refine lv_aload_n hx hb d_Tr_add_16 rfl (lv_at hl 0 rfl) ?_
    refine mw_get (v := .int (nI L.length)) (ci := 1) (C := R_Tr) (T := T_Tr) (N := 3) J i_Tr hK hP (mw_ov_is (i := 2) ho.1 (by decide) hc2) rfl 2 (by decide) (hts _ k_46) (fun _ h9 => h9) rfl d_Tr_add_17 ?_
    refine lv_iload_n hx hb d_Tr_add_20 rfl (lv_at hl 1 rfl) ?_
    refine mw_nast (k := L.length) (x := k) J hK hP hS 0 (mw_ov_is (i := 3) ho.1 (by decide) hc3) rfl (by omega) (by decide) d_Tr_add_21 (fun H locs hP hS => ?_)
    rw [mw_ov_set ho.1 (by decide)] at hP
    have hP : mw_P D k_cl (mw_ov B ad (va_up cw 3 (.inl (cI, 300, .inl (rk_nf (va_up fc L.length k))))) 21) _ H := hP
    refine lv_aload_n hx hb d_Tr_add_22 rfl (lv_at hl 0 rfl) ?_
    refine lv_dup hx hb d_Tr_add_23 rfl ?_
    refine mw_get (v := .int (nI L.length)) (ci := 1) (C := R_Tr) (T := T_Tr) (N := 3) J i_Tr hK hP (mw_ov_is (i := 2) ho.1 (by decide) hc2) rfl 2 (by decide) (hts _ k_46) (fun _ h9 => h9) rfl d_Tr_add_24 ?_
    refine lv_iconst (v := 1) hx hb d_Tr_add_27 (by decide) ?_
    refine lv_iadd hx hb d_Tr_add_28 ?_
    refine mw_top (x' := nI (L.length + 1)) (nI_1 _) ?_
    refine mw_put (v := .int (nI (L.length + 1))) (ty := .int) (ci := 1) (C := R_Tr) (T := T_Tr) (N := 3) J i_Tr t_Tr o_Tr n_Tr hK hP hS (mw_ov_is (i := 2) ho.1 (by decide) hc2) rfl 2 (by decide) (hts _ k_46) (fun _ h9 => h9) rfl rfl rfl rfl (Nat.le_of_ble_eq_true rfl) d_Tr_add_29 (fun H locs hP hS => ?_)
    rw [mw_ov_set ho.1 (by decide)] at hP
    have hP : mw_P D k_cl (mw_ov B ad (va_up (va_up cw 3 (.inl (cI, 300, .inl (rk_nf (va_up fc L.length k))))) 2 (.inr (1, [.ref (ad 3), .ref pm, .int (nI (L.length + 1))]))) 21) _ H := hP
    refine lv_aload_n hx hb d_Tr_add_32 rfl (lv_at hl 0 rfl) ?_
    refine mw_get (v := .ref pm) (ci := 1) (C := R_Tr) (T := T_Tr) (N := 3) J i_Tr hK hP (mw_ov_is (i := 2) ho.1 (by decide) rfl) rfl 1 (by decide) (hts _ k_45) (fun _ h9 => h9) rfl d_Tr_add_33 ?_
    refine lv_iload_n hx hb d_Tr_add_36 rfl (lv_at hl 1 rfl) ?_
    refine mw_afterV hP hS hA (mw_runV (As := [.int (nI k)]) (rest := []) J hK hZ hP hS hA (mw_ov_fr ho.2 hpm) rfl (c_Mk_put l D cI cZ cP cR cC tS _ _ pm (ad 4) w _ k hk hW (mw_ov_fr ho.2 hpm) (mw_ov_is (i := 4) ho.1 (by decide) hc4)) (cwV 1 hts (mw_gV k_220 k_221 k_222 k_4 k_223) rfl rfl rfl (by decide +kernel) ⟨Nat.le_of_ble_eq_true rfl, Nat.le_of_ble_eq_true rfl⟩) rfl hl.1 rfl (Nat.le_of_ble_eq_true rfl) d_Tr_add_37 ⟨Nat.le_of_ble_eq_true rfl, Nat.le_of_ble_eq_true rfl⟩) (fun M1 H locs hw hP hS => ?_)
    obtain ⟨w1, hW1, rfl⟩ := hw
    rw [mw_ov_set ho.1 (by decide)] at hP
    have hP : mw_P D k_cl (mw_ov B ad (va_up (va_up (va_up cw 3 (.inl (cI, 300, .inl (rk_nf (va_up fc L.length k))))) 2 (.inr (1, [.ref (ad 3), .ref pm, .int (nI (L.length + 1))]))) 4 (.inl (cI, 1024, .inl w1))) 21) _ H := hP
    refine lv_iconst (v := 1) hx hb d_Tr_add_40 (by decide) ?_
    refine mw_zret J hr hlk rfl hP hS d_Tr_add_41 (Or.inl ⟨by omega, rfl, _, rfl, ⟨_, w1, by rw [List.length_append]; rfl, rfl, rfl, fun i hi => ?_, by rw [← rk_set_add]; exact hW1, by simp; omega, List.nodup_append.mpr ⟨hnd, by simp, fun a ha b hb e => hkL (by rw [← List.mem_singleton.mp hb, ← e]; exact ha)⟩, fun z hz => (List.mem_append.mp hz).elim (hlt z) (fun h => by rw [List.mem_singleton.mp h]; exact hk)⟩, fun i h2 h3 h4 => by rw [va_up_ne _ _ h4, va_up_ne _ _ h2, va_up_ne _ _ h3]⟩)
    rw [List.length_append] at hi
    by_cases e : i = L.length
    · subst e
      rw [va_up_self, rk_getD_last]
    · rw [va_up_ne _ _ e, rk_getD_app (by simp at hi; omega)]
      exact hfc i (by simp at hi; omega)
  · have c_7 : ¬ (L.length < 300) := fun z => c_7 ((nI_ltI (by omega) (by omega)).mpr z)
    refine lv_iconst (v := 0) hx hb d_Tr_add_10 (by decide) ?_
    exact mw_zret J hr hlk rfl hP hS d_Tr_add_11 (Or.inr ⟨by omega, rfl, rfl⟩)

set_option maxHeartbeats 4000000 in
set_option maxRecDepth 100000 in
theorem c_Tr_cutTo (l : Launch) (D : va_G) (cI cZ cP cR cC : ClassId) (tS : Nat) (sz : Nat) (B : mw_M) (ad : Nat → Nat) (cw : Nat → va_E) (pm : Nat) (L : List Nat) (ho : k_ov B ad) (hpm : B pm = some (.inr (0, [.ref (ad 4)]))) (ht : k_tr cI ad cw pm L) (j : Nat) (hj0 : j ≤ L.length) :
    Met l y_Tr_cutTo (.code y_Tr_cutTo b_Tr_cutTo 3 none :: gw) ({ frames := 1, cells := 0, slots := 0, locals := 21 }) (va_Pc [.ref (ad 2), .int (nI j)] (mw_B D k_cl (k_tys cI cZ cP cR cC) (k_g tS) (mw_ov B ad cw 21) sz)) (va_Qv (fun (M1 : mw_M) => ∃ cw1, M1 = mw_ov B ad cw1 21 ∧ k_tr cI ad cw1 pm (L.take j) ∧ ∀ i, i ≠ 2 → i ≠ 3 → i ≠ 4 → cw1 i = cw i) (mw_E D k_cl (mw_ov B ad cw 21) sz) (mw_A (mw_ov B ad cw 21) sz)) 0 0 (mw_A (mw_ov B ad cw 21) sz) := by
  refine mw_met (by decide) rfl (Nat.le_of_ble_eq_true rfl) ?_
  intro p e s m below meth c hsz J hr hlk hnm hK hZ hP hS hA ls hl
  subst hsz
  have hx := J.1
  have hb := J.2.1
  have hts := J.2.2.2.2
  have hl : lv_has ls 3 [(0, .ref (ad 2)), (1, .int (nI j))] := hl
  obtain ⟨fc, w, hc2, hc3, hc4, hfc, hW, hL3, hnd, hlt⟩ := ht
  refine lv_iload_n hx hb d_Tr_cutTo_0 rfl (lv_at hl 1 rfl) ?_
  refine lv_iconst (v := 0) hx hb d_Tr_cutTo_1 (by decide) ?_
  refine va_mmax hx hb (J.2.2.1.trans hl.1.symm) J.2.2.2.1 (hts _ k_287) (hts _ k_229) (hts _ k_9) (hts _ k_230) (Nat.le_of_ble_eq_true rfl) (Nat.le_of_ble_eq_true rfl) (Nat.le_of_ble_eq_true rfl) (Nat.le_of_ble_eq_true rfl) d_Tr_cutTo_2 ?_
  refine mw_top (x' := nI j) (if_neg (nI_pos (by omega))) ?_
  refine lv_istore_n (lv' := [(2, .int (nI j)), (0, .ref (ad 2)), (1, .int (nI j))]) hx hb d_Tr_cutTo_5 rfl hl (by decide) rfl (fun ls hl => ?_)
  refine mw_loop (W' := fun H locs ls => W p l e _ s m _ below meth c H locs _ _ _ (F0 m 6 ls [])) L.length (fun i H locs ls => ∃ (cx : Nat → va_E), ∃ (w2 : Nat → Int32), lv_has ls 3 [(0, .ref (ad 2)), (1, .int (nI j)), (2, .int (nI i))] ∧ (cx 4 = .inl (cI, 1024, .inl w2)) ∧ (rk_W w2 (fun k => decide (k ∈ L.take j ++ L.drop i))) ∧ (∀ i, i ≠ 4 → cx i = cw i) ∧ (j ≤ i) ∧ mw_P D k_cl (mw_ov B ad cx 21) (mw_A (mw_ov B ad cw 21) s.heap.size) H ∧ va_S (mw_A (mw_ov B ad cw 21) s.heap.size) s.heap H locs) ?_ L.length j (by omega) (by omega) _ _ _ ⟨cw, w, lv_sub hl [1, 2, 0] rfl, hc4, (by rw [List.take_append_drop]; exact hW), (fun _ _ => rfl), (Nat.le_refl _), hP, hS⟩
  intro i H locs ls hi_6 hI ih_6
  obtain ⟨cx, w2, hl, hx4, hW2, hot, hji, hP, hS⟩ := hI
  refine lv_iload_n hx hb d_Tr_cutTo_6 rfl (lv_at hl 2 rfl) ?_
  refine lv_aload_n hx hb d_Tr_cutTo_7 rfl (lv_at hl 0 rfl) ?_
  refine mw_get (v := .int (nI L.length)) (ci := 1) (C := R_Tr) (T := T_Tr) (N := 3) J i_Tr hK hP (mw_ov_is (i := 2) ho.1 (by decide) ((hot 2 (by decide)).trans hc2)) rfl 2 (by decide) (hts _ k_46) (fun _ h9 => h9) rfl d_Tr_cutTo_8 ?_
  refine lv_icmp_ge (tgt := 33) hx hb d_Tr_cutTo_11 (by decide) (fun c_11 => ?_) (fun c_11 => ?_)
  · have c_11 : L.length ≤ i := (nI_leI (by omega) (by omega)).mp c_11
    have hi0 : i = L.length := by omega
    rw [hi0, List.drop_length, List.append_nil] at hW2
    refine lv_aload_n hx hb d_Tr_cutTo_33 rfl (lv_at hl 0 rfl) ?_
    refine lv_aload_n hx hb d_Tr_cutTo_34 rfl (lv_at hl 0 rfl) ?_
    refine mw_get (v := .int (nI L.length)) (ci := 1) (C := R_Tr) (T := T_Tr) (N := 3) J i_Tr hK hP (mw_ov_is (i := 2) ho.1 (by decide) ((hot 2 (by decide)).trans hc2)) rfl 2 (by decide) (hts _ k_46) (fun _ h9 => h9) rfl d_Tr_cutTo_35 ?_
    refine lv_iload_n hx hb d_Tr_cutTo_38 rfl (lv_at hl 1 rfl) ?_
    refine lv_iconst (v := 0) hx hb d_Tr_cutTo_39 (by decide) ?_
    refine va_mmax hx hb (J.2.2.1.trans hl.1.symm) J.2.2.2.1 (hts _ k_287) (hts _ k_229) (hts _ k_9) (hts _ k_230) (Nat.le_of_ble_eq_true rfl) (Nat.le_of_ble_eq_true rfl) (Nat.le_of_ble_eq_true rfl) (Nat.le_of_ble_eq_true rfl) d_Tr_cutTo_40 ?_
    refine mw_top (x' := nI j) (if_neg (nI_pos (by omega))) ?_
    refine va_mmin hx hb (J.2.2.1.trans hl.1.symm) J.2.2.2.1 (hts _ k_292) (hts _ k_293) (hts _ k_9) (hts _ k_294) (Nat.le_of_ble_eq_true rfl) (Nat.le_of_ble_eq_true rfl) (Nat.le_of_ble_eq_true rfl) (Nat.le_of_ble_eq_true rfl) d_Tr_cutTo_43 ?_
    refine mw_top (x' := nI j) (rk_min hj0 (by omega)) ?_
    refine mw_put (v := .int (nI j)) (ty := .int) (ci := 1) (C := R_Tr) (T := T_Tr) (N := 3) J i_Tr t_Tr o_Tr n_Tr hK hP hS (mw_ov_is (i := 2) ho.1 (by decide) ((hot 2 (by decide)).trans hc2)) rfl 2 (by decide) (hts _ k_46) (fun _ h9 => h9) rfl rfl rfl rfl (Nat.le_of_ble_eq_true rfl) d_Tr_cutTo_46 (fun H locs hP hS => ?_)
    rw [mw_ov_set ho.1 (by decide)] at hP
    have hP : mw_P D k_cl (mw_ov B ad (va_up cx 2 (.inr (1, [.ref (ad 3), .ref pm, .int (nI j)]))) 21) _ H := hP
    refine mw_vret J hr hlk hP hS d_Tr_cutTo_49 (⟨_, rfl, ⟨fc, w2, by rw [List.length_take, Nat.min_eq_left hj0]; rfl, (hot 3 (by decide)).trans hc3, hx4, fun z hz => ?_, hW2, by rw [List.length_take]; omega, List.Nodup.sublist (List.take_sublist _ _) hnd, fun z hz => hlt z (List.mem_of_mem_take hz)⟩, fun x h2 h3 h4 => by rw [va_up_ne _ _ h2]; exact hot x h4⟩)
    rw [List.length_take] at hz
    rw [rk_getD_take (by omega)]
    exact hfc z (by omega)
  · have c_11 : ¬ (L.length ≤ i) := fun z => c_11 ((nI_leI (by omega) (by omega)).mpr z)
    refine lv_aload_n hx hb d_Tr_cutTo_14 rfl (lv_at hl 0 rfl) ?_
    refine mw_get (v := .ref pm) (ci := 1) (C := R_Tr) (T := T_Tr) (N := 3) J i_Tr hK hP (mw_ov_is (i := 2) ho.1 (by decide) ((hot 2 (by decide)).trans hc2)) rfl 1 (by decide) (hts _ k_45) (fun _ h9 => h9) rfl d_Tr_cutTo_15 ?_
    refine lv_aload_n hx hb d_Tr_cutTo_18 rfl (lv_at hl 0 rfl) ?_
    refine mw_get (v := .ref (ad 3)) (ci := 1) (C := R_Tr) (T := T_Tr) (N := 3) J i_Tr hK hP (mw_ov_is (i := 2) ho.1 (by decide) ((hot 2 (by decide)).trans hc2)) rfl 0 (by decide) (hts _ k_41) (fun _ h9 => h9) rfl d_Tr_cutTo_19 ?_
    refine lv_iload_n hx hb d_Tr_cutTo_22 rfl (lv_at hl 2 rfl) ?_
    refine mw_nald (k := i) J hK hP 0 (mw_ov_is (i := 3) ho.1 (by decide) ((hot 3 (by decide)).trans hc3)) rfl (by omega) (by decide) d_Tr_cutTo_23 ?_
    refine mw_top (x' := nI (L.getD i 0)) (by rw [hfc i (by omega)]) ?_
    refine mw_afterV hP hS hA (mw_runV (As := [.int (nI (L.getD i 0))]) (rest := []) J hK hZ hP hS hA (mw_ov_fr ho.2 hpm) rfl (c_Mk_drop l D cI cZ cP cR cC tS _ _ pm (ad 4) w2 _ (L.getD i 0) (hlt _ (rk_getD_mem (by omega))) hW2 (mw_ov_fr ho.2 hpm) (mw_ov_is (i := 4) ho.1 (by decide) hx4)) (cwV 1 hts (mw_gV k_288 k_289 k_290 k_4 k_291) rfl rfl rfl (by decide +kernel) ⟨Nat.le_of_ble_eq_true rfl, Nat.le_of_ble_eq_true rfl⟩) rfl hl.1 rfl (Nat.le_of_ble_eq_true rfl) d_Tr_cutTo_24 ⟨Nat.le_of_ble_eq_true rfl, Nat.le_of_ble_eq_true rfl⟩) (fun M1 H locs hw hP hS => ?_)
    obtain ⟨w3, hW3, rfl⟩ := hw
    rw [mw_ov_set ho.1 (by decide)] at hP
    have hP : mw_P D k_cl (mw_ov B ad (va_up cx 4 (.inl (cI, 1024, .inl w3))) 21) _ H := hP
    refine lv_iinc (v := nI (i + 1)) (lv' := [(2, .int (nI (i + 1))), (0, .ref (ad 2)), (1, .int (nI j))]) hx hb d_Tr_cutTo_27 hl (k := 2) rfl (nI_1 i) (by decide) rfl (fun ls hl => ?_)
    refine lv_goto (tgt := 6) hx hb d_Tr_cutTo_30 (by decide) ?_
    exact ih_6 _ _ _ (by omega) ⟨(va_up cx 4 (.inl (cI, 1024, .inl w3))), w3, lv_sub hl [1, 2, 0] rfl, rfl, (by rw [← rk_set_drop (rk_nodup_td hnd hji) (by omega)]; exact hW3), (fun x hx => by rw [va_up_ne _ _ hx]; exact hot x hx), (by omega), hP, hS⟩

set_option maxHeartbeats 4000000 in
set_option maxRecDepth 100000 in
theorem c_Tr_keepThose (l : Launch) (D : va_G) (cI cZ cP cR cC : ClassId) (tS : Nat) (sz : Nat) (B : mw_M) (ad : Nat → Nat) (cw : Nat → va_E) (pm : Nat) (L : List Nat) (ho : k_ov B ad) (hpm : B pm = some (.inr (0, [.ref (ad 4)]))) (ht : k_tr cI ad cw pm L) (sm : Nat) (ws : Nat → Int32) (S : Nat → Bool) (hsm : B sm = some (.inr (0, [.ref (ad 5)]))) (hc5 : cw 5 = .inl (cI, 1024, .inl ws)) (hWs : rk_W ws S) :
    Met l y_Tr_keepThose (.code y_Tr_keepThose b_Tr_keepThose 4 none :: gw) ({ frames := 1, cells := 0, slots := 0, locals := 21 }) (va_Pc [.ref (ad 2), .ref sm] (mw_B D k_cl (k_tys cI cZ cP cR cC) (k_g tS) (mw_ov B ad cw 21) sz)) (va_Qv (fun (M1 : mw_M) => ∃ cw1, M1 = mw_ov B ad cw1 21 ∧ k_tr cI ad cw1 pm (L.filter S) ∧ ∀ i, i ≠ 2 → i ≠ 3 → i ≠ 4 → cw1 i = cw i) (mw_E D k_cl (mw_ov B ad cw 21) sz) (mw_A (mw_ov B ad cw 21) sz)) 0 0 (mw_A (mw_ov B ad cw 21) sz) := by
  refine mw_met (by decide) rfl (Nat.le_of_ble_eq_true rfl) ?_
  intro p e s m below meth c hsz J hr hlk hnm hK hZ hP hS hA ls hl
  subst hsz
  have hx := J.1
  have hb := J.2.1
  have hts := J.2.2.2.2
  have hl : lv_has ls 4 [(0, .ref (ad 2)), (1, .ref sm)] := hl
  obtain ⟨fc, w, hc2, hc3, hc4, hfc, hW, hL3, hnd, hlt⟩ := ht
  refine lv_iconst (v := 0) hx hb d_Tr_keepThose_0 (by decide) ?_
  refine mw_top (x' := nI (((L.take 0).filter S).length)) nI_0.symm ?_
  refine lv_istore_n (lv' := [(2, .int (nI (((L.take 0).filter S).length))), (0, .ref (ad 2)), (1, .ref sm)]) hx hb d_Tr_keepThose_1 rfl hl (by decide) rfl (fun ls hl => ?_)
  refine lv_iconst (v := 0) hx hb d_Tr_keepThose_2 (by decide) ?_
  refine mw_top (x' := nI 0) nI_0.symm ?_
  refine lv_istore_n (lv' := [(3, .int (nI 0)), (2, .int (nI (((L.take 0).filter S).length))), (0, .ref (ad 2)), (1, .ref sm)]) hx hb d_Tr_keepThose_3 rfl hl (by decide) rfl (fun ls hl => ?_)
  refine mw_loop (W' := fun H locs ls => W p l e _ s m _ below meth c H locs _ _ _ (F0 m 4 ls [])) L.length (fun i H locs ls => ∃ (cx : Nat → va_E), ∃ (fd : Nat → Nat), ∃ (w2 : Nat → Int32), lv_has ls 4 [(0, .ref (ad 2)), (1, .ref sm), (2, .int (nI (((L.take i).filter S).length))), (3, .int (nI i))] ∧ (cx 3 = .inl (cI, 300, .inl (rk_nf fd))) ∧ (cx 4 = .inl (cI, 1024, .inl w2)) ∧ (rk_W w2 (fun k => decide (k ∈ ((L.take i).filter S) ++ L.drop i))) ∧ (∀ i, i ≠ 3 → i ≠ 4 → cx i = cw i) ∧ (∀ z, z < ((L.take i).filter S).length → fd z = ((L.take i).filter S).getD z 0) ∧ (∀ z, i ≤ z → z < L.length → fd z = L.getD z 0) ∧ mw_P D k_cl (mw_ov B ad cx 21) (mw_A (mw_ov B ad cw 21) s.heap.size) H ∧ va_S (mw_A (mw_ov B ad cw 21) s.heap.size) s.heap H locs) ?_ L.length 0 (by omega) (by omega) _ _ _ ⟨cw, fc, w, lv_sub hl [2, 3, 1, 0] rfl, hc3, hc4, (by simpa using hW), (fun _ _ _ => rfl), (fun z hz => by simp at hz), (fun z _ hz => hfc z hz), hP, hS⟩
  intro i H locs ls hi_4 hI ih_4
  obtain ⟨cx, fd, w2, hl, hx3, hx4, hW2, hot, hd1, hd2, hP, hS⟩ := hI
  have hfl := rk_filt_le L S i
  refine lv_iload_n hx hb d_Tr_keepThose_4 rfl (lv_at hl 3 rfl) ?_
  refine lv_aload_n hx hb d_Tr_keepThose_5 rfl (lv_at hl 0 rfl) ?_
  refine mw_get (v := .int (nI L.length)) (ci := 1) (C := R_Tr) (T := T_Tr) (N := 3) J i_Tr hK hP (mw_ov_is (i := 2) ho.1 (by decide) ((hot 2 (by decide) (by decide)).trans hc2)) rfl 2 (by decide) (hts _ k_46) (fun _ h9 => h9) rfl d_Tr_keepThose_6 ?_
  refine lv_icmp_ge (tgt := 62) hx hb d_Tr_keepThose_9 (by decide) (fun c_9 => ?_) (fun c_9 => ?_)
  · have c_9 : L.length ≤ i := (nI_leI (by omega) (by omega)).mp c_9
    have hi0 : i = L.length := by omega
    rw [hi0, List.drop_length, List.append_nil, List.take_length] at hW2
    rw [hi0, List.take_length] at hd1
    refine lv_aload_n hx hb d_Tr_keepThose_62 rfl (lv_at hl 0 rfl) ?_
    refine lv_iload_n hx hb d_Tr_keepThose_63 rfl (lv_at hl 2 rfl) ?_
    refine mw_put (v := .int (nI (((L.take i).filter S).length))) (ty := .int) (ci := 1) (C := R_Tr) (T := T_Tr) (N := 3) J i_Tr t_Tr o_Tr n_Tr hK hP hS (mw_ov_is (i := 2) ho.1 (by decide) ((hot 2 (by decide) (by decide)).trans hc2)) rfl 2 (by decide) (hts _ k_46) (fun _ h9 => h9) rfl rfl rfl rfl (Nat.le_of_ble_eq_true rfl) d_Tr_keepThose_64 (fun H locs hP hS => ?_)
    rw [mw_ov_set ho.1 (by decide)] at hP
    have hP : mw_P D k_cl (mw_ov B ad (va_up cx 2 (.inr (1, [.ref (ad 3), .ref pm, .int (nI (((L.take i).filter S).length))]))) 21) _ H := hP
    exact mw_vret J hr hlk hP hS d_Tr_keepThose_67 (⟨_, rfl, ⟨fd, w2, by rw [hi0, List.take_length]; rfl, hx3, hx4, hd1, hW2, Nat.le_trans (List.length_filter_le _ _) hL3, List.Nodup.sublist List.filter_sublist hnd, fun z hz => hlt z (List.mem_filter.mp hz).1⟩, fun x h2 h3 h4 => by rw [va_up_ne _ _ h2]; exact hot x h3 h4⟩)
  · have c_9 : ¬ (L.length ≤ i) := fun z => c_9 ((nI_leI (by omega) (by omega)).mpr z)
    refine lv_aload_n hx hb d_Tr_keepThose_12 rfl (lv_at hl 1 rfl) ?_
    refine lv_aload_n hx hb d_Tr_keepThose_13 rfl (lv_at hl 0 rfl) ?_
    refine mw_get (v := .ref (ad 3)) (ci := 1) (C := R_Tr) (T := T_Tr) (N := 3) J i_Tr hK hP (mw_ov_is (i := 2) ho.1 (by decide) ((hot 2 (by decide) (by decide)).trans hc2)) rfl 0 (by decide) (hts _ k_41) (fun _ h9 => h9) rfl d_Tr_keepThose_14 ?_
    refine lv_iload_n hx hb d_Tr_keepThose_17 rfl (lv_at hl 3 rfl) ?_
    refine mw_nald (k := i) J hK hP 0 (mw_ov_is (i := 3) ho.1 (by decide) hx3) rfl (by omega) (by decide) d_Tr_keepThose_18 ?_
    refine mw_top (x' := nI (L.getD i 0)) (by rw [hd2 i (Nat.le_refl _) (by omega)]) ?_
    refine mw_afterI hP hS hA (mw_runV (As := [.int (nI (L.getD i 0))]) (rest := []) J hK hZ hP hS hA (mw_ov_fr ho.2 hsm) rfl (c_Mk_has l D cI cZ cP cR cC tS _ (mw_ov B ad cx 21) sm (ad 5) ws S (L.getD i 0) (hlt _ (rk_getD_mem (by omega))) hWs (mw_ov_fr ho.2 hsm) (mw_ov_is (i := 5) ho.1 (by decide) ((hot 5 (by decide) (by decide)).trans hc5))) (cwV 1 hts (mw_gV k_211 k_204 k_205 k_4 k_206) rfl rfl rfl (by decide +kernel) ⟨Nat.le_of_ble_eq_true rfl, Nat.le_of_ble_eq_true rfl⟩) rfl hl.1 rfl (Nat.le_of_ble_eq_true rfl) d_Tr_keepThose_19 ⟨Nat.le_of_ble_eq_true rfl, Nat.le_of_ble_eq_true rfl⟩) (fun r M1 H locs hw hP hS => ?_)
    obtain ⟨rfl, hr1⟩ := hw
    refine lv_if_eq (tgt := 43) hx hb d_Tr_keepThose_22 (by decide) (fun c_22 => ?_) (fun c_22 => ?_)
    · have hs : S (L.getD i 0) = false := by
        cases z : S (L.getD i 0)
        · rfl
        · rw [hr1, if_pos z] at c_22
          exact absurd c_22 (by decide)
      refine lv_aload_n hx hb d_Tr_keepThose_43 rfl (lv_at hl 0 rfl) ?_
      refine mw_get (v := .ref pm) (ci := 1) (C := R_Tr) (T := T_Tr) (N := 3) J i_Tr hK hP (mw_ov_is (i := 2) ho.1 (by decide) ((hot 2 (by decide) (by decide)).trans hc2)) rfl 1 (by decide) (hts _ k_45) (fun _ h9 => h9) rfl d_Tr_keepThose_44 ?_
      refine lv_aload_n hx hb d_Tr_keepThose_47 rfl (lv_at hl 0 rfl) ?_
      refine mw_get (v := .ref (ad 3)) (ci := 1) (C := R_Tr) (T := T_Tr) (N := 3) J i_Tr hK hP (mw_ov_is (i := 2) ho.1 (by decide) ((hot 2 (by decide) (by decide)).trans hc2)) rfl 0 (by decide) (hts _ k_41) (fun _ h9 => h9) rfl d_Tr_keepThose_48 ?_
      refine lv_iload_n hx hb d_Tr_keepThose_51 rfl (lv_at hl 3 rfl) ?_
      refine mw_nald (k := i) J hK hP 0 (mw_ov_is (i := 3) ho.1 (by decide) hx3) rfl (by omega) (by decide) d_Tr_keepThose_52 ?_
      refine mw_top (x' := nI (L.getD i 0)) (by rw [hd2 i (Nat.le_refl _) (by omega)]) ?_
      refine mw_afterV hP hS hA (mw_runV (As := [.int (nI (L.getD i 0))]) (rest := []) J hK hZ hP hS hA (mw_ov_fr ho.2 hpm) rfl (c_Mk_drop l D cI cZ cP cR cC tS _ _ pm (ad 4) w2 _ (L.getD i 0) (hlt _ (rk_getD_mem (by omega))) hW2 (mw_ov_fr ho.2 hpm) (mw_ov_is (i := 4) ho.1 (by decide) hx4)) (cwV 1 hts (mw_gV k_288 k_289 k_290 k_4 k_291) rfl rfl rfl (by decide +kernel) ⟨Nat.le_of_ble_eq_true rfl, Nat.le_of_ble_eq_true rfl⟩) rfl hl.1 rfl (Nat.le_of_ble_eq_true rfl) d_Tr_keepThose_53 ⟨Nat.le_of_ble_eq_true rfl, Nat.le_of_ble_eq_true rfl⟩) (fun M1 H locs hw hP hS => ?_)
      obtain ⟨w3, hW3, rfl⟩ := hw
      rw [mw_ov_set ho.1 (by decide)] at hP
      have hP : mw_P D k_cl (mw_ov B ad (va_up cx 4 (.inl (cI, 1024, .inl w3))) 21) _ H := hP
      refine lv_iinc (v := nI (i + 1)) (lv' := [(3, .int (nI (i + 1))), (0, .ref (ad 2)), (1, .ref sm), (2, .int (nI (((L.take i).filter S).length)))]) hx hb d_Tr_keepThose_56 hl (k := 3) rfl (nI_1 i) (by decide) rfl (fun ls hl => ?_)
      refine lv_goto (tgt := 4) hx hb d_Tr_keepThose_59 (by decide) ?_
      exact ih_4 _ _ _ (by omega) ⟨(va_up cx 4 (.inl (cI, 1024, .inl w3))), fd, w3, (by rw [rk_filt_f (by omega) hs]; exact lv_sub hl [1, 2, 3, 0] rfl), hx3, rfl, (by rw [rk_filt_f (by omega) hs, ← rk_set_drop (rk_nodup_fd hnd S i) (by omega)]; exact hW3), (fun x h3 h4 => by rw [va_up_ne _ _ h4]; exact hot x h3 h4), (by rw [rk_filt_f (by omega) hs]; exact hd1), (fun z h1 h2 => hd2 z (by omega) h2), hP, hS⟩
    · have hs : S (L.getD i 0) = true := by
        cases z : S (L.getD i 0)
        · exact absurd (by rw [hr1, z]; rfl) c_22
        · rfl
      refine lv_aload_n hx hb d_Tr_keepThose_25 rfl (lv_at hl 0 rfl) ?_
      refine mw_get (v := .ref (ad 3)) (ci := 1) (C := R_Tr) (T := T_Tr) (N := 3) J i_Tr hK hP (mw_ov_is (i := 2) ho.1 (by decide) ((hot 2 (by decide) (by decide)).trans hc2)) rfl 0 (by decide) (hts _ k_41) (fun _ h9 => h9) rfl d_Tr_keepThose_26 ?_
      refine lv_iload_n hx hb d_Tr_keepThose_29 rfl (lv_at hl 2 rfl) ?_
      refine lv_aload_n hx hb d_Tr_keepThose_30 rfl (lv_at hl 0 rfl) ?_
      refine mw_get (v := .ref (ad 3)) (ci := 1) (C := R_Tr) (T := T_Tr) (N := 3) J i_Tr hK hP (mw_ov_is (i := 2) ho.1 (by decide) ((hot 2 (by decide) (by decide)).trans hc2)) rfl 0 (by decide) (hts _ k_41) (fun _ h9 => h9) rfl d_Tr_keepThose_31 ?_
      refine lv_iload_n hx hb d_Tr_keepThose_34 rfl (lv_at hl 3 rfl) ?_
      refine mw_nald (k := i) J hK hP 0 (mw_ov_is (i := 3) ho.1 (by decide) hx3) rfl (by omega) (by decide) d_Tr_keepThose_35 ?_
      refine mw_top (x' := nI (L.getD i 0)) (by rw [hd2 i (Nat.le_refl _) (by omega)]) ?_
      refine mw_nast (k := ((L.take i).filter S).length) (x := (L.getD i 0)) J hK hP hS 0 (mw_ov_is (i := 3) ho.1 (by decide) hx3) rfl (by omega) (by decide) d_Tr_keepThose_36 (fun H locs hP hS => ?_)
      rw [mw_ov_set ho.1 (by decide)] at hP
      have hP : mw_P D k_cl (mw_ov B ad (va_up cx 3 (.inl (cI, 300, .inl (rk_nf (va_up fd (((L.take i).filter S).length) (L.getD i 0)))))) 21) _ H := hP
      have hd3 : ∀ z, z < ((L.take (i + 1)).filter S).length → va_up fd ((L.take i).filter S).length (L.getD i 0) z = ((L.take (i + 1)).filter S).getD z 0 := by
        rw [rk_filt_t (by omega) hs]
        intro z hz
        rw [List.length_append] at hz
        by_cases e : z = ((L.take i).filter S).length
        · rw [e, va_up_self, rk_getD_last]
        · rw [va_up_ne _ _ e, rk_getD_app (by simp at hz; omega)]
          exact hd1 z (by simp at hz; omega)
      have hd4 : ∀ z, i + 1 ≤ z → z < L.length → va_up fd ((L.take i).filter S).length (L.getD i 0) z = L.getD z 0 := fun z h1 h2 => by
        rw [va_up_ne _ _ (by omega)]
        exact hd2 z (by omega) h2
      refine lv_iinc (v := nI (((L.take (i + 1)).filter S).length)) (lv' := [(2, .int (nI (((L.take (i + 1)).filter S).length))), (0, .ref (ad 2)), (1, .ref sm), (3, .int (nI i))]) hx hb d_Tr_keepThose_37 hl (k := 2) rfl (by rw [rk_filt_t (by omega) hs, List.length_append]; exact nI_1 _) (by decide) rfl (fun ls hl => ?_)
      refine lv_goto (tgt := 56) hx hb d_Tr_keepThose_40 (by decide) ?_
      refine lv_iinc (v := nI (i + 1)) (lv' := [(3, .int (nI (i + 1))), (2, .int (nI (((L.take (i + 1)).filter S).length))), (0, .ref (ad 2)), (1, .ref sm)]) hx hb d_Tr_keepThose_56 hl (k := 3) rfl (nI_1 i) (by decide) rfl (fun ls hl => ?_)
      refine lv_goto (tgt := 4) hx hb d_Tr_keepThose_59 (by decide) ?_
      exact ih_4 _ _ _ (by omega) ⟨(va_up cx 3 (.inl (cI, 300, .inl (rk_nf (va_up fd (((L.take i).filter S).length) (L.getD i 0)))))), (va_up fd (((L.take i).filter S).length) (L.getD i 0)), w2, lv_sub hl [2, 3, 1, 0] rfl, rfl, hx4, (by rw [rk_filt_t (by omega) hs, ← rk_set_keep (by omega)]; exact hW2), (fun x h3 h4 => by rw [va_up_ne _ _ h3]; exact hot x h3 h4), hd3, hd4, hP, hS⟩
