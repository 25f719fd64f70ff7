/-! Triples: the row of what holds -/
set_option maxHeartbeats 4000000 in
set_option maxRecDepth 100000 in
theorem c_Tr_has (l : Launch) (D : va_G) (cI cZ cP cR cC : ClassId) (tS : Nat) (sz : Nat) (B : mw_M) (ad : Nat → Nat) (cw : Nat → va_E) (pm : Nat) (L : List Nat) (ho : k_ov B ad) (hpm : B pm = some (.inr (0, [.ref (ad 4)]))) (ht : k_tr cI ad cw pm L) (k : Nat) (hk : k < 32768) :
    Met l y_Tr_has (.code y_Tr_has b_Tr_has 2 (some .boolean) :: gw) ({ frames := 1, cells := 0, slots := 0, locals := 21 }) (va_Pc [.ref (ad 2), .int (nI k)] (mw_B D k_cl (k_tys cI cZ cP cR cC) (k_g tS) (mw_ov B ad cw 21) sz)) (va_Qi (fun (r : Int32) (M1 : mw_M) => M1 = mw_ov B ad cw 21 ∧ r = if k ∈ L then 1 else 0) (mw_E D k_cl (mw_ov B ad cw 21) sz) (mw_A (mw_ov B ad cw 21) sz)) 0 0 (mw_A (mw_ov B ad cw 21) sz) := by
  refine mw_met (by decide) rfl (Nat.le_of_ble_eq_true rfl) ?_
  intro p e s m below meth c hsz J hr hlk hnm hK hZ hP hS hA ls hl
  subst hsz
  have hx := J.1
  have hb := J.2.1
  have hts := J.2.2.2.2
  have hl : lv_has ls 2 [(0, .ref (ad 2)), (1, .int (nI k))] := hl
  obtain ⟨fc, w, hc2, hc3, hc4, hfc, hW, hL3, hnd, hlt⟩ := ht
  refine lv_aload_n hx hb d_Tr_has_0 rfl (lv_at hl 0 rfl) ?_
  refine mw_get (v := .ref pm) (ci := 1) (C := R_Tr) (T := T_Tr) (N := 3) J i_Tr hK hP (mw_ov_is (i := 2) ho.1 (by decide) hc2) rfl 1 (by decide) (hts _ k_45) (fun _ h9 => h9) rfl d_Tr_has_1 ?_
  refine lv_iload_n hx hb d_Tr_has_4 rfl (lv_at hl 1 rfl) ?_
  refine mw_afterI hP hS hA (mw_runV (As := [.int (nI k)]) (rest := []) J hK hZ hP hS hA (mw_ov_fr ho.2 hpm) rfl (c_Mk_has l D cI cZ cP cR cC tS _ (mw_ov B ad cw 21) pm (ad 4) w _ k hk hW (mw_ov_fr ho.2 hpm) (mw_ov_is (i := 4) ho.1 (by decide) hc4)) (cwV 1 hts (mw_gV k_211 k_204 k_205 k_4 k_206) rfl rfl rfl (by decide +kernel) ⟨Nat.le_of_ble_eq_true rfl, Nat.le_of_ble_eq_true rfl⟩) rfl hl.1 rfl (Nat.le_of_ble_eq_true rfl) d_Tr_has_5 ⟨Nat.le_of_ble_eq_true rfl, Nat.le_of_ble_eq_true rfl⟩) (fun r M1 H locs hw hP hS => ?_)
  obtain ⟨rfl, rfl⟩ := hw
  exact mw_zret J hr hlk (by by_cases h : k ∈ L <;> simp [h] <;> rfl) hP hS d_Tr_has_8 (⟨rfl, by simp⟩)

set_option maxHeartbeats 4000000 in
set_option maxRecDepth 100000 in
theorem c_Tr_add (l : Launch) (D : va_G) (cI cZ cP cR cC : ClassId) (tS : Nat) (sz : Nat) (B : mw_M) (ad : Nat → Nat) (cw : Nat → va_E) (pm : Nat) (L : List Nat) (ho : k_ov B ad) (hpm : B pm = some (.inr (0, [.ref (ad 4)]))) (ht : k_tr cI ad cw pm L) (k : Nat) (hk : k < 32768) (hkL : k ∉ L) :
    Met l y_Tr_add (.code y_Tr_add b_Tr_add 2 (some .boolean) :: gw) ({ frames := 1, cells := 0, slots := 0, locals := 21 }) (va_Pc [.ref (ad 2), .int (nI k)] (mw_B D k_cl (k_tys cI cZ cP cR cC) (k_g tS) (mw_ov B ad cw 21) sz)) (va_Qi (fun (r : Int32) (M1 : mw_M) => (L.length < 300 ∧ r = 1 ∧ ∃ cw1, M1 = mw_ov B ad cw1 21 ∧ k_tr cI ad cw1 pm (L ++ [k]) ∧ ∀ i, i ≠ 2 → i ≠ 3 → i ≠ 4 → cw1 i = cw i) ∨ (L.length = 300 ∧ r = 0 ∧ M1 = mw_ov B ad cw 21)) (mw_E D k_cl (mw_ov B ad cw 21) sz) (mw_A (mw_ov B ad cw 21) sz)) 0 0 (mw_A (mw_ov B ad cw 21) sz) := by
  refine mw_met (by decide) rfl (Nat.le_of_ble_eq_true rfl) ?_
  intro p e s m below meth c hsz J hr hlk hnm hK hZ hP hS hA ls hl
  subst hsz
  have hx := J.1
  have hb := J.2.1
  have hts := J.2.2.2.2
  have hl : lv_has ls 2 [(0, .ref (ad 2)), (1, .int (nI k))] := hl
  obtain ⟨fc, w, hc2, hc3, hc4, hfc, hW, hL3, hnd, hlt⟩ := ht
  refine lv_aload_n hx hb d_Tr_add_0 rfl (lv_at hl 0 rfl) ?_
  refine mw_get (v := .int (nI L.length)) (ci := 1) (C := R_Tr) (T := T_Tr) (N := 3) J i_Tr hK hP (mw_ov_is (i := 2) ho.1 (by decide) hc2) rfl 2 (by decide) (hts _ k_46) (fun _ h9 => h9) rfl d_Tr_add_1 ?_
  refine lv_sipush (v := 300) hx hb d_Tr_add_4 (by decide) ?_
  refine mw_top (x' := nI 300) rfl ?_
  refine lv_icmp_lt (tgt := 12) hx hb d_Tr_add_7 (by decide) (fun c_7 => ?_) (fun c_7 => ?_)
  · have c_7 : L.length < 300 := (nI_ltI (by omega) (by omega)).mp c_7
    refine lv_aload_n hx hb d_Tr_add_12 rfl (lv_at hl 0 rfl) ?_
    refine mw_get (v := .ref (ad 3)) (ci := 1) (C := R_Tr) (T := T_Tr) (N := 3) J i_Tr hK hP (mw_ov_is (i := 2) ho.1 (by decide) hc2) rfl 0 (by decide) (hts _ k_41) (fun _ h9 => h9) rfl d_Tr_add_13 ?_
    refine lv_aload_n hx hb d_Tr_add_16 rfl (lv_at hl 0 rfl) ?_
    refine mw_get (v := .int (nI L.length)) (ci := 1) (C := R_Tr) (T := T_Tr) (N := 3) J i_Tr hK hP (mw_ov_is (i := 2) ho.1 (by decide) hc2) rfl 2 (by decide) (hts _ k_46) (fun _ h9 => h9) rfl d_Tr_add_17 ?_
    refine lv_iload_n hx hb d_Tr_add_20 rfl (lv_at hl 1 rfl) ?_
    refine mw_nast (k := L.length) (x := k) J hK hP hS 0 (mw_ov_is (i := 3) ho.1 (by decide) hc3) rfl (by omega) (by decide) d_Tr_add_21 (fun H locs hP hS => ?_)
    rw [mw_ov_set ho.1 (by decide)] at hP
    have hP : mw_P D k_cl (mw_ov B ad (va_up cw 3 (.inl (cI, 300, .inl (rk_nf (va_up fc L.length k))))) 21) _ H := hP
    refine lv_aload_n hx hb d_Tr_add_22 rfl (lv_at hl 0 rfl) ?_
    refine lv_dup hx hb d_Tr_add_23 rfl ?_
    refine mw_get (v := .int (nI L.length)) (ci := 1) (C := R_Tr) (T := T_Tr) (N := 3) J i_Tr hK hP (mw_ov_is (i := 2) ho.1 (by decide) hc2) rfl 2 (by decide) (hts _ k_46) (fun _ h9 => h9) rfl d_Tr_add_24 ?_
    refine lv_iconst (v := 1) hx hb d_Tr_add_27 (by decide) ?_
    refine lv_iadd hx hb d_Tr_add_28 ?_
    refine mw_top (x' := nI (L.length + 1)) (nI_1 _) ?_
    refine mw_put (v := .int (nI (L.length + 1))) (ty := .int) (ci := 1) (C := R_Tr) (T := T_Tr) (N := 3) J i_Tr t_Tr o_Tr n_Tr hK hP hS (mw_ov_is (i := 2) ho.1 (by decide) hc2) rfl 2 (by decide) (hts _ k_46) (fun _ h9 => h9) rfl rfl rfl rfl (Nat.le_of_ble_eq_true rfl) d_Tr_add_29 (fun H locs hP hS => ?_)
    rw [mw_ov_set ho.1 (by decide)] at hP
    have hP : mw_P D k_cl (mw_ov B ad (va_up (va_up cw 3 (.inl (cI, 300, .inl (rk_nf (va_up fc L.length k))))) 2 (.inr (1, [.ref (ad 3), .ref pm, .int (nI (L.length + 1))]))) 21) _ H := hP
    refine lv_aload_n hx hb d_Tr_add_32 rfl (lv_at hl 0 rfl) ?_
    refine mw_get (v := .ref pm) (ci := 1) (C := R_Tr) (T := T_Tr) (N := 3) J i_Tr hK hP (mw_ov_is (i := 2) ho.1 (by decide) rfl) rfl 1 (by decide) (hts _ k_45) (fun _ h9 => h9) rfl d_Tr_add_33 ?_
    refine lv_iload_n hx hb d_Tr_add_36 rfl (lv_at hl 1 rfl) ?_
    refine mw_afterV hP hS hA (mw_runV (As := [.int (nI k)]) (rest := []) J hK hZ hP hS hA (mw_ov_fr ho.2 hpm) rfl (c_Mk_put l D cI cZ cP cR cC tS _ _ pm (ad 4) w _ k hk hW (mw_ov_fr ho.2 hpm) (mw_ov_is (i := 4) ho.1 (by decide) hc4)) (cwV 1 hts (mw_gV k_220 k_221 k_222 k_4 k_223) rfl rfl rfl (by decide +kernel) ⟨Nat.le_of_ble_eq_true rfl, Nat.le_of_ble_eq_true rfl⟩) rfl hl.1 rfl (Nat.le_of_ble_eq_true rfl) d_Tr_add_37 ⟨Nat.le_of_ble_eq_true rfl, Nat.le_of_ble_eq_true rfl⟩) (fun M1 H locs hw hP hS => ?_)
    obtain ⟨w1, hW1, rfl⟩ := hw
    rw [mw_ov_set ho.1 (by decide)] at hP
    have hP : mw_P D k_cl (mw_ov B ad (va_up (va_up (va_up cw 3 (.inl (cI, 300, .inl (rk_nf (va_up fc L.length k))))) 2 (.inr (1, [.ref (ad 3), .ref pm, .int (nI (L.length + 1))]))) 4 (.inl (cI, 1024, .inl w1))) 21) _ H := hP
    refine lv_iconst (v := 1) hx hb d_Tr_add_40 (by decide) ?_
    refine mw_zret J hr hlk rfl hP hS d_Tr_add_41 (Or.inl ⟨by omega, rfl, _, rfl, ⟨_, w1, by rw [List.length_append]; rfl, rfl, rfl, fun i hi => ?_, by rw [← rk_set_add]; exact hW1, by simp; omega, List.nodup_append.mpr ⟨hnd, by simp, fun a ha b hb e => hkL (by rw [← List.mem_singleton.mp hb, ← e]; exact ha)⟩, fun z hz => (List.mem_append.mp hz).elim (hlt z) (fun h => by rw [List.mem_singleton.mp h]; exact hk)⟩, fun i h2 h3 h4 => by rw [va_up_ne _ _ h4, va_up_ne _ _ h2, va_up_ne _ _ h3]⟩)
    rw [List.length_append] at hi
    by_cases e : i = L.length
    · subst e
      rw [va_up_self, rk_getD_last]
    · rw [va_up_ne _ _ e, rk_getD_app (by simp at hi; omega)]
      exact hfc i (by simp at hi; omega)
  · have c_7 : ¬ (L.length < 300) := fun z => c_7 ((nI_ltI (by omega) (by omega)).mpr z)
    refine lv_iconst (v := 0) hx hb d_Tr_add_10 (by decide) ?_
    exact mw_zret J hr hlk rfl hP hS d_Tr_add_11 (Or.inr ⟨by omega, rfl, rfl⟩)
