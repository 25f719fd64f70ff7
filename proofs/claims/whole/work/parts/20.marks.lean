/-! Marks: a set of codes, a bit for each -/
set_option maxHeartbeats 4000000 in
set_option maxRecDepth 100000 in
theorem c_Mk_has (l : Launch) (D : va_G) (cI cZ cP cR cC : ClassId) (tS : Nat) (sz : Nat) (M : mw_M) (a b : Nat) (w : Nat → Int32) (S : Nat → Bool) (k : Nat) (hk : k < 32768) (hW : rk_W w S) (h0 : M a = some (.inr (0, [.ref b]))) (h1 : M b = some (.inl (cI, 1024, .inl w))) :
    Met l y_Mk_has (.code y_Mk_has b_Mk_has 2 (some .boolean) :: gw) ({ frames := 0, cells := 0, slots := 0, locals := 0 }) (va_Pc [.ref a, .int (nI k)] (mw_B D k_cl (k_tys cI cZ cP cR cC) (k_g tS) M sz)) (va_Qi (fun (r : Int32) (M1 : mw_M) => M1 = M ∧ r = if S k = true then 1 else 0) (mw_E D k_cl M sz) (mw_A M sz)) 0 0 (mw_A M sz) := by
  refine mw_met (by decide) rfl (Nat.le_of_ble_eq_true rfl) ?_
  intro p e s m below meth c hsz J hr hlk hnm hK hZ hP hS hA ls hl
  subst hsz
  have hx := J.1
  have hb := J.2.1
  have hts := J.2.2.2.2
  have hl : lv_has ls 2 [(0, .ref a), (1, .int (nI k))] := hl
  refine lv_aload_n hx hb d_Mk_has_0 rfl (lv_at hl 0 rfl) ?_
  refine mw_get (v := .ref b) (ci := 0) (C := R_Mk) (T := T_Mk) (N := 1) J i_Mk hK hP h0 rfl 0 (by decide) (hts _ k_36) (fun _ h9 => h9) rfl d_Mk_has_1 ?_
  refine lv_iload_n hx hb d_Mk_has_4 rfl (lv_at hl 1 rfl) ?_
  refine lv_iconst (v := 5) hx hb d_Mk_has_5 (by decide) ?_
  refine lv_ishr hx hb d_Mk_has_6 ?_
  refine mw_top (x' := nI (k / 32)) (rk_shr5 (by omega)) ?_
  refine lv_sipush (v := 1023) hx hb d_Mk_has_7 (by decide) ?_
  refine lv_iand hx hb d_Mk_has_10 ?_
  refine mw_top (x' := nI (k / 32)) (rk_word hk) ?_
  refine mw_ialdN (k := (k / 32)) J hK hP 0 h1 rfl (by omega) (by omega) d_Mk_has_11 ?_
  refine lv_iconst (v := 1) hx hb d_Mk_has_12 (by decide) ?_
  refine lv_iload_n hx hb d_Mk_has_13 rfl (lv_at hl 1 rfl) ?_
  refine lv_bipush (v := 31) hx hb d_Mk_has_14 (by decide) ?_
  refine lv_iand hx hb d_Mk_has_16 ?_
  refine mw_top (x' := nI (k % 32)) (rk_and31 (by omega)) ?_
  refine lv_ishl hx hb d_Mk_has_17 ?_
  refine lv_iand hx hb d_Mk_has_18 ?_
  refine lv_if_eq (tgt := 26) hx hb d_Mk_has_19 (by decide) (fun c_19 => ?_) (fun c_19 => ?_)
  · have e : S k = false := (rk_W_has hW hk).mp c_19
    refine lv_iconst (v := 0) hx hb d_Mk_has_26 (by decide) ?_
    exact mw_zret J hr hlk rfl hP hS d_Mk_has_27 (⟨rfl, by rw [e]; rfl⟩)
  · have e : S k = true := by
      cases z : S k
      · exact absurd ((rk_W_has hW hk).mpr z) c_19
      · rfl
    refine lv_iconst (v := 1) hx hb d_Mk_has_22 (by decide) ?_
    refine lv_goto (tgt := 27) hx hb d_Mk_has_23 (by decide) ?_
    exact mw_zret J hr hlk rfl hP hS d_Mk_has_27 (⟨rfl, by rw [e]; rfl⟩)

set_option maxHeartbeats 4000000 in
set_option maxRecDepth 100000 in
theorem c_Mk_put (l : Launch) (D : va_G) (cI cZ cP cR cC : ClassId) (tS : Nat) (sz : Nat) (M : mw_M) (a b : Nat) (w : Nat → Int32) (S : Nat → Bool) (k : Nat) (hk : k < 32768) (hW : rk_W w S) (h0 : M a = some (.inr (0, [.ref b]))) (h1 : M b = some (.inl (cI, 1024, .inl w))) :
    Met l y_Mk_put (.code y_Mk_put b_Mk_put 2 none :: gw) ({ frames := 0, cells := 0, slots := 0, locals := 0 }) (va_Pc [.ref a, .int (nI k)] (mw_B D k_cl (k_tys cI cZ cP cR cC) (k_g tS) M sz)) (va_Qv (fun (M1 : mw_M) => ∃ w1, rk_W w1 (va_up S k true) ∧ M1 = va_up M b (some (.inl (cI, 1024, .inl w1)))) (mw_E D k_cl M sz) (mw_A M sz)) 0 0 (mw_A M sz) := by
  refine mw_met (by decide) rfl (Nat.le_of_ble_eq_true rfl) ?_
  intro p e s m below meth c hsz J hr hlk hnm hK hZ hP hS hA ls hl
  subst hsz
  have hx := J.1
  have hb := J.2.1
  have hts := J.2.2.2.2
  have hl : lv_has ls 2 [(0, .ref a), (1, .int (nI k))] := hl
  have hne : b ≠ a := mw_ne h1 h0 (by simp)
  refine lv_aload_n hx hb d_Mk_put_0 rfl (lv_at hl 0 rfl) ?_
  refine mw_get (v := .ref b) (ci := 0) (C := R_Mk) (T := T_Mk) (N := 1) J i_Mk hK hP h0 rfl 0 (by decide) (hts _ k_36) (fun _ h9 => h9) rfl d_Mk_put_1 ?_
  refine lv_iload_n hx hb d_Mk_put_4 rfl (lv_at hl 1 rfl) ?_
  refine lv_iconst (v := 5) hx hb d_Mk_put_5 (by decide) ?_
  refine lv_ishr hx hb d_Mk_put_6 ?_
  refine mw_top (x' := nI (k / 32)) (rk_shr5 (by omega)) ?_
  refine lv_sipush (v := 1023) hx hb d_Mk_put_7 (by decide) ?_
  refine lv_iand hx hb d_Mk_put_10 ?_
  refine mw_top (x' := nI (k / 32)) (rk_word hk) ?_
  refine lv_dup2_11 hx hb d_Mk_put_11 rfl rfl ?_
  refine mw_ialdN (k := (k / 32)) J hK hP 0 h1 rfl (by omega) (by omega) d_Mk_put_12 ?_
  refine lv_iconst (v := 1) hx hb d_Mk_put_13 (by decide) ?_
  refine lv_iload_n hx hb d_Mk_put_14 rfl (lv_at hl 1 rfl) ?_
  refine lv_bipush (v := 31) hx hb d_Mk_put_15 (by decide) ?_
  refine lv_iand hx hb d_Mk_put_17 ?_
  refine mw_top (x' := nI (k % 32)) (rk_and31 (by omega)) ?_
  refine lv_ishl hx hb d_Mk_put_18 ?_
  refine lv_ior hx hb d_Mk_put_19 ?_
  refine mw_iastN (k := (k / 32)) J hK hP hS 0 h1 rfl (by omega) (by omega) d_Mk_put_20 (fun H locs hP hS => ?_)
  have hP : mw_P D k_cl (va_up M b (some (.inl (cI, 1024, .inl (upd w (k / 32) ((w (k / 32)) ||| (1 <<< ((nI (k % 32)) &&& 31)))))))) _ H := hP
  exact mw_vret J hr hlk hP hS d_Mk_put_21 (⟨_, rk_W_put hW hk, rfl⟩)

set_option maxHeartbeats 4000000 in
set_option maxRecDepth 100000 in
theorem c_Mk_drop (l : Launch) (D : va_G) (cI cZ cP cR cC : ClassId) (tS : Nat) (sz : Nat) (M : mw_M) (a b : Nat) (w : Nat → Int32) (S : Nat → Bool) (k : Nat) (hk : k < 32768) (hW : rk_W w S) (h0 : M a = some (.inr (0, [.ref b]))) (h1 : M b = some (.inl (cI, 1024, .inl w))) :
    Met l y_Mk_drop (.code y_Mk_drop b_Mk_drop 2 none :: gw) ({ frames := 0, cells := 0, slots := 0, locals := 0 }) (va_Pc [.ref a, .int (nI k)] (mw_B D k_cl (k_tys cI cZ cP cR cC) (k_g tS) M sz)) (va_Qv (fun (M1 : mw_M) => ∃ w1, rk_W w1 (va_up S k false) ∧ M1 = va_up M b (some (.inl (cI, 1024, .inl w1)))) (mw_E D k_cl M sz) (mw_A M sz)) 0 0 (mw_A M sz) := by
  refine mw_met (by decide) rfl (Nat.le_of_ble_eq_true rfl) ?_
  intro p e s m below meth c hsz J hr hlk hnm hK hZ hP hS hA ls hl
  subst hsz
  have hx := J.1
  have hb := J.2.1
  have hts := J.2.2.2.2
  have hl : lv_has ls 2 [(0, .ref a), (1, .int (nI k))] := hl
  have hne : b ≠ a := mw_ne h1 h0 (by simp)
  refine lv_aload_n hx hb d_Mk_drop_0 rfl (lv_at hl 0 rfl) ?_
  refine mw_get (v := .ref b) (ci := 0) (C := R_Mk) (T := T_Mk) (N := 1) J i_Mk hK hP h0 rfl 0 (by decide) (hts _ k_36) (fun _ h9 => h9) rfl d_Mk_drop_1 ?_
  refine lv_iload_n hx hb d_Mk_drop_4 rfl (lv_at hl 1 rfl) ?_
  refine lv_iconst (v := 5) hx hb d_Mk_drop_5 (by decide) ?_
  refine lv_ishr hx hb d_Mk_drop_6 ?_
  refine mw_top (x' := nI (k / 32)) (rk_shr5 (by omega)) ?_
  refine lv_sipush (v := 1023) hx hb d_Mk_drop_7 (by decide) ?_
  refine lv_iand hx hb d_Mk_drop_10 ?_
  refine mw_top (x' := nI (k / 32)) (rk_word hk) ?_
  refine lv_dup2_11 hx hb d_Mk_drop_11 rfl rfl ?_
  refine mw_ialdN (k := (k / 32)) J hK hP 0 h1 rfl (by omega) (by omega) d_Mk_drop_12 ?_
  refine lv_iconst (v := 1) hx hb d_Mk_drop_13 (by decide) ?_
  refine lv_iload_n hx hb d_Mk_drop_14 rfl (lv_at hl 1 rfl) ?_
  refine lv_bipush (v := 31) hx hb d_Mk_drop_15 (by decide) ?_
  refine lv_iand hx hb d_Mk_drop_17 ?_
  refine mw_top (x' := nI (k % 32)) (rk_and31 (by omega)) ?_
  refine lv_ishl hx hb d_Mk_drop_18 ?_
  refine lv_iconst (v := (-1)) hx hb d_Mk_drop_19 (by decide) ?_
  refine lv_ixor hx hb d_Mk_drop_20 ?_
  refine lv_iand hx hb d_Mk_drop_21 ?_
  refine mw_iastN (k := (k / 32)) J hK hP hS 0 h1 rfl (by omega) (by omega) d_Mk_drop_22 (fun H locs hP hS => ?_)
  have hP : mw_P D k_cl (va_up M b (some (.inl (cI, 1024, .inl (upd w (k / 32) ((w (k / 32)) &&& ((1 <<< ((nI (k % 32)) &&& 31)) ^^^ (-1)))))))) _ H := hP
  exact mw_vret J hr hlk hP hS d_Mk_drop_23 (⟨_, rk_W_drop hW hk, rfl⟩)
