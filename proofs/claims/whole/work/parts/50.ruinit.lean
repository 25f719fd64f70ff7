/-! Rule: the making of a rule -/
set_option maxHeartbeats 4000000 in
set_option maxRecDepth 100000 in
theorem c_Ru_init (l : Launch) (D : va_G) (cI cZ cP cR cC : ClassId) (tS : Nat) (sz : Nat) (M : mw_M) (a bo hd : Nat) (r : rk_Ru) (fo : Nat → Option Nat) (hr3 : r.1.length ≤ 3) (h0 : M a = some (.inr (3, [.null, .null, .null]))) (h1 : M bo = some (.inl (cP, r.1.length, .inr (.inr (.inr (.inr fo)))))) (h2 : k_pat cI M hd r.2) (h3 : ∀ i, i < r.1.length → ∃ p, fo i = some p ∧ k_pat cI M p (rk_nth r i)) :
    Met l y_Ru_init (.code y_Ru_init b_Ru_init 6 none :: gw) ({ frames := 1, cells := 1, slots := 3, locals := 12 }) (va_Pc [.ref a, .ref bo, .ref hd] (mw_B D k_cl (k_tys cI cZ cP cR cC) (k_g tS) M sz)) (va_Qv (fun (M1 : mw_M) => ∃ sh fs, M1 a = some (.inr (3, [.ref bo, .ref hd, .ref sh])) ∧ M1 sh = some (.inl (cI, r.1.length, .inl (rk_nf fs))) ∧ (∀ i, i < r.1.length → fs i = rk_shm r i) ∧ ∀ z e, z ≠ a → M z = some e → z ≠ sh ∧ M1 z = some e) (mw_E D k_cl M sz) (mw_A M sz)) 1 3 (mw_A M sz) := by
  refine mw_met (by decide) rfl (Nat.le_of_ble_eq_true rfl) ?_
  intro p e s m below meth c hsz J hr hlk hnm hK hZ hP hS hA ls hl
  subst hsz
  have hx := J.1
  have hb := J.2.1
  have hts := J.2.2.2.2
  have hl : lv_has ls 6 [(0, .ref a), (1, .ref bo), (2, .ref hd)] := hl
  have hk : ∀ z e, z ≠ a → M z = some e → M z = some e := fun _ _ _ h => h
  have hz_a : ∀ z e, z ≠ a → M z = some e → z ≠ a := fun _ _ h _ => h
  have hbo_a : bo ≠ a := mw_ne h1 h0 (by simp)
  have hboM : M bo = some (.inl (cP, r.1.length, .inr (.inr (.inr (.inr fo))))) := h1
  have ppat : ∀ p P, k_pat cI M p P → ∃ b q, p ≠ a ∧ M p = some (.inr (2, k_pf P b q)) := fun p P ⟨_, b, q, _, _, h, _⟩ => ⟨b, q, mw_ne h h0 (by simp), h⟩
  refine lv_aload_n hx hb d_Ru_init_0 rfl (lv_at hl 0 rfl) ?_
  refine W.objInit hx hb J.2.2.2.1 (hts _ k_153) (hts _ k_16) (hts _ k_17) rfl (by rw [J.2.2.1]; exact hl.1) rfl d_Ru_init_1 (Nat.le_of_ble_eq_true rfl) (Nat.le_of_ble_eq_true rfl) ?_
  refine W.eq (g2 := F0 m 4 ls []) rfl ?_
  refine lv_aload_n hx hb d_Ru_init_4 rfl (lv_at hl 0 rfl) ?_
  refine lv_aload_n hx hb d_Ru_init_5 rfl (lv_at hl 1 rfl) ?_
  refine mw_putF (v := .ref bo) (ty := .array (.object "RuleKeeper$Pattern")) (ci := 3) (C := R_Ru) (T := T_Ru) (N := 3) J i_Ru t_Ru o_Ru n_Ru hK hP hS h0 rfl 0 (by decide) (hts _ k_154) (fun _ h9 => h9) rfl hnm rfl rfl rfl rfl (Nat.le_of_ble_eq_true rfl) d_Ru_init_6 (fun H locs hP hS => ?_)
  have hk : ∀ z e, z ≠ a → M z = some e → (va_up M a (some (.inr (3, [.ref bo, .null, .null])))) z = some e := fun z e hz he => (va_up_ne _ _ (hz_a z e hz he)).trans (hk z e hz he)
  have hP : mw_P D k_cl (va_up M a (some (.inr (3, [.ref bo, .null, .null])))) _ H := hP
  refine lv_aload_n hx hb d_Ru_init_9 rfl (lv_at hl 0 rfl) ?_
  refine lv_aload_n hx hb d_Ru_init_10 rfl (lv_at hl 2 rfl) ?_
  refine mw_putF (v := .ref hd) (ty := .object "RuleKeeper$Pattern") (ci := 3) (C := R_Ru) (T := T_Ru) (N := 3) J i_Ru t_Ru o_Ru n_Ru hK hP hS (va_up_self _ _ _) rfl 1 (by decide) (hts _ k_157) (fun _ h9 => h9) rfl hnm rfl rfl rfl rfl (Nat.le_of_ble_eq_true rfl) d_Ru_init_11 (fun H locs hP hS => ?_)
  have hk : ∀ z e, z ≠ a → M z = some e → (va_up (va_up M a (some (.inr (3, [.ref bo, .null, .null])))) a (some (.inr (3, [.ref bo, .ref hd, .null])))) z = some e := fun z e hz he => (va_up_ne _ _ (hz_a z e hz he)).trans (hk z e hz he)
  have hP : mw_P D k_cl (va_up (va_up M a (some (.inr (3, [.ref bo, .null, .null])))) a (some (.inr (3, [.ref bo, .ref hd, .null])))) _ H := hP
  refine lv_aload_n hx hb d_Ru_init_14 rfl (lv_at hl 0 rfl) ?_
  refine lv_aload_n hx hb d_Ru_init_15 rfl (lv_at hl 1 rfl) ?_
  refine mw_alen (v := nI r.1.length) J hK hP 2 ((va_up_ne _ _ hbo_a).trans ((va_up_ne _ _ hbo_a).trans h1)) rfl rfl d_Ru_init_16 ?_
  refine mw_newi (N' := r.1.length) J (hts _ k_40) hK hP hS hA 0 rfl (nI_pos (by omega)) (nI_clamp (by omega)) (Nat.le_trans (Nat.mul_le_mul_right _ hr3) (by decide)) (Nat.le_of_ble_eq_true rfl) (by show 0 + r.1.length ≤ 3; omega) d_Ru_init_17 (fun sh H hshn hP hS => ?_)
  have ne_sh_a : sh ≠ a := fun z => by rw [z, (va_up_self _ _ _)] at hshn; cases hshn
  have ne_sh_bo : sh ≠ bo := fun z => by rw [z, ((va_up_ne _ _ hbo_a).trans ((va_up_ne _ _ hbo_a).trans h1))] at hshn; cases hshn
  have hz_sh : ∀ z e, z ≠ a → M z = some e → z ≠ sh := fun z e hz he h => by rw [← h, hk z e hz he] at hshn; cases hshn
  have hk : ∀ z e, z ≠ a → M z = some e → (va_up (va_up (va_up M a (some (.inr (3, [.ref bo, .null, .null])))) a (some (.inr (3, [.ref bo, .ref hd, .null])))) sh (some (.inl (cI, r.1.length, .inl (fun _ => 0))))) z = some e := fun z e hz he => (va_up_ne _ _ (hz_sh z e hz he)).trans (hk z e hz he)
  rw [rk_nf_0] at hP
  have hP : mw_P D k_cl (va_up (va_up (va_up M a (some (.inr (3, [.ref bo, .null, .null])))) a (some (.inr (3, [.ref bo, .ref hd, .null])))) sh (some (.inl (cI, r.1.length, .inl (rk_nf (fun _ => 0)))))) _ H := hP
  have hk : ∀ z e, z ≠ a → M z = some e → (va_up (va_up (va_up M a (some (.inr (3, [.ref bo, .null, .null])))) a (some (.inr (3, [.ref bo, .ref hd, .null])))) sh (some (.inl (cI, r.1.length, .inl (rk_nf (fun _ => 0)))))) z = some e := by rw [← rk_nf_0]; exact hk
  refine mw_putF (v := .ref sh) (ty := .array .int) (ci := 3) (C := R_Ru) (T := T_Ru) (N := 3) J i_Ru t_Ru o_Ru n_Ru hK hP hS ((va_up_ne _ _ (Ne.symm ne_sh_a)).trans (va_up_self _ _ _)) rfl 2 (by decide) (hts _ k_159) (fun _ h9 => h9) rfl hnm rfl rfl rfl rfl (Nat.le_of_ble_eq_true rfl) d_Ru_init_19 (fun H locs hP hS => ?_)
  have hk : ∀ z e, z ≠ a → M z = some e → (va_up (va_up (va_up (va_up M a (some (.inr (3, [.ref bo, .null, .null])))) a (some (.inr (3, [.ref bo, .ref hd, .null])))) sh (some (.inl (cI, r.1.length, .inl (rk_nf (fun _ => 0)))))) a (some (.inr (3, [.ref bo, .ref hd, .ref sh])))) z = some e := fun z e hz he => (va_up_ne _ _ (hz_a z e hz he)).trans (hk z e hz he)
  have hP : mw_P D k_cl (va_up (va_up (va_up (va_up M a (some (.inr (3, [.ref bo, .null, .null])))) a (some (.inr (3, [.ref bo, .ref hd, .null])))) sh (some (.inl (cI, r.1.length, .inl (rk_nf (fun _ => 0)))))) a (some (.inr (3, [.ref bo, .ref hd, .ref sh])))) _ H := hP
  obtain ⟨M0, eM0⟩ : ∃ z : mw_M, z = (va_up (va_up (va_up (va_up M a (some (.inr (3, [.ref bo, .null, .null])))) a (some (.inr (3, [.ref bo, .ref hd, .null])))) sh (some (.inl (cI, r.1.length, .inl (rk_nf (fun _ => 0)))))) a (some (.inr (3, [.ref bo, .ref hd, .ref sh])))) := ⟨_, rfl⟩
  have hP : mw_P D k_cl M0 (mw_A M s.heap.size) H := by rw [eM0]; exact hP
  have g0 : M0 a = some (.inr (3, [.ref bo, .ref hd, .ref sh])) := by rw [eM0]; exact (va_up_self _ _ _)
  have gs : M0 sh = some (.inl (cI, r.1.length, .inl (rk_nf (fun _ => 0)))) := by rw [eM0]; exact ((va_up_ne _ _ ne_sh_a).trans (va_up_self _ _ _))
  have hk : ∀ z e, z ≠ a → M z = some e → M0 z = some e := by rw [eM0]; exact hk
  have hsa : sh ≠ a := ne_sh_a
  have hsb : sh ≠ bo := ne_sh_bo
  have hkw : ∀ c z e, z ≠ a → M z = some e → va_up M0 sh c z = some e := fun c z e hz he => (va_up_ne _ _ (hz_sh z e hz he)).trans (hk z e hz he)
  have pw : ∀ c p P, k_pat cI M p P → ∃ b q, va_up M0 sh c p = some (.inr (2, k_pf P b q)) := fun c p P h => by
    obtain ⟨b, q, g1, g2⟩ := ppat p P h
    exact ⟨b, q, hkw c p _ g1 g2⟩
  have hP : mw_P D k_cl (va_up M0 sh (some (.inl (cI, r.1.length, .inl (rk_nf (fun _ => 0)))))) (mw_A M s.heap.size) H := by
    rw [va_up_id gs]
    exact hP
  refine lv_iconst (v := 0) hx hb d_Ru_init_22 (by decide) ?_
  refine mw_top (x' := nI 0) nI_0.symm ?_
  refine lv_istore_n (lv' := [(3, .int (nI 0)), (0, .ref a), (1, .ref bo), (2, .ref hd)]) hx hb d_Ru_init_23 rfl hl (by decide) rfl (fun ls hl => ?_)
  refine mw_loop (W' := fun H locs ls => W p l e _ s m _ below meth c H locs _ _ _ (F0 m 24 ls [])) r.1.length (fun i H locs ls => ∃ (fs : Nat → Nat), lv_has ls 6 [(0, .ref a), (1, .ref bo), (2, .ref hd), (3, .int (nI i))] ∧ (∀ j, j < i → fs j = rk_shm r j) ∧ mw_P D k_cl (va_up M0 sh (some (.inl (cI, r.1.length, .inl (rk_nf fs))))) (mw_A M s.heap.size) H ∧ va_S (mw_A M s.heap.size) s.heap H locs) ?_ r.1.length 0 (by omega) (by omega) _ _ _ ⟨(fun _ => 0), lv_sub hl [1, 2, 3, 0] rfl, (fun j hj => absurd hj (Nat.not_lt_zero j)), hP, hS⟩
  intro i H locs ls hi_24 hI ih_24
  obtain ⟨fs, hl, hfs, hP, hS⟩ := hI
  refine lv_iload_n hx hb d_Ru_init_24 rfl (lv_at hl 3 rfl) ?_
  refine lv_aload_n hx hb d_Ru_init_25 rfl (lv_at hl 1 rfl) ?_
  refine mw_alen (v := nI r.1.length) J hK hP 2 (hkw _ bo _ hbo_a hboM) rfl rfl d_Ru_init_26 ?_
  refine lv_icmp_ge (tgt := 95) hx hb d_Ru_init_27 (by decide) (fun c_27 => ?_) (fun c_27 => ?_)
  · have c_27 : r.1.length ≤ i := (nI_leI (by omega) (by omega)).mp c_27
    have hie : i = r.1.length := by omega
    refine W.widen (k := 1) (n := 3) (by omega) (by omega) ?_
    exact mw_vret J hr hlk hP hS d_Ru_init_95 (⟨sh, fs, (va_up_ne _ _ (Ne.symm hsa)).trans g0, va_up_self _ _ _, fun z hz => hfs z (by omega), fun z e hz he => ⟨hz_sh z e hz he, hkw _ z e hz he⟩⟩)
  · have c_27 : ¬ (r.1.length ≤ i) := fun z => c_27 ((nI_leI (by omega) (by omega)).mpr z)
    refine lv_aload_n hx hb d_Ru_init_30 rfl (lv_at hl 2 rfl) ?_
    refine mw_get (v := .int (nI (rk_vars r.2))) (ci := 2) (C := R_Pt) (T := T_Pt) (N := 8) J i_Pt hK hP (pw _ hd _ h2).choose_spec.choose_spec rfl 2 (by decide) (hts _ k_74) (fun _ h9 => h9) rfl d_Ru_init_31 ?_
    refine mw_top (x' := nI (rk_elsen r i 0)) rfl ?_
    refine lv_istore (lv' := [(4, .int (nI (rk_elsen r i 0))), (0, .ref a), (1, .ref bo), (2, .ref hd), (3, .int (nI i))]) hx hb d_Ru_init_34 hl (by decide) rfl (fun ls hl => ?_)
    refine lv_iconst (v := 0) hx hb d_Ru_init_36 (by decide) ?_
    refine mw_top (x' := nI 0) nI_0.symm ?_
    refine lv_istore (lv' := [(5, .int (nI 0)), (4, .int (nI (rk_elsen r i 0))), (0, .ref a), (1, .ref bo), (2, .ref hd), (3, .int (nI i))]) hx hb d_Ru_init_37 hl (by decide) rfl (fun ls hl => ?_)
    refine mw_loop (W' := fun H locs ls => W p l e _ s m _ below meth c H locs _ _ _ (F0 m 39 ls [])) r.1.length (fun j H locs ls => lv_has ls 6 [(0, .ref a), (1, .ref bo), (2, .ref hd), (3, .int (nI i)), (4, .int (nI (rk_elsen r i j))), (5, .int (nI j))] ∧ mw_P D k_cl (va_up M0 sh (some (.inl (cI, r.1.length, .inl (rk_nf fs))))) (mw_A M s.heap.size) H ∧ va_S (mw_A M s.heap.size) s.heap H locs) ?_ r.1.length 0 (by omega) (by omega) _ _ _ ⟨lv_sub hl [2, 3, 4, 5, 1, 0] rfl, hP, hS⟩
    intro j H locs ls hi_39 hI ih_39
    obtain ⟨hl, hP, hS⟩ := hI
    refine lv_iload hx hb d_Ru_init_39 (lv_at hl 5 rfl) ?_
    refine lv_aload_n hx hb d_Ru_init_41 rfl (lv_at hl 1 rfl) ?_
    refine mw_alen (v := nI r.1.length) J hK hP 2 (hkw _ bo _ hbo_a hboM) rfl rfl d_Ru_init_42 ?_
    refine lv_icmp_ge (tgt := 74) hx hb d_Ru_init_43 (by decide) (fun c_43 => ?_) (fun c_43 => ?_)
    · have c_43 : r.1.length ≤ j := (nI_leI (by omega) (by omega)).mp c_43
      have hje : j = r.1.length := by omega
      obtain ⟨pi, hfi, hpi⟩ := h3 i (by omega)
      refine lv_aload_n hx hb d_Ru_init_74 rfl (lv_at hl 0 rfl) ?_
      refine mw_get (v := .ref sh) (ci := 3) (C := R_Ru) (T := T_Ru) (N := 3) J i_Ru hK hP ((va_up_ne _ _ (Ne.symm hsa)).trans g0) rfl 2 (by decide) (hts _ k_159) (fun _ h9 => h9) rfl d_Ru_init_75 ?_
      refine lv_iload_n hx hb d_Ru_init_78 rfl (lv_at hl 3 rfl) ?_
      refine lv_aload_n hx hb d_Ru_init_79 rfl (lv_at hl 1 rfl) ?_
      refine lv_iload_n hx hb d_Ru_init_80 rfl (lv_at hl 3 rfl) ?_
      refine mw_aaldN (k := i) (b := pi) J hK hP 2 (hkw _ bo _ hbo_a hboM) rfl (by omega) (by omega) hfi d_Ru_init_81 ?_
      refine mw_get (v := .int (nI (rk_vars (rk_nth r i)))) (ci := 2) (C := R_Pt) (T := T_Pt) (N := 8) J i_Pt hK hP (pw _ pi _ hpi).choose_spec.choose_spec rfl 2 (by decide) (hts _ k_74) (fun _ h9 => h9) rfl d_Ru_init_82 ?_
      refine lv_iload hx hb d_Ru_init_85 (lv_at hl 4 rfl) ?_
      refine lv_iand hx hb d_Ru_init_87 ?_
      refine mw_top (x' := nI (rk_shm r i)) (by rw [nx_and, hje]; rfl) ?_
      refine mw_nast (k := i) (x := (rk_shm r i)) J hK hP hS 0 (va_up_self _ _ _) rfl (by omega) (by omega) d_Ru_init_88 (fun H locs hP hS => ?_)
      have hP : mw_P D k_cl (va_up (va_up M0 sh (some (.inl (cI, r.1.length, .inl (rk_nf fs))))) sh (some (.inl (cI, r.1.length, .inl (rk_nf (va_up fs i (rk_shm r i))))))) _ H := hP
      rw [va_uu] at hP
      refine lv_iinc (v := nI (i + 1)) (lv' := [(3, .int (nI (i + 1))), (0, .ref a), (1, .ref bo), (2, .ref hd), (4, .int (nI (rk_elsen r i j))), (5, .int (nI j))]) hx hb d_Ru_init_89 hl (k := 3) rfl (nI_1 i) (by decide) rfl (fun ls hl => ?_)
      refine lv_goto (tgt := 24) hx hb d_Ru_init_92 (by decide) ?_
      exact ih_24 _ _ _ (by omega) ⟨(va_up fs i (rk_shm r i)), lv_sub hl [1, 2, 3, 0] rfl, (lt_s (fun z hz => (va_up_ne _ _ (by omega)).trans (hfs z hz)) (va_up_self _ _ _)), hP, hS⟩
    · have c_43 : ¬ (r.1.length ≤ j) := fun z => c_43 ((nI_leI (by omega) (by omega)).mpr z)
      refine lv_iload hx hb d_Ru_init_46 (lv_at hl 4 rfl) ?_
      refine lv_iload hx hb d_Ru_init_48 (lv_at hl 5 rfl) ?_
      refine lv_iload_n hx hb d_Ru_init_50 rfl (lv_at hl 3 rfl) ?_
      refine lv_icmp_ne (tgt := 58) hx hb d_Ru_init_51 (by decide) (fun c_51 => ?_) (fun c_51 => ?_)
      · have c_51 : ¬ (j = i) := fun z => c_51 ((nI_eq (by omega) (by omega)).mpr z)
        have hji : ¬ j = i := c_51
        obtain ⟨pj, hfj, hpj⟩ := h3 j (by omega)
        refine lv_aload_n hx hb d_Ru_init_58 rfl (lv_at hl 1 rfl) ?_
        refine lv_iload hx hb d_Ru_init_59 (lv_at hl 5 rfl) ?_
        refine mw_aaldN (k := j) (b := pj) J hK hP 2 (hkw _ bo _ hbo_a hboM) rfl (by omega) (by omega) hfj d_Ru_init_61 ?_
        refine mw_get (v := .int (nI (rk_vars (rk_nth r j)))) (ci := 2) (C := R_Pt) (T := T_Pt) (N := 8) J i_Pt hK hP (pw _ pj _ hpj).choose_spec.choose_spec rfl 2 (by decide) (hts _ k_74) (fun _ h9 => h9) rfl d_Ru_init_62 ?_
        refine lv_ior hx hb d_Ru_init_65 ?_
        refine mw_top (x' := nI (rk_elsen r i (j + 1))) (by rw [nx_or]; congr 1; show _ = rk_elsen r i j ||| (if j = i then 0 else rk_vars (rk_nth r j)); first | rw [if_pos hji] | rw [if_neg hji]) ?_
        refine lv_istore (lv' := [(4, .int (nI (rk_elsen r i (j + 1)))), (0, .ref a), (1, .ref bo), (2, .ref hd), (3, .int (nI i)), (5, .int (nI j))]) hx hb d_Ru_init_66 hl (by decide) rfl (fun ls hl => ?_)
        refine lv_iinc (v := nI (j + 1)) (lv' := [(5, .int (nI (j + 1))), (4, .int (nI (rk_elsen r i (j + 1)))), (0, .ref a), (1, .ref bo), (2, .ref hd), (3, .int (nI i))]) hx hb d_Ru_init_68 hl (k := 5) rfl (nI_1 j) (by decide) rfl (fun ls hl => ?_)
        refine lv_goto (tgt := 39) hx hb d_Ru_init_71 (by decide) ?_
        exact ih_39 _ _ _ (by omega) ⟨lv_sub hl [2, 3, 4, 5, 1, 0] rfl, hP, hS⟩
      · have c_51 : j = i := (nI_eq (by omega) (by omega)).mp c_51
        have hji : j = i := c_51
        refine lv_iconst (v := 0) hx hb d_Ru_init_54 (by decide) ?_
        refine mw_top (x' := nI 0) nI_0.symm ?_
        refine lv_goto (tgt := 65) hx hb d_Ru_init_55 (by decide) ?_
        refine lv_ior hx hb d_Ru_init_65 ?_
        refine mw_top (x' := nI (rk_elsen r i (j + 1))) (by rw [nx_or]; congr 1; show _ = rk_elsen r i j ||| (if j = i then 0 else rk_vars (rk_nth r j)); first | rw [if_pos hji] | rw [if_neg hji]) ?_
        refine lv_istore (lv' := [(4, .int (nI (rk_elsen r i (j + 1)))), (0, .ref a), (1, .ref bo), (2, .ref hd), (3, .int (nI i)), (5, .int (nI j))]) hx hb d_Ru_init_66 hl (by decide) rfl (fun ls hl => ?_)
        refine lv_iinc (v := nI (j + 1)) (lv' := [(5, .int (nI (j + 1))), (4, .int (nI (rk_elsen r i (j + 1)))), (0, .ref a), (1, .ref bo), (2, .ref hd), (3, .int (nI i))]) hx hb d_Ru_init_68 hl (k := 5) rfl (nI_1 j) (by decide) rfl (fun ls hl => ?_)
        refine lv_goto (tgt := 39) hx hb d_Ru_init_71 (by decide) ?_
        exact ih_39 _ _ _ (by omega) ⟨lv_sub hl [2, 3, 4, 5, 1, 0] rfl, hP, hS⟩
