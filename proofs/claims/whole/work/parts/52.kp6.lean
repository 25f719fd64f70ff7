/-! RuleKeeper: draftIsRule, ruleOfDraft -/
set_option maxHeartbeats 4000000 in
set_option maxRecDepth 100000 in
theorem c_Kp_draftIsRule (l : Launch) (D : va_G) (cI cZ cP cR cC : ClassId) (tS : Nat) (sz : Nat) (B : mw_M) (ad : Nat → Nat) (cw : Nat → va_E) (pm sm ca : Nat) (said : Nat → Bool) (rs : List rk_Ru) (dr : List rk_Pt) (L : List Nat) (ho : k_ov B ad) (hfz : k_fz B ad pm sm) (hkp : k_kp cI cP cR cC B ad cw pm sm ca said rs dr L) (hh : rk_holds said rs L) (hsd : ∀ j, said j = true → j < 32768) :
    Met l y_Kp_draftIsRule (.code y_Kp_draftIsRule b_Kp_draftIsRule 4 (some .boolean) :: gw) ({ frames := 0, cells := 0, slots := 0, locals := 0 }) (va_Pc [.ref (ad 0)] (mw_B D k_cl (k_tys cI cZ cP cR cC) (k_g tS) (mw_ov B ad cw 21) sz)) (va_Qi (fun (r : Int32) (M1 : mw_M) => M1 = mw_ov B ad cw 21 ∧ ((r = 1 ∧ rk_mkok dr) ∨ (r = 0 ∧ ¬ rk_mkok dr))) (mw_E D k_cl (mw_ov B ad cw 21) sz) (mw_A (mw_ov B ad cw 21) sz)) 0 0 (mw_A (mw_ov B ad cw 21) sz) := by
  refine mw_met (by decide) rfl (Nat.le_of_ble_eq_true rfl) ?_
  intro p e s m below meth c hsz J hr hlk hnm hK hZ hP hS hA ls hl
  subst hsz
  have hx := J.1
  have hb := J.2.1
  have hts := J.2.2.2.2
  have hl : lv_has ls 4 [(0, .ref (ad 0))] := hl
  obtain ⟨hc0, ht, hsv, hbl, ⟨ws, hc5, hWs⟩, hmd, hdr⟩ := id hkp
  obtain ⟨hpm, hsm⟩ := id hfz
  have hclo := rk_holds_clo hh
  obtain ⟨fc, w, hc2, hc3, hc4, hfc, hW, hL3, hnd, hlt⟩ := id ht
  obtain ⟨hrs12, fm, hc6, hfm⟩ := id hmd
  obtain ⟨hdr4, fd, hc7, hfd⟩ := id hdr
  have hfd2 : ∀ i, i < dr.length → ∃ a, fd i = some a ∧ k_pat cI B a (rk_dn dr i) := hfd
  have pw : ∀ c p P, k_pat cI B p P → ∃ b q, mw_ov B ad c 21 p = some (.inr (2, k_pf P b q)) := fun c p P h => by
    obtain ⟨-, b, q, _, _, h, -⟩ := k_pat_mono h (k_fr ho c)
    exact ⟨b, q, h⟩
  refine lv_aload_n hx hb d_Kp_draftIsRule_0 rfl (lv_at hl 0 rfl) ?_
  refine mw_get (v := .int (nI dr.length)) (ci := 6) (C := R_Kp) (T := T_Kp) (N := 7) J i_Kp hK hP (mw_ov_is (i := 0) ho.1 (by decide) hc0) rfl 6 (by decide) (hts _ k_174) (fun _ h9 => h9) rfl d_Kp_draftIsRule_1 ?_
  refine lv_iconst (v := 2) hx hb d_Kp_draftIsRule_4 (by decide) ?_
  refine mw_top (x' := nI 2) rfl ?_
  refine lv_icmp_ge (tgt := 10) hx hb d_Kp_draftIsRule_5 (by decide) (fun c_5 => ?_) (fun c_5 => ?_)
  · have c_5 : 2 ≤ dr.length := (nI_leI (by omega) (by omega)).mp c_5
    refine lv_aload_n hx hb d_Kp_draftIsRule_10 rfl (lv_at hl 0 rfl) ?_
    refine mw_get (v := .int (nI dr.length)) (ci := 6) (C := R_Kp) (T := T_Kp) (N := 7) J i_Kp hK hP (mw_ov_is (i := 0) ho.1 (by decide) hc0) rfl 6 (by decide) (hts _ k_174) (fun _ h9 => h9) rfl d_Kp_draftIsRule_11 ?_
    refine lv_iconst (v := 1) hx hb d_Kp_draftIsRule_14 (by decide) ?_
    refine mw_top (x' := nI 1) rfl ?_
    refine lv_isub hx hb d_Kp_draftIsRule_15 ?_
    refine mw_top (x' := nI (dr.length - 1)) (pk_sub (by omega)) ?_
    refine lv_istore_n (lv' := [(1, .int (nI (dr.length - 1))), (0, .ref (ad 0))]) hx hb d_Kp_draftIsRule_16 rfl hl (by decide) rfl (fun ls hl => ?_)
    refine lv_iconst (v := 0) hx hb d_Kp_draftIsRule_17 (by decide) ?_
    refine mw_top (x' := nI (rk_orn dr 0)) nI_0.symm ?_
    refine lv_istore_n (lv' := [(2, .int (nI (rk_orn dr 0))), (1, .int (nI (dr.length - 1))), (0, .ref (ad 0))]) hx hb d_Kp_draftIsRule_18 rfl hl (by decide) rfl (fun ls hl => ?_)
    refine lv_iconst (v := 0) hx hb d_Kp_draftIsRule_19 (by decide) ?_
    refine mw_top (x' := nI 0) nI_0.symm ?_
    refine lv_istore_n (lv' := [(3, .int (nI 0)), (2, .int (nI (rk_orn dr 0))), (1, .int (nI (dr.length - 1))), (0, .ref (ad 0))]) hx hb d_Kp_draftIsRule_20 rfl hl (by decide) rfl (fun ls hl => ?_)
    refine mw_loop (W' := fun H locs ls => W p l e _ s m _ below meth c H locs _ _ _ (F0 m 21 ls [])) (dr.length - 1) (fun i H locs ls => lv_has ls 4 [(0, .ref (ad 0)), (1, .int (nI (dr.length - 1))), (2, .int (nI (rk_orn dr i))), (3, .int (nI i))] ∧ mw_P D k_cl (mw_ov B ad cw 21) (mw_A (mw_ov B ad cw 21) s.heap.size) H ∧ va_S (mw_A (mw_ov B ad cw 21) s.heap.size) s.heap H locs) ?_ (dr.length - 1) 0 (by omega) (by omega) _ _ _ ⟨lv_sub hl [3, 2, 1, 0] rfl, hP, hS⟩
    intro i H locs ls hi_21 hI ih_21
    obtain ⟨hl, hP, hS⟩ := hI
    refine lv_iload_n hx hb d_Kp_draftIsRule_21 rfl (lv_at hl 3 rfl) ?_
    refine lv_iload_n hx hb d_Kp_draftIsRule_22 rfl (lv_at hl 1 rfl) ?_
    refine lv_icmp_ge (tgt := 44) hx hb d_Kp_draftIsRule_23 (by decide) (fun c_23 => ?_) (fun c_23 => ?_)
    · have c_23 : (dr.length - 1) ≤ i := (nI_leI (by omega) (by omega)).mp c_23
      have hie : i = dr.length - 1 := by omega
      obtain ⟨pl, hfl, hpl⟩ := hfd2 (dr.length - 1) (by omega)
      have hanl : rk_an (rk_vars (rk_dn dr (dr.length - 1))) (rk_orn dr i) < 2 ^ 31 := Nat.lt_trans (rk_an_lt (rk_vars_lt hpl.1)) (by decide)
      refine lv_aload_n hx hb d_Kp_draftIsRule_44 rfl (lv_at hl 0 rfl) ?_
      refine mw_get (v := .ref (ad 7)) (ci := 6) (C := R_Kp) (T := T_Kp) (N := 7) J i_Kp hK hP (mw_ov_is (i := 0) ho.1 (by decide) hc0) rfl 4 (by decide) (hts _ k_172) (fun _ h9 => h9) rfl d_Kp_draftIsRule_45 ?_
      refine lv_iload_n hx hb d_Kp_draftIsRule_48 rfl (lv_at hl 1 rfl) ?_
      refine mw_aaldN (k := (dr.length - 1)) (b := pl) J hK hP 2 (mw_ov_is (i := 7) ho.1 (by decide) hc7) rfl (by omega) (by decide) hfl d_Kp_draftIsRule_49 ?_
      refine mw_get (v := .int (nI (rk_vars (rk_dn dr (dr.length - 1))))) (ci := 2) (C := R_Pt) (T := T_Pt) (N := 8) J i_Pt hK hP (pw _ pl _ hpl).choose_spec.choose_spec rfl 2 (by decide) (hts _ k_77) (fun _ h9 => h9) rfl d_Kp_draftIsRule_50 ?_
      refine lv_iload_n hx hb d_Kp_draftIsRule_53 rfl (lv_at hl 2 rfl) ?_
      refine lv_iconst (v := (-1)) hx hb d_Kp_draftIsRule_54 (by decide) ?_
      refine lv_ixor hx hb d_Kp_draftIsRule_55 ?_
      refine lv_iand hx hb d_Kp_draftIsRule_56 ?_
      refine mw_top (x' := nI (rk_an (rk_vars (rk_dn dr (dr.length - 1))) (rk_orn dr i))) (rk_an_i _ _) ?_
      refine lv_if_ne (tgt := 64) hx hb d_Kp_draftIsRule_57 (by decide) (fun c_57 => ?_) (fun c_57 => ?_)
      · have hn : ¬ rk_mkok dr := fun g => c_57 ((rk_nI0 hanl).mpr (rk_an_0.mpr (fun x hx => by rw [hie]; exact (rk_orn_tb _).mpr (g.2 x (rk_vars_tb.mp hx)))))
        refine lv_iconst (v := 0) hx hb d_Kp_draftIsRule_64 (by decide) ?_
        exact mw_zret J hr hlk rfl hP hS d_Kp_draftIsRule_65 (⟨rfl, Or.inr ⟨rfl, hn⟩⟩)
      · have hy : rk_mkok dr := ⟨by omega, fun x hx => by have h9 := rk_an_0.mp ((rk_nI0 hanl).mp c_57) x (rk_vars_tb.mpr hx); rw [hie] at h9; exact (rk_orn_tb _).mp h9⟩
        refine lv_iconst (v := 1) hx hb d_Kp_draftIsRule_60 (by decide) ?_
        refine lv_goto (tgt := 65) hx hb d_Kp_draftIsRule_61 (by decide) ?_
        exact mw_zret J hr hlk rfl hP hS d_Kp_draftIsRule_65 (⟨rfl, Or.inl ⟨rfl, hy⟩⟩)
    · have c_23 : ¬ ((dr.length - 1) ≤ i) := fun z => c_23 ((nI_leI (by omega) (by omega)).mpr z)
      obtain ⟨pj, hfj, hpj⟩ := hfd2 i (by omega)
      refine lv_iload_n hx hb d_Kp_draftIsRule_26 rfl (lv_at hl 2 rfl) ?_
      refine lv_aload_n hx hb d_Kp_draftIsRule_27 rfl (lv_at hl 0 rfl) ?_
      refine mw_get (v := .ref (ad 7)) (ci := 6) (C := R_Kp) (T := T_Kp) (N := 7) J i_Kp hK hP (mw_ov_is (i := 0) ho.1 (by decide) hc0) rfl 4 (by decide) (hts _ k_172) (fun _ h9 => h9) rfl d_Kp_draftIsRule_28 ?_
      refine lv_iload_n hx hb d_Kp_draftIsRule_31 rfl (lv_at hl 3 rfl) ?_
      refine mw_aaldN (k := i) (b := pj) J hK hP 2 (mw_ov_is (i := 7) ho.1 (by decide) hc7) rfl (by omega) (by decide) hfj d_Kp_draftIsRule_32 ?_
      refine mw_get (v := .int (nI (rk_vars (rk_dn dr i)))) (ci := 2) (C := R_Pt) (T := T_Pt) (N := 8) J i_Pt hK hP (pw _ pj _ hpj).choose_spec.choose_spec rfl 2 (by decide) (hts _ k_77) (fun _ h9 => h9) rfl d_Kp_draftIsRule_33 ?_
      refine lv_ior hx hb d_Kp_draftIsRule_36 ?_
      refine mw_top (x' := nI (rk_orn dr (i + 1))) (nx_or _ _) ?_
      refine lv_istore_n (lv' := [(2, .int (nI (rk_orn dr (i + 1)))), (0, .ref (ad 0)), (1, .int (nI (dr.length - 1))), (3, .int (nI i))]) hx hb d_Kp_draftIsRule_37 rfl hl (by decide) rfl (fun ls hl => ?_)
      refine lv_iinc (v := nI (i + 1)) (lv' := [(3, .int (nI (i + 1))), (2, .int (nI (rk_orn dr (i + 1)))), (0, .ref (ad 0)), (1, .int (nI (dr.length - 1)))]) hx hb d_Kp_draftIsRule_38 hl (k := 3) rfl (nI_1 i) (by decide) rfl (fun ls hl => ?_)
      refine lv_goto (tgt := 21) hx hb d_Kp_draftIsRule_41 (by decide) ?_
      exact ih_21 _ _ _ (by omega) ⟨lv_sub hl [2, 3, 1, 0] rfl, hP, hS⟩
  · have c_5 : ¬ (2 ≤ dr.length) := fun z => c_5 ((nI_leI (by omega) (by omega)).mpr z)
    have hn : ¬ rk_mkok dr := fun g => c_5 g.1
    refine lv_iconst (v := 0) hx hb d_Kp_draftIsRule_8 (by decide) ?_
    exact mw_zret J hr hlk rfl hP hS d_Kp_draftIsRule_9 (⟨rfl, Or.inr ⟨rfl, hn⟩⟩)

set_option maxHeartbeats 4000000 in
set_option maxRecDepth 100000 in
theorem c_Kp_ruleOfDraft (l : Launch) (D : va_G) (cI cZ cP cR cC : ClassId) (tS : Nat) (sz : Nat) (B : mw_M) (ad : Nat → Nat) (cw : Nat → va_E) (pm sm ca : Nat) (said : Nat → Bool) (rs : List rk_Ru) (dr : List rk_Pt) (L : List Nat) (ho : k_ov B ad) (hfz : k_fz B ad pm sm) (hkp : k_kp cI cP cR cC B ad cw pm sm ca said rs dr L) (hh : rk_holds said rs L) (hsd : ∀ j, said j = true → j < 32768) (hdr2 : 2 ≤ dr.length) :
    Met l y_Kp_ruleOfDraft (.code y_Kp_ruleOfDraft b_Kp_ruleOfDraft 4 (some (.object "RuleKeeper$Rule")) :: gw) ({ frames := 2, cells := 3, slots := 9, locals := 37 }) (va_Pc [.ref (ad 0)] (mw_B D k_cl (k_tys cI cZ cP cR cC) (k_g tS) (mw_ov B ad cw 21) sz)) (va_Qr (fun (u : mw_M × Nat) => ∃ B1, u.1 = mw_ov B1 ad cw 21 ∧ k_ov B1 ad ∧ (∀ q e, B q = some e → B1 q = some e) ∧ k_rule cI cP B1 u.2 (rk_mk dr)) (mw_Er D k_cl (mw_ov B ad cw 21) sz) (mw_A (mw_ov B ad cw 21) sz)) 3 9 (mw_A (mw_ov B ad cw 21) sz) := by
  refine mw_met (by decide) rfl (Nat.le_of_ble_eq_true rfl) ?_
  intro p e s m below meth c hsz J hr hlk hnm hK hZ hP hS hA ls hl
  subst hsz
  have hx := J.1
  have hb := J.2.1
  have hts := J.2.2.2.2
  have hl : lv_has ls 4 [(0, .ref (ad 0))] := hl
  obtain ⟨hc0, ht, hsv, hbl, ⟨ws, hc5, hWs⟩, hmd, hdr⟩ := id hkp
  obtain ⟨hpm, hsm⟩ := id hfz
  have hclo := rk_holds_clo hh
  obtain ⟨fc, w, hc2, hc3, hc4, hfc, hW, hL3, hnd, hlt⟩ := id ht
  obtain ⟨hrs12, fm, hc6, hfm⟩ := id hmd
  obtain ⟨hdr4, fd, hc7, hfd⟩ := id hdr
  have hfd2 : ∀ i, i < dr.length → ∃ a, fd i = some a ∧ k_pat cI B a (rk_dn dr i) := hfd
  have pw : ∀ c p P, k_pat cI B p P → ∃ b q, mw_ov B ad c 21 p = some (.inr (2, k_pf P b q)) := fun c p P h => by
    obtain ⟨-, b, q, _, _, h, -⟩ := k_pat_mono h (k_fr ho c)
    exact ⟨b, q, h⟩
  refine lv_aload_n hx hb d_Kp_ruleOfDraft_0 rfl (lv_at hl 0 rfl) ?_
  refine mw_get (v := .int (nI dr.length)) (ci := 6) (C := R_Kp) (T := T_Kp) (N := 7) J i_Kp hK hP (mw_ov_is (i := 0) ho.1 (by decide) hc0) rfl 6 (by decide) (hts _ k_174) (fun _ h9 => h9) rfl d_Kp_ruleOfDraft_1 ?_
  refine lv_iconst (v := 1) hx hb d_Kp_ruleOfDraft_4 (by decide) ?_
  refine mw_top (x' := nI 1) rfl ?_
  refine lv_isub hx hb d_Kp_ruleOfDraft_5 ?_
  refine mw_top (x' := nI (dr.length - 1)) (pk_sub (by omega)) ?_
  refine lv_iconst (v := 0) hx hb d_Kp_ruleOfDraft_6 (by decide) ?_
  refine va_mmax hx hb (J.2.2.1.trans hl.1.symm) J.2.2.2.1 (hts _ k_228) (hts _ k_229) (hts _ k_9) (hts _ k_230) (Nat.le_of_ble_eq_true rfl) (Nat.le_of_ble_eq_true rfl) (Nat.le_of_ble_eq_true rfl) (Nat.le_of_ble_eq_true rfl) d_Kp_ruleOfDraft_7 ?_
  refine mw_top (x' := nI (dr.length - 1)) (if_neg (nI_pos (by omega))) ?_
  refine lv_istore_n (lv' := [(1, .int (nI (dr.length - 1))), (0, .ref (ad 0))]) hx hb d_Kp_ruleOfDraft_10 rfl hl (by decide) rfl (fun ls hl => ?_)
  refine lv_iload_n hx hb d_Kp_ruleOfDraft_11 rfl (lv_at hl 0 rfl) ?_
  refine mw_newq (N' := (dr.length - 1)) J (hts _ k_144) (hZ.2.1 _ (List.mem_cons_of_mem _ List.mem_cons_self)) hK hP hS hA 2 rfl (nI_pos (by omega)) (nI_clamp (by omega)) (by omega) (Nat.le_of_ble_eq_true rfl) (by show 0 + (dr.length - 1) ≤ 9; omega) d_Kp_ruleOfDraft_12 (fun bo H hbon hP hS => ?_)
  have hne : ∀ z e, (mw_ov B ad cw 21) z = some e → z ≠ bo := fun z e h g => by rw [g, hbon] at h; cases h
  have hup : ∀ x z e, (mw_ov B ad cw 21) z = some e → va_up (mw_ov B ad cw 21) bo x z = some e := fun x z e h => (va_up_ne _ _ (hne z e h)).trans h
  have pwb : ∀ x p P, k_pat cI B p P → ∃ b q, va_up (mw_ov B ad cw 21) bo x p = some (.inr (2, k_pf P b q)) := fun x p P h => by
    obtain ⟨b, q, h⟩ := pw cw p P h
    exact ⟨b, q, hup x _ _ h⟩
  refine lv_astore_n (lv' := [(2, .ref bo), (1, .int (nI (dr.length - 1))), (0, .ref (ad 0))]) hx hb d_Kp_ruleOfDraft_15 rfl hl (by decide) rfl (fun ls hl => ?_)
  refine lv_iconst (v := 0) hx hb d_Kp_ruleOfDraft_16 (by decide) ?_
  refine mw_top (x' := nI 0) nI_0.symm ?_
  refine lv_istore_n (lv' := [(3, .int (nI 0)), (2, .ref bo), (1, .int (nI (dr.length - 1))), (0, .ref (ad 0))]) hx hb d_Kp_ruleOfDraft_17 rfl hl (by decide) rfl (fun ls hl => ?_)
  refine mw_loop (W' := fun H locs ls => W p l e _ s m _ below meth c H locs _ _ _ (F0 m 18 ls [])) (dr.length - 1) (fun i H locs ls => ∃ (fo : Nat → Option Nat), lv_has ls 4 [(0, .ref (ad 0)), (1, .int (nI (dr.length - 1))), (2, .ref bo), (3, .int (nI i))] ∧ (∀ j, j < i → ∃ p, fo j = some p ∧ k_pat cI B p (rk_dn dr j)) ∧ mw_P D k_cl (va_up (mw_ov B ad cw 21) bo (some (.inl (cP, dr.length - 1, .inr (.inr (.inr (.inr fo))))))) (mw_A (mw_ov B ad cw 21) s.heap.size) H ∧ va_S (mw_A (mw_ov B ad cw 21) s.heap.size) s.heap H locs) ?_ (dr.length - 1) 0 (by omega) (by omega) _ _ _ ⟨(fun _ => none), lv_sub hl [3, 2, 1, 0] rfl, (fun j hj => absurd hj (Nat.not_lt_zero j)), hP, hS⟩
  intro i H locs ls hi_18 hI ih_18
  obtain ⟨fo, hl, hfo, hP, hS⟩ := hI
  refine lv_iload_n hx hb d_Kp_ruleOfDraft_18 rfl (lv_at hl 3 rfl) ?_
  refine lv_iload_n hx hb d_Kp_ruleOfDraft_19 rfl (lv_at hl 1 rfl) ?_
  refine lv_icmp_ge (tgt := 38) hx hb d_Kp_ruleOfDraft_20 (by decide) (fun c_20 => ?_) (fun c_20 => ?_)
  · have c_20 : (dr.length - 1) ≤ i := (nI_leI (by omega) (by omega)).mp c_20
    have hie : i = dr.length - 1 := by omega
    obtain ⟨pl, hfl, hpl⟩ := hfd2 (dr.length - 1) (by omega)
    refine mw_new (ci := 3) (fs := [.null, .null, .null]) (C := R_Ru) (T := T_Ru) (N := 3) J i_Ru t_Ru o_Ru (hts _ k_146) (hts _ k_149) (hts _ k_7) hK hP hS hA rfl (fun j hj => by rcases (show j = 0 ∨ j = 1 ∨ j = 2 by omega) with rfl | rfl | rfl <;> rfl) ((Nat.le_of_ble_eq_true rfl)) ((by show 0 + (dr.length - 1) + 3 ≤ 9; omega)) d_Kp_ruleOfDraft_38 (fun ru H hrun hP hS => ?_)
    have hne2 : ∀ z e, va_up (mw_ov B ad cw 21) bo (some (.inl (cP, dr.length - 1, .inr (.inr (.inr (.inr fo)))))) z = some e → z ≠ ru := fun z e h g => by rw [g, hrun] at h; cases h
    have hup2 : ∀ x z e, (va_up (mw_ov B ad cw 21) bo (some (.inl (cP, dr.length - 1, .inr (.inr (.inr (.inr fo))))))) z = some e → va_up (va_up (mw_ov B ad cw 21) bo (some (.inl (cP, dr.length - 1, .inr (.inr (.inr (.inr fo))))))) ru x z = some e := fun x z e h => (va_up_ne _ _ (hne2 z e h)).trans h
    refine lv_dup hx hb d_Kp_ruleOfDraft_41 rfl ?_
    refine lv_aload_n hx hb d_Kp_ruleOfDraft_42 rfl (lv_at hl 2 rfl) ?_
    refine lv_aload_n hx hb d_Kp_ruleOfDraft_43 rfl (lv_at hl 0 rfl) ?_
    refine mw_get (v := .ref (ad 7)) (ci := 6) (C := R_Kp) (T := T_Kp) (N := 7) J i_Kp hK hP (hup2 _ _ _ (hup _ _ _ (mw_ov_is (i := 0) ho.1 (by decide) hc0))) rfl 4 (by decide) (hts _ k_172) (fun _ h9 => h9) rfl d_Kp_ruleOfDraft_44 ?_
    refine lv_iload_n hx hb d_Kp_ruleOfDraft_47 rfl (lv_at hl 1 rfl) ?_
    refine mw_aaldN (k := (dr.length - 1)) (b := pl) J hK hP 2 (hup2 _ _ _ (hup _ _ _ (mw_ov_is (i := 7) ho.1 (by decide) hc7))) rfl (by omega) (by decide) hfl d_Kp_ruleOfDraft_48 ?_
    refine mw_afterV hP hS hA (mw_runI (As := [.ref bo, .ref pl]) (rest := [.ref ru]) J hK hZ hP hS hA (c_Ru_init l D cI cZ cP cR cC tS _ (va_up (va_up (mw_ov B ad cw 21) bo (some (.inl (cP, dr.length - 1, .inr (.inr (.inr (.inr fo))))))) ru (some (.inr (3, [.null, .null, .null])))) ru bo pl (rk_mk dr) fo (by rw [rk_mk_len]; omega) (va_up_self _ _ _) (by rw [rk_mk_len]; exact hup2 _ _ _ (va_up_self _ _ _)) (k_pat_mono hpl (fun z e h => hup2 _ _ _ (hup _ _ _ (mw_ov_fr ho.2 h)))) (fun j hj => by rw [rk_mk_len] at hj; obtain ⟨p, g1, g2⟩ := hfo j (by omega); exact ⟨p, g1, by rw [rk_mk_nth hj]; exact k_pat_mono g2 (fun z e h => hup2 _ _ _ (hup _ _ _ (mw_ov_fr ho.2 h)))⟩)) (cwI 2 hts (mw_gI k_152) rfl rfl rfl (hts _ k_7) (hts _ k_150) (hts _ k_151) rfl (by decide +kernel) ⟨Nat.le_of_ble_eq_true rfl, Nat.le_of_ble_eq_true rfl⟩) rfl hl.1 rfl (Nat.le_of_ble_eq_true rfl) d_Kp_ruleOfDraft_49 ⟨Nat.le_of_ble_eq_true rfl, by show 0 + (dr.length - 1) + 3 + 3 ≤ 9; omega⟩) (fun M1 H locs hw hP hS => ?_)
    obtain ⟨sh, fs, q1, q2, q3, q4⟩ := hw
    have hrn0 : (mw_ov B ad cw 21) ru = none := by
      cases g : (mw_ov B ad cw 21) ru with
      | none => rfl
      | some e => exact absurd rfl (hne2 ru e (hup _ _ _ g))
    have hz9 : ∀ z e, (mw_ov B ad cw 21) z = some e → z ≠ sh ∧ M1 z = some e := fun z e h => q4 z e (hne2 z e (hup _ _ _ h)) (hup2 _ _ _ (hup _ _ _ h))
    obtain ⟨B1, rfl, ho1, hB1, hru1⟩ := k_newrule ho (by rw [rk_mk_len]; omega) hbon hrn0 hz9 q1 (by rw [rk_mk_len]; exact (q4 bo _ (hne2 bo _ (va_up_self _ _ _)) (hup2 _ _ _ (va_up_self _ _ _))).2) q2 hpl (fun j hj => by rw [rk_mk_len] at hj; obtain ⟨p, g1, g2⟩ := hfo j (by omega); exact ⟨p, g1, by rw [rk_mk_nth hj]; exact g2⟩) q3
    refine W.widen (k := 3) (n := 9) (by omega) (by omega) ?_
    exact mw_aret J hr hlk hP hS d_Kp_ruleOfDraft_52 (⟨B1, rfl, ho1, hB1, hru1⟩)
  · have c_20 : ¬ ((dr.length - 1) ≤ i) := fun z => c_20 ((nI_leI (by omega) (by omega)).mpr z)
    obtain ⟨pj, hfj, hpj⟩ := hfd2 i (by omega)
    refine lv_aload_n hx hb d_Kp_ruleOfDraft_23 rfl (lv_at hl 2 rfl) ?_
    refine lv_iload_n hx hb d_Kp_ruleOfDraft_24 rfl (lv_at hl 3 rfl) ?_
    refine lv_aload_n hx hb d_Kp_ruleOfDraft_25 rfl (lv_at hl 0 rfl) ?_
    refine mw_get (v := .ref (ad 7)) (ci := 6) (C := R_Kp) (T := T_Kp) (N := 7) J i_Kp hK hP (hup _ _ _ (mw_ov_is (i := 0) ho.1 (by decide) hc0)) rfl 4 (by decide) (hts _ k_172) (fun _ h9 => h9) rfl d_Kp_ruleOfDraft_26 ?_
    refine lv_iload_n hx hb d_Kp_ruleOfDraft_29 rfl (lv_at hl 3 rfl) ?_
    refine mw_aaldN (k := i) (b := pj) J hK hP 2 (hup _ _ _ (mw_ov_is (i := 7) ho.1 (by decide) hc7)) rfl (by omega) (by decide) hfj d_Kp_ruleOfDraft_30 ?_
    refine mw_aastN (k := i) J hK hP hS 2 2 (va_up_self _ _ _) rfl (pwb _ pj _ hpj).choose_spec.choose_spec rfl (by omega) (by omega) d_Kp_ruleOfDraft_31 (fun H locs hP hS => ?_)
    have hP : mw_P D k_cl (va_up (va_up (mw_ov B ad cw 21) bo (some (.inl (cP, dr.length - 1, .inr (.inr (.inr (.inr fo))))))) bo (some (.inl (cP, dr.length - 1, .inr (.inr (.inr (.inr (va_up fo i (some pj))))))))) _ H := hP
    rw [va_uu] at hP
    refine lv_iinc (v := nI (i + 1)) (lv' := [(3, .int (nI (i + 1))), (0, .ref (ad 0)), (1, .int (nI (dr.length - 1))), (2, .ref bo)]) hx hb d_Kp_ruleOfDraft_32 hl (k := 3) rfl (nI_1 i) (by decide) rfl (fun ls hl => ?_)
    refine lv_goto (tgt := 18) hx hb d_Kp_ruleOfDraft_35 (by decide) ?_
    exact ih_18 _ _ _ (by omega) ⟨(va_up fo i (some pj)), lv_sub hl [1, 2, 3, 0] rfl, (lt_s (fun z hz => by obtain ⟨p, g1, g2⟩ := hfo z hz; exact ⟨p, (va_up_ne _ _ (by omega)).trans g1, g2⟩) ⟨pj, va_up_self _ _ _, hpj⟩), hP, hS⟩
