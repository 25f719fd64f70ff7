theorem rk_nn1 : ∀ j, j < 3 → nI j ≠ -1 := by decide +kernel
/-! Solver.derive, casesGiving -/
set_option maxHeartbeats 4000000 in
set_option maxRecDepth 100000 in
theorem c_Sv_derive (l : Launch) (D : va_G) (cI cZ cP cR cC : ClassId) (tS : Nat) (sz : Nat) (B : mw_M) (ad : Nat → Nat) (cw : Nat → va_E) (pm : Nat) (L : List Nat) (ho : k_ov B ad) (hpm : B pm = some (.inr (0, [.ref (ad 4)]))) (ht : k_tr cI ad cw pm L) (ca cc : Nat) (u : Nat → Nat) (hsv : k_sv cI cC B ad cw ca cc u) (hbl : ∀ d, d < 3 → k_blank cI ad cw d) (ra : Nat) (r : rk_Ru) (hrule : k_rule cI cP B ra r) (hok : rk_okR r) (wi a0 : Nat) (hwi : wi < r.1.length) (ha : a0 < L.length) :
    Met l y_Sv_derive (.code y_Sv_derive b_Sv_derive 7 (some .boolean) :: gw) ({ frames := 7, cells := 0, slots := 0, locals := 158 }) (va_Pc [.ref (ad 1), .ref ra, .int (nI wi), .int (nI a0)] (mw_B D k_cl (k_tys cI cZ cP cR cC) (k_g tS) (mw_ov B ad cw 21) sz)) (va_Qi (fun (rr : Int32) (M1 : mw_M) => ∃ cw1 N1 u1 cc1, M1 = mw_ov B ad cw1 21 ∧ k_tr cI ad cw1 pm (L ++ N1) ∧ k_sv cI cC B ad cw1 ca cc1 u1 ∧ (∀ d, d < 3 → k_blank cI ad cw1 d) ∧ (∀ i, i = 0 ∨ i = 5 ∨ i = 6 ∨ i = 7 → cw1 i = cw i) ∧ (∀ z, z ∈ N1 → ∃ v, rk_case r (· ∈ L.take (a0 + 1)) v ∧ rk_inst r.2 v = z) ∧ ((rr = 1 ∧ rk_drv r wi (· ∈ L.take a0) (· ∈ L.take (a0 + 1)) (· ∈ L ++ N1)) ∨ (rr = 0 ∧ (L ++ N1).length = 300 ∧ ∃ z, z ∉ L ++ N1 ∧ ∃ v, rk_case r (· ∈ L.take (a0 + 1)) v ∧ rk_inst r.2 v = z))) (mw_E D k_cl (mw_ov B ad cw 21) sz) (mw_A (mw_ov B ad cw 21) sz)) 0 0 (mw_A (mw_ov B ad cw 21) sz) := by
  refine mw_met (by decide) rfl (Nat.le_of_ble_eq_true rfl) ?_
  intro p e s m below meth c hsz J hr hlk hnm hK hZ hP hS hA ls hl
  subst hsz
  have hx := J.1
  have hb := J.2.1
  have hts := J.2.2.2.2
  have hl : lv_has ls 7 [(0, .ref (ad 1)), (1, .ref ra), (2, .int (nI wi)), (3, .int (nI a0))] := hl
  have ht0 := ht
  have hsv0 := hsv
  obtain ⟨fc, w, hc2, hc3, hc4, hfc, hW, hL3, hnd, hlt⟩ := ht
  obtain ⟨hc1, hc8, hu, fa, hca, hfa⟩ := hsv
  obtain ⟨hr3, bo, hd, sh, fo, fs, hr1, hr2, hr4, hrh, hfo, hfs⟩ := id hrule
  have hq : (L.getD a0 0) < 32768 := hlt _ (rk_getD_mem ha)
  obtain ⟨p0, hpo, hpp⟩ := hfo wi hwi
  have hsh8 : (rk_shm r wi) < 256 := rk_shm_lt hpp.1
  have pp : ∀ c, ∃ b q, mw_ov B ad c 21 p0 = some (.inr (2, k_pf (rk_nth r wi) b q)) := fun c => by
    obtain ⟨-, b, q, _, _, h, -⟩ := k_pat_mono hpp (k_fr ho c)
    exact ⟨b, q, h⟩
  refine lv_aload_n hx hb d_Sv_derive_0 rfl (lv_at hl 1 rfl) ?_
  refine mw_get (v := .ref bo) (ci := 3) (C := R_Ru) (T := T_Ru) (N := 3) J i_Ru hK hP (mw_ov_fr ho.2 hr1) rfl 0 (by decide) (hts _ k_155) (fun _ h9 => h9) rfl d_Sv_derive_1 ?_
  refine lv_iload_n hx hb d_Sv_derive_4 rfl (lv_at hl 2 rfl) ?_
  refine mw_aaldN (k := wi) (b := p0) J hK hP 2 (mw_ov_fr ho.2 hr2) rfl hwi (by omega) hpo d_Sv_derive_5 ?_
  refine lv_astore (lv' := [(4, .ref p0), (0, .ref (ad 1)), (1, .ref ra), (2, .int (nI wi)), (3, .int (nI a0))]) hx hb d_Sv_derive_6 hl (by decide) rfl (fun ls hl => ?_)
  refine lv_aload_n hx hb d_Sv_derive_8 rfl (lv_at hl 1 rfl) ?_
  refine mw_get (v := .ref (ad 2)) (ci := 5) (C := R_Sv) (T := T_Sv) (N := 4) J i_Sv hK hP (mw_ov_is (i := 1) ho.1 (by decide) hc1) rfl 0 (by decide) (hts _ k_128) (fun _ h9 => h9) rfl d_Sv_derive_9 ?_
  refine mw_get (v := .ref (ad 3)) (ci := 1) (C := R_Tr) (T := T_Tr) (N := 3) J i_Tr hK hP (mw_ov_is (i := 2) ho.1 (by decide) hc2) rfl 0 (by decide) (hts _ k_42) (fun _ h9 => h9) rfl d_Sv_derive_12 ?_
  refine lv_iload_n hx hb d_Sv_derive_15 rfl (lv_at hl 4 rfl) ?_
  refine mw_nald (k := a0) J hK hP 0 (mw_ov_is (i := 3) ho.1 (by decide) hc3) rfl (by omega) (by decide) d_Sv_derive_16 ?_
  refine mw_top (x' := nI (L.getD a0 0)) (by rw [hfc a0 ha]) ?_
  refine lv_istore (lv' := [(5, .int (nI (L.getD a0 0))), (4, .ref p0), (0, .ref (ad 1)), (1, .ref ra), (2, .int (nI wi)), (3, .int (nI a0))]) hx hb d_Sv_derive_17 hl (by decide) rfl (fun ls hl => ?_)
  refine lv_aload hx hb d_Sv_derive_19 (lv_at hl 1 rfl) ?_
  refine lv_iload hx hb d_Sv_derive_21 (lv_at hl 0 rfl) ?_
  refine mw_afterI hP hS hA (mw_runV (As := [.int (nI (L.getD a0 0))]) (rest := []) J hK hZ hP hS hA (pp _).choose_spec.choose_spec rfl (c_Pt_fits l D cI cZ cP cR cC tS _ (mw_ov B ad cw 21) p0 (rk_nth r wi) (k_pat_mono hpp (k_fr ho _)) (L.getD a0 0) hq) (cwV 1 hts (mw_gV k_235 k_236 k_237 k_6 k_238) rfl rfl rfl (by decide +kernel) ⟨Nat.le_of_ble_eq_true rfl, Nat.le_of_ble_eq_true rfl⟩) rfl hl.1 rfl (Nat.le_of_ble_eq_true rfl) d_Sv_derive_23 ⟨Nat.le_of_ble_eq_true rfl, Nat.le_of_ble_eq_true rfl⟩) (fun r1 M1 H locs hw hP hS => ?_)
  obtain ⟨rfl, hw⟩ := hw
  refine lv_if_ne (tgt := 31) hx hb d_Sv_derive_26 (by decide) (fun c_26 => ?_) (fun c_26 => ?_)
  · have hfit : rk_fits (rk_nth r wi) (L.getD a0 0) := by
      rcases hw with ⟨_, h⟩ | ⟨h, _⟩
      · exact h
      · exact absurd h c_26
    refine lv_aload_n hx hb d_Sv_derive_31 rfl (lv_at hl 3 rfl) ?_
    refine mw_get (v := .ref sh) (ci := 3) (C := R_Ru) (T := T_Ru) (N := 3) J i_Ru hK hP (mw_ov_fr ho.2 hr1) rfl 2 (by decide) (hts _ k_160) (fun _ h9 => h9) rfl d_Sv_derive_32 ?_
    refine lv_iload_n hx hb d_Sv_derive_35 rfl (lv_at hl 4 rfl) ?_
    refine mw_nald (k := wi) J hK hP 0 (mw_ov_fr ho.2 hr4) rfl hwi (by omega) d_Sv_derive_36 ?_
    refine mw_top (x' := nI (rk_shm r wi)) (by rw [hfs wi hwi]) ?_
    refine lv_istore (lv' := [(6, .int (nI (rk_shm r wi))), (5, .int (nI (L.getD a0 0))), (4, .ref p0), (0, .ref (ad 1)), (1, .ref ra), (2, .int (nI wi)), (3, .int (nI a0))]) hx hb d_Sv_derive_37 hl (by decide) rfl (fun ls hl => ?_)
    refine lv_aload hx hb d_Sv_derive_39 (lv_at hl 2 rfl) ?_
    refine lv_iload hx hb d_Sv_derive_41 (lv_at hl 1 rfl) ?_
    refine lv_iload hx hb d_Sv_derive_43 (lv_at hl 0 rfl) ?_
    refine lv_aload_n hx hb d_Sv_derive_45 rfl (lv_at hl 3 rfl) ?_
    refine mw_get (v := .ref (ad 8)) (ci := 5) (C := R_Sv) (T := T_Sv) (N := 4) J i_Sv hK hP (mw_ov_is (i := 1) ho.1 (by decide) hc1) rfl 1 (by decide) (hts _ k_130) (fun _ h9 => h9) rfl d_Sv_derive_46 ?_
    refine mw_afterV hP hS hA (mw_runV (As := [.int (nI (L.getD a0 0)), .int (nI (rk_shm r wi)), .ref (ad 8)]) (rest := []) J hK hZ hP hS hA (pp _).choose_spec.choose_spec rfl (c_Pt_bind l D cI cZ cP cR cC tS _ (mw_ov B ad cw 21) p0 (rk_nth r wi) (k_pat_mono hpp (k_fr ho _)) (L.getD a0 0) hq (rk_shm r wi) hsh8 (ad 8) u hu (mw_ov_is (i := 8) ho.1 (by decide) hc8)) (cwV 3 hts (mw_gV k_243 k_244 k_245 k_6 k_246) rfl rfl rfl (by decide +kernel) ⟨Nat.le_of_ble_eq_true rfl, Nat.le_of_ble_eq_true rfl⟩) rfl hl.1 rfl (Nat.le_of_ble_eq_true rfl) d_Sv_derive_49 ⟨Nat.le_of_ble_eq_true rfl, Nat.le_of_ble_eq_true rfl⟩) (fun M1 H locs hw hP hS => ?_)
    obtain rfl := hw
    rw [mw_ov_set ho.1 (by decide)] at hP
    obtain ⟨u2, eu2⟩ : ∃ z, z = rk_bind (rk_nth r wi) (rk_tb (rk_shm r wi)) (L.getD a0 0) u := ⟨_, rfl⟩
    rw [← eu2] at hP
    have hu2 : rk_okV u2 := by rw [eu2]; exact rk_bind_ok hu
    have hub : ∀ j x, j < 3 → rk_at (rk_nth r wi) j = 32 + x → rk_tb (rk_shm r wi) x = true → u2 x = rk_dg (L.getD a0 0) j := by rw [eu2]; exact rk_bind_fit hfit
    obtain ⟨cb, ecb⟩ : ∃ z : Nat → va_E, z = va_up cw 8 (.inl (cI, 8, .inl (rk_nf u2))) := ⟨_, rfl⟩
    rw [← ecb] at hP
    have hbo : ∀ z, z ≠ 8 → cb z = cw z := fun z hz => by rw [ecb, va_up_ne _ _ hz]
    have hb8 : cb 8 = .inl (cI, 8, .inl (rk_nf u2)) := by rw [ecb]; exact va_up_self _ _ _
    have ktb0 : k_tr cI ad cb pm L := ⟨fc, w, (hbo 2 (by decide)).trans hc2, (hbo 3 (by decide)).trans hc3, (hbo 4 (by decide)).trans hc4, hfc, hW, hL3, hnd, hlt⟩
    have ktb : k_tr cI ad cb pm (L ++ []) := by rw [List.append_nil]; exact ktb0
    have ksb : k_sv cI cC B ad cb ca cc u2 := ⟨(hbo 1 (by decide)).trans hc1, hb8, hu2, fa, hca, hfa⟩
    have hbb : ∀ d, d < 3 → k_blank cI ad cb d := fun d hd => k_blank_same (hbl d hd) (fun z hz => hbo _ (by omega))
    have hob : ∀ i, i = 0 ∨ i = 5 ∨ i = 6 ∨ i = 7 → cb i = cw i := fun i hi => hbo i (by omega)
    refine lv_aload_n hx hb d_Sv_derive_52 rfl (lv_at hl 3 rfl) ?_
    refine lv_aload hx hb d_Sv_derive_53 (lv_at hl 2 rfl) ?_
    refine lv_iload hx hb d_Sv_derive_55 (lv_at hl 0 rfl) ?_
    refine lv_iload_n hx hb d_Sv_derive_57 rfl (lv_at hl 6 rfl) ?_
    refine mw_afterI hP hS hA (mw_runV (As := [.ref p0, .int (nI (rk_shm r wi)), .int (nI a0)]) (rest := []) J hK hZ hP hS hA (mw_ov_is (i := 1) ho.1 (by decide) ((hbo 1 (by decide)).trans hc1)) rfl (c_Sv_isMatchedBefore l D cI cZ cP cR cC tS _ B ad cb pm L ho hpm ktb0 ca cc u2 ksb p0 (rk_nth r wi) hpp (rk_shm r wi) a0 hsh8 (by omega)) (cwV 3 hts (mw_gV k_247 k_249 s_Sv_isMatchedBefore k_2 k_250) rfl rfl rfl (by decide +kernel) ⟨Nat.le_of_ble_eq_true rfl, Nat.le_of_ble_eq_true rfl⟩) rfl hl.1 rfl (Nat.le_of_ble_eq_true rfl) d_Sv_derive_58 ⟨Nat.le_of_ble_eq_true rfl, Nat.le_of_ble_eq_true rfl⟩) (fun r2 M1 H locs hw hP hS => ?_)
    obtain ⟨rfl, hw⟩ := hw
    refine lv_if_eq (tgt := 66) hx hb d_Sv_derive_61 (by decide) (fun c_61 => ?_) (fun c_61 => ?_)
    · refine lv_aload_n hx hb d_Sv_derive_66 rfl (lv_at hl 3 rfl) ?_
      refine lv_aload_n hx hb d_Sv_derive_67 rfl (lv_at hl 4 rfl) ?_
      refine lv_iload_n hx hb d_Sv_derive_68 rfl (lv_at hl 5 rfl) ?_
      refine lv_iload hx hb d_Sv_derive_69 (lv_at hl 0 rfl) ?_
      refine lv_iload_n hx hb d_Sv_derive_71 rfl (lv_at hl 6 rfl) ?_
      refine lv_iconst (v := 1) hx hb d_Sv_derive_72 (by decide) ?_
      refine mw_top (x' := nI 1) rfl ?_
      refine lv_iadd hx hb d_Sv_derive_73 ?_
      refine mw_top (x' := nI (a0 + 1)) (nI_add _ _) ?_
      refine mw_afterI hP hS hA (mw_runV (As := [.ref ra, .int (nI wi), .int (nI (rk_shm r wi)), .int (nI (a0 + 1))]) (rest := []) J hK hZ hP hS hA (mw_ov_is (i := 1) ho.1 (by decide) ((hbo 1 (by decide)).trans hc1)) rfl (c_Sv_fillColumns l D cI cZ cP cR cC tS _ B ad cb pm L ho hpm ktb0 ca cc u2 ksb ra r hrule (nI wi) wi (fun j hj => nI_eq (by omega) (by omega)) (rk_shm r wi) (a0 + 1) hsh8 (by omega) hbb) (cwV 4 hts (mw_gV k_260 k_262 s_Sv_fillColumns k_2 k_263) rfl rfl rfl (by decide +kernel) ⟨Nat.le_of_ble_eq_true rfl, Nat.le_of_ble_eq_true rfl⟩) rfl hl.1 rfl (Nat.le_of_ble_eq_true rfl) d_Sv_derive_74 ⟨Nat.le_of_ble_eq_true rfl, Nat.le_of_ble_eq_true rfl⟩) (fun r3 M1 H locs hw hP hS => ?_)
      obtain ⟨cf1, cc1, rfl, ksf, hlf, hbf, hcase⟩ := hw
      have ktf : k_tr cI ad cf1 pm L := by
        obtain ⟨fx, wx, a2, a3, a4, a5⟩ := ktb0
        exact ⟨fx, wx, (hlf 2 (by decide) (by decide)).trans a2, (hlf 3 (by decide) (by decide)).trans a3, (hlf 4 (by decide) (by decide)).trans a4, a5⟩
      have hof : ∀ i, i = 0 ∨ i = 5 ∨ i = 6 ∨ i = 7 → cf1 i = cw i := fun i hi => by rw [hlf i (by omega) (by omega)]; exact hob i hi
      refine lv_if_ne (tgt := 82) hx hb d_Sv_derive_77 (by decide) (fun c_77 => ?_) (fun c_77 => ?_)
      · have hyes : ∃ cf, cc1 = (rk_cols r wi cf r.1.length).length ∧ (∀ j, j < r.1.length → j ≠ wi → rk_iscol r (rk_shm r wi) j (cf j) ∧ rk_colok (L.take (a0 + 1)) (rk_tb (rk_shm r wi)) u2 (cf j)) ∧ ∀ e, e < cc1 → k_cold cI B ad cf1 e ((rk_cols r wi cf r.1.length).getD e rk_col0) := by
          rcases hcase with ⟨_, h⟩ | ⟨h, _⟩
          · exact h
          · exact absurd h c_77
        obtain ⟨cf, rfl, hcf, hcdd⟩ := hyes
        have hjn : rk_jn (L.take (a0 + 1)) (rk_tb (rk_shm r wi)) u2 r.2 ((rk_cols r wi cf r.1.length).drop 0) (rk_tb (rk_shm r wi)) u2 := by
          rw [List.drop_zero]
          refine rk_jn_of hu2 hcf (fun x hx => ?_)
          obtain ⟨P, hP, hin⟩ := hok.2.2.2.2 x hx
          obtain ⟨j, hj, rfl⟩ := rk_mem_nth hP
          by_cases e : j = wi
          · subst e
            exact Or.inl (rk_shm_tb.mpr ⟨hin, Or.inl hx⟩)
          · exact Or.inr ⟨j, hj, e, hin⟩
        have hlt1 : ∀ k, k ∈ L.take (a0 + 1) → k < 32768 := fun k hk => hlt k (List.mem_of_mem_take hk)
        have hcl : (rk_cols r wi cf r.1.length).length ≤ 3 := Nat.le_trans (rk_cols_len _) hr3
        have hhd : ∀ z, rk_hd (L.take (a0 + 1)) r.2 ((rk_cols r wi cf r.1.length).drop 0) (rk_tb (rk_shm r wi)) u2 z ↔ ∃ v, rk_okV v ∧ rk_inst (rk_nth r wi) v = (L.getD a0 0) ∧ (∀ j, j < r.1.length → j ≠ wi → rk_inst (rk_nth r j) v ∈ L.take (a0 + 1)) ∧ rk_inst r.2 v = z := fun z => by rw [List.drop_zero]; exact rk_hd_cases hq hwi (fun j hj hne => (hcf j hj hne).1) ⟨hfit.1, (fun j hj h h' => by cases h'), hfit.2.2⟩ hub z
        have hcs : ∀ z, rk_hd (L.take (a0 + 1)) r.2 ((rk_cols r wi cf r.1.length).drop 0) (rk_tb (rk_shm r wi)) u2 z → ∃ v, rk_case r (· ∈ L.take (a0 + 1)) v ∧ rk_inst r.2 v = z := fun z hz => by
          obtain ⟨v, g1, g2, g3, g4⟩ := (hhd z).mp hz
          exact ⟨v, rk_case_of g1 (rk_take_last ha) g2 g3, g4⟩
        have hadd := fun sz => c_Sv_addj l D cI cZ cP cR cC tS (rk_cols r wi cf r.1.length).length sz B ad cf1 pm L ho hpm ktf ca (rk_cols r wi cf r.1.length) u2 ksf hcl hcdd ra r hrule 0 (rk_shm r wi) hsh8 (Nat.zero_add _) (L.take (a0 + 1)) hlt1 (rk_tb (rk_shm r wi)) u2 hjn
        refine lv_aload_n hx hb d_Sv_derive_82 rfl (lv_at hl 3 rfl) ?_
        refine lv_aload_n hx hb d_Sv_derive_83 rfl (lv_at hl 4 rfl) ?_
        refine lv_iconst (v := 0) hx hb d_Sv_derive_84 (by decide) ?_
        refine mw_top (x' := nI 0) nI_0.symm ?_
        refine lv_iload hx hb d_Sv_derive_85 (lv_at hl 0 rfl) ?_
        refine mw_afterI hP hS hA (mw_runS (As := [.ref (ad 1), .ref ra, .int (nI 0), .int (nI (rk_shm r wi))]) (rest := []) J hK hZ hP hS hA (hadd _) (cwS 4 hts (mw_gS k_278 k_279 k_2 k_280) rfl rfl rfl (by decide +kernel) ⟨(by dsimp only; omega), (by dsimp only; omega)⟩) rfl hl.1 rfl (Nat.le_of_ble_eq_true rfl) d_Sv_derive_87 ⟨Nat.le_of_ble_eq_true rfl, Nat.le_of_ble_eq_true rfl⟩) (fun rr M1 H locs hw hP hS => ?_)
        obtain ⟨cy, N1, u3, rfl, kty, ksy, -, hoy, hNy, hcase⟩ := hw
        exact mw_zret J hr hlk (by rcases hcase with ⟨h, _⟩ | ⟨h, _⟩ <;> rw [h] <;> rfl) hP hS d_Sv_derive_90 (⟨cy, N1, u3, _, rfl, kty, ksy, fun d hd => k_blank_same (hbf d hd) (fun z hz => hoy _ (by omega) (by omega) (by omega) (by omega)), fun i hi => by rw [hoy i (by omega) (by omega) (by omega) (by omega)]; exact hof i hi, fun z hz => hcs z (hNy z hz), hcase.imp (fun ⟨h1, h2⟩ => ⟨h1, rk_drv_join ha hwi (fun z hz => h2 z ((hhd z).mpr hz))⟩) (fun ⟨h1, h2, z, h3, h4⟩ => ⟨h1, h2, z, h4, hcs z h3⟩)⟩)
      · have hem : ∃ j, j < r.1.length ∧ ∀ k, k ∈ L.take (a0 + 1) → ¬ rk_mt (rk_nth r j) (rk_tb (rk_shm r wi)) u2 k := by
          rcases hcase with ⟨h, _⟩ | ⟨_, j, h1, _, h2⟩
          · rw [h] at c_77
            exact absurd c_77 (by decide)
          · exact ⟨j, h1, h2⟩
        obtain ⟨j9, hj9, hm9⟩ := hem
        refine lv_iconst (v := 1) hx hb d_Sv_derive_80 (by decide) ?_
        exact mw_zret J hr hlk rfl hP hS d_Sv_derive_81 (⟨_, [], u2, cc1, rfl, by rw [List.append_nil]; exact ktf, ksf, hbf, hof, fun z hz => absurd hz List.not_mem_nil, Or.inl ⟨rfl, rk_drv_empty ha hwi hu2 hub hj9 hm9⟩⟩)
    · have hbe : ∃ j, j < a0 ∧ rk_mt (rk_nth r wi) (rk_tb (rk_shm r wi)) u2 (L.getD j 0) := by
        rcases hw with ⟨_, h⟩ | ⟨h, _⟩
        · exact h
        · exact absurd h c_61
      obtain ⟨j8, hj8, hm8⟩ := hbe
      refine lv_iconst (v := 1) hx hb d_Sv_derive_64 (by decide) ?_
      exact mw_zret J hr hlk rfl hP hS d_Sv_derive_65 (⟨_, [], u2, cc, rfl, ktb, ksb, hbb, hob, fun z hz => absurd hz List.not_mem_nil, Or.inl ⟨rfl, rk_drv_before ha hlt hwi hu2 hub hj8 hm8⟩⟩)
  · have hnf : ¬ rk_fits (rk_nth r wi) (L.getD a0 0) := fun z => by
      rcases hw with ⟨h, _⟩ | ⟨_, h⟩
      · rw [h] at c_26
        exact absurd c_26 (by decide)
      · exact h z
    refine lv_iconst (v := 1) hx hb d_Sv_derive_29 (by decide) ?_
    exact mw_zret J hr hlk rfl hP hS d_Sv_derive_30 (⟨cw, [], u, cc, rfl, by rw [List.append_nil]; exact ht0, hsv0, hbl, fun _ _ => rfl, fun z hz => absurd hz List.not_mem_nil, Or.inl ⟨rfl, rk_drv_nofit ha hwi hnf⟩⟩)

set_option maxHeartbeats 4000000 in
set_option maxRecDepth 100000 in
theorem c_Sv_casesGiving (l : Launch) (D : va_G) (cI cZ cP cR cC : ClassId) (tS : Nat) (sz : Nat) (B : mw_M) (ad : Nat → Nat) (cw : Nat → va_E) (pm : Nat) (L : List Nat) (ho : k_ov B ad) (hpm : B pm = some (.inr (0, [.ref (ad 4)]))) (ht : k_tr cI ad cw pm L) (ca cc : Nat) (u : Nat → Nat) (hsv : k_sv cI cC B ad cw ca cc u) (hbl : ∀ d, d < 3 → k_blank cI ad cw d) (ra : Nat) (r : rk_Ru) (hrule : k_rule cI cP B ra r) (hok : rk_okR r) (k : Nat) (hk : k < 32768) :
    Met l y_Sv_casesGiving (.code y_Sv_casesGiving b_Sv_casesGiving 4 (some .int) :: gw) ({ frames := 6, cells := 0, slots := 0, locals := 132 }) (va_Pc [.ref (ad 1), .ref ra, .int (nI k)] (mw_B D k_cl (k_tys cI cZ cP cR cC) (k_g tS) (mw_ov B ad cw 21) sz)) (va_Qi (fun (rr : Int32) (M1 : mw_M) => rr = nI (rk_sup L r k) ∧ ∃ cw1 u1 cc1, M1 = mw_ov B ad cw1 21 ∧ k_tr cI ad cw1 pm L ∧ k_sv cI cC B ad cw1 ca cc1 u1 ∧ (∀ d, d < 3 → k_blank cI ad cw1 d) ∧ ∀ i, i = 0 ∨ i = 5 ∨ i = 6 ∨ i = 7 → cw1 i = cw i) (mw_E D k_cl (mw_ov B ad cw 21) sz) (mw_A (mw_ov B ad cw 21) sz)) 0 0 (mw_A (mw_ov B ad cw 21) sz) := by
  refine mw_met (by decide) rfl (Nat.le_of_ble_eq_true rfl) ?_
  intro p e s m below meth c hsz J hr hlk hnm hK hZ hP hS hA ls hl
  subst hsz
  have hx := J.1
  have hb := J.2.1
  have hts := J.2.2.2.2
  have hl : lv_has ls 4 [(0, .ref (ad 1)), (1, .ref ra), (2, .int (nI k))] := hl
  have ht0 := ht
  have hsv0 := hsv
  obtain ⟨fc, w, hc2, hc3, hc4, hfc, hW, hL3, hnd, hlt⟩ := ht
  obtain ⟨hc1, hc8, hu, fa, hca, hfa⟩ := hsv
  obtain ⟨hr3, bo, hd, sh, fo, fs, hr1, hr2, hr4, hrh, hfo, hfs⟩ := id hrule
  have hv8 : (rk_vars r.2) < 256 := rk_vars_lt hrh.1
  have pp : ∀ c, ∃ b q, mw_ov B ad c 21 hd = some (.inr (2, k_pf r.2 b q)) := fun c => by
    obtain ⟨-, b, q, _, _, h, -⟩ := k_pat_mono hrh (k_fr ho c)
    exact ⟨b, q, h⟩
  refine lv_aload_n hx hb d_Sv_casesGiving_0 rfl (lv_at hl 1 rfl) ?_
  refine mw_get (v := .ref hd) (ci := 3) (C := R_Ru) (T := T_Ru) (N := 3) J i_Ru hK hP (mw_ov_fr ho.2 hr1) rfl 1 (by decide) (hts _ k_158) (fun _ h9 => h9) rfl d_Sv_casesGiving_1 ?_
  refine lv_iload_n hx hb d_Sv_casesGiving_4 rfl (lv_at hl 2 rfl) ?_
  refine mw_afterI hP hS hA (mw_runV (As := [.int (nI k)]) (rest := []) J hK hZ hP hS hA (pp _).choose_spec.choose_spec rfl (c_Pt_fits l D cI cZ cP cR cC tS _ (mw_ov B ad cw 21) hd r.2 (k_pat_mono hrh (k_fr ho _)) k hk) (cwV 1 hts (mw_gV k_235 k_236 k_237 k_6 k_238) rfl rfl rfl (by decide +kernel) ⟨Nat.le_of_ble_eq_true rfl, Nat.le_of_ble_eq_true rfl⟩) rfl hl.1 rfl (Nat.le_of_ble_eq_true rfl) d_Sv_casesGiving_5 ⟨Nat.le_of_ble_eq_true rfl, Nat.le_of_ble_eq_true rfl⟩) (fun r1 M1 H locs hw hP hS => ?_)
  obtain ⟨rfl, hw⟩ := hw
  refine lv_if_ne (tgt := 13) hx hb d_Sv_casesGiving_8 (by decide) (fun c_8 => ?_) (fun c_8 => ?_)
  · have hfit : rk_fits r.2 k := by
      rcases hw with ⟨_, h⟩ | ⟨h, _⟩
      · exact h
      · exact absurd h c_8
    refine lv_aload_n hx hb d_Sv_casesGiving_13 rfl (lv_at hl 1 rfl) ?_
    refine mw_get (v := .ref hd) (ci := 3) (C := R_Ru) (T := T_Ru) (N := 3) J i_Ru hK hP (mw_ov_fr ho.2 hr1) rfl 1 (by decide) (hts _ k_158) (fun _ h9 => h9) rfl d_Sv_casesGiving_14 ?_
    refine mw_get (v := .int (nI (rk_vars r.2))) (ci := 2) (C := R_Pt) (T := T_Pt) (N := 8) J i_Pt hK hP (pp _).choose_spec.choose_spec rfl 2 (by decide) (hts _ k_76) (fun _ h9 => h9) rfl d_Sv_casesGiving_17 ?_
    refine lv_istore_n (lv' := [(3, .int (nI (rk_vars r.2))), (0, .ref (ad 1)), (1, .ref ra), (2, .int (nI k))]) hx hb d_Sv_casesGiving_20 rfl hl (by decide) rfl (fun ls hl => ?_)
    refine lv_aload_n hx hb d_Sv_casesGiving_21 rfl (lv_at hl 2 rfl) ?_
    refine mw_get (v := .ref hd) (ci := 3) (C := R_Ru) (T := T_Ru) (N := 3) J i_Ru hK hP (mw_ov_fr ho.2 hr1) rfl 1 (by decide) (hts _ k_158) (fun _ h9 => h9) rfl d_Sv_casesGiving_22 ?_
    refine lv_iload_n hx hb d_Sv_casesGiving_25 rfl (lv_at hl 3 rfl) ?_
    refine lv_iload_n hx hb d_Sv_casesGiving_26 rfl (lv_at hl 0 rfl) ?_
    refine lv_aload_n hx hb d_Sv_casesGiving_27 rfl (lv_at hl 1 rfl) ?_
    refine mw_get (v := .ref (ad 8)) (ci := 5) (C := R_Sv) (T := T_Sv) (N := 4) J i_Sv hK hP (mw_ov_is (i := 1) ho.1 (by decide) hc1) rfl 1 (by decide) (hts _ k_130) (fun _ h9 => h9) rfl d_Sv_casesGiving_28 ?_
    refine mw_afterV hP hS hA (mw_runV (As := [.int (nI k), .int (nI (rk_vars r.2)), .ref (ad 8)]) (rest := []) J hK hZ hP hS hA (pp _).choose_spec.choose_spec rfl (c_Pt_bind l D cI cZ cP cR cC tS _ (mw_ov B ad cw 21) hd r.2 (k_pat_mono hrh (k_fr ho _)) k hk (rk_vars r.2) hv8 (ad 8) u hu (mw_ov_is (i := 8) ho.1 (by decide) hc8)) (cwV 3 hts (mw_gV k_243 k_244 k_245 k_6 k_246) rfl rfl rfl (by decide +kernel) ⟨Nat.le_of_ble_eq_true rfl, Nat.le_of_ble_eq_true rfl⟩) rfl hl.1 rfl (Nat.le_of_ble_eq_true rfl) d_Sv_casesGiving_31 ⟨Nat.le_of_ble_eq_true rfl, Nat.le_of_ble_eq_true rfl⟩) (fun M1 H locs hw hP hS => ?_)
    obtain rfl := hw
    rw [mw_ov_set ho.1 (by decide)] at hP
    obtain ⟨u2, eu2⟩ : ∃ z, z = rk_bind r.2 (rk_tb (rk_vars r.2)) k u := ⟨_, rfl⟩
    rw [← eu2] at hP
    have hu2 : rk_okV u2 := by rw [eu2]; exact rk_bind_ok hu
    have hub : ∀ j x, j < 3 → rk_at r.2 j = 32 + x → rk_tb (rk_vars r.2) x = true → u2 x = rk_dg k j := by rw [eu2]; exact rk_bind_fit hfit
    obtain ⟨cb, ecb⟩ : ∃ z : Nat → va_E, z = va_up cw 8 (.inl (cI, 8, .inl (rk_nf u2))) := ⟨_, rfl⟩
    rw [← ecb] at hP
    have hbo : ∀ z, z ≠ 8 → cb z = cw z := fun z hz => by rw [ecb, va_up_ne _ _ hz]
    have hb8 : cb 8 = .inl (cI, 8, .inl (rk_nf u2)) := by rw [ecb]; exact va_up_self _ _ _
    have ktb0 : k_tr cI ad cb pm L := ⟨fc, w, (hbo 2 (by decide)).trans hc2, (hbo 3 (by decide)).trans hc3, (hbo 4 (by decide)).trans hc4, hfc, hW, hL3, hnd, hlt⟩
    have ksb : k_sv cI cC B ad cb ca cc u2 := ⟨(hbo 1 (by decide)).trans hc1, hb8, hu2, fa, hca, hfa⟩
    have hbb : ∀ d, d < 3 → k_blank cI ad cb d := fun d hd => k_blank_same (hbl d hd) (fun z hz => hbo _ (by omega))
    have hob : ∀ i, i = 0 ∨ i = 5 ∨ i = 6 ∨ i = 7 → cb i = cw i := fun i hi => hbo i (by omega)
    refine lv_aload_n hx hb d_Sv_casesGiving_34 rfl (lv_at hl 1 rfl) ?_
    refine lv_aload_n hx hb d_Sv_casesGiving_35 rfl (lv_at hl 2 rfl) ?_
    refine lv_iconst (v := (-1)) hx hb d_Sv_casesGiving_36 (by decide) ?_
    refine lv_iload_n hx hb d_Sv_casesGiving_37 rfl (lv_at hl 0 rfl) ?_
    refine lv_aload_n hx hb d_Sv_casesGiving_38 rfl (lv_at hl 1 rfl) ?_
    refine mw_get (v := .ref (ad 2)) (ci := 5) (C := R_Sv) (T := T_Sv) (N := 4) J i_Sv hK hP (mw_ov_is (i := 1) ho.1 (by decide) ((hbo 1 (by decide)).trans hc1)) rfl 0 (by decide) (hts _ k_128) (fun _ h9 => h9) rfl d_Sv_casesGiving_39 ?_
    refine mw_get (v := .int (nI L.length)) (ci := 1) (C := R_Tr) (T := T_Tr) (N := 3) J i_Tr hK hP (mw_ov_is (i := 2) ho.1 (by decide) ((hbo 2 (by decide)).trans hc2)) rfl 2 (by decide) (hts _ k_48) (fun _ h9 => h9) rfl d_Sv_casesGiving_42 ?_
    refine mw_afterI hP hS hA (mw_runV (As := [.ref ra, .int (-1), .int (nI (rk_vars r.2)), .int (nI L.length)]) (rest := []) J hK hZ hP hS hA (mw_ov_is (i := 1) ho.1 (by decide) ((hbo 1 (by decide)).trans hc1)) rfl (c_Sv_fillColumns l D cI cZ cP cR cC tS _ B ad cb pm L ho hpm ktb0 ca cc u2 ksb ra r hrule (-1) 9 (fun j hj => ⟨fun z => absurd z (rk_nn1 j hj), fun z => absurd z (by omega)⟩) (rk_vars r.2) L.length hv8 (Nat.le_refl _) hbb) (cwV 4 hts (mw_gV k_260 k_262 s_Sv_fillColumns k_2 k_263) rfl rfl rfl (by decide +kernel) ⟨Nat.le_of_ble_eq_true rfl, Nat.le_of_ble_eq_true rfl⟩) rfl hl.1 rfl (Nat.le_of_ble_eq_true rfl) d_Sv_casesGiving_45 ⟨Nat.le_of_ble_eq_true rfl, Nat.le_of_ble_eq_true rfl⟩) (fun r3 M1 H locs hw hP hS => ?_)
    obtain ⟨cf1, cc1, rfl, ksf, hlf, hbf, hcase⟩ := hw
    have ktf : k_tr cI ad cf1 pm L := by
      obtain ⟨fx, wx, a2, a3, a4, a5⟩ := ktb0
      exact ⟨fx, wx, (hlf 2 (by decide) (by decide)).trans a2, (hlf 3 (by decide) (by decide)).trans a3, (hlf 4 (by decide) (by decide)).trans a4, a5⟩
    have hof : ∀ i, i = 0 ∨ i = 5 ∨ i = 6 ∨ i = 7 → cf1 i = cw i := fun i hi => by rw [hlf i (by omega) (by omega)]; exact hob i hi
    refine lv_if_ne (tgt := 53) hx hb d_Sv_casesGiving_48 (by decide) (fun c_48 => ?_) (fun c_48 => ?_)
    · have hyes : ∃ cf, cc1 = (rk_cols r 9 cf r.1.length).length ∧ (∀ j, j < r.1.length → j ≠ 9 → rk_iscol r (rk_vars r.2) j (cf j) ∧ rk_colok (L.take L.length) (rk_tb (rk_vars r.2)) u2 (cf j)) ∧ ∀ e, e < cc1 → k_cold cI B ad cf1 e ((rk_cols r 9 cf r.1.length).getD e rk_col0) := by
        rcases hcase with ⟨_, h⟩ | ⟨h, _⟩
        · exact h
        · exact absurd h c_48
      obtain ⟨cf, rfl, hcf, hcdd⟩ := hyes
      rw [List.take_length] at hcf
      have hcl : (rk_cols r 9 cf r.1.length).length ≤ 3 := Nat.le_trans (rk_cols_len _) hr3
      have hKi : ∀ c, c ∈ rk_cols r 9 cf r.1.length → ∀ x, c.2.1 x = true → rk_in c.1 x := fun c hc x hx => by
        obtain ⟨j, h1, h2, rfl⟩ := rk_cols_mem.mp hc
        exact (hcf j h1 h2).2.2.2 x hx
      have hcnt := fun sz => c_Sv_count l D cI cZ cP cR cC tS (rk_cols r 9 cf r.1.length).length sz B ad cf1 ho ca (rk_cols r 9 cf r.1.length) u2 ksf hcl hcdd hKi 0 (rk_vars r.2) hv8 (Nat.zero_add _)
      refine lv_aload_n hx hb d_Sv_casesGiving_53 rfl (lv_at hl 1 rfl) ?_
      refine lv_iconst (v := 0) hx hb d_Sv_casesGiving_54 (by decide) ?_
      refine mw_top (x' := nI 0) nI_0.symm ?_
      refine lv_iload_n hx hb d_Sv_casesGiving_55 rfl (lv_at hl 0 rfl) ?_
      refine mw_afterI hP hS hA (mw_runS (As := [.ref (ad 1), .int (nI 0), .int (nI (rk_vars r.2))]) (rest := []) J hK hZ hP hS hA (hcnt _) (cwS 3 hts (mw_gS k_351 k_352 k_2 k_353) rfl rfl rfl (by decide +kernel) ⟨(by dsimp only; omega), (by dsimp only; omega)⟩) rfl hl.1 rfl (Nat.le_of_ble_eq_true rfl) d_Sv_casesGiving_56 ⟨Nat.le_of_ble_eq_true rfl, Nat.le_of_ble_eq_true rfl⟩) (fun rr M1 H locs hw hP hS => ?_)
      obtain ⟨hr9, u3, rfl, hu3, -⟩ := hw
      rw [List.drop_zero, rk_cj_sup hlt hk (by omega) hu2 hfit hub hcf] at hr9
      refine mw_iret J hr hlk hP hS d_Sv_casesGiving_59 (⟨hr9, _, u3, _, rfl, ?_, ⟨ksf.1, rfl, hu3, fa, hca, hfa⟩, fun d hd => k_blank_same (hbf d hd) (fun z hz => va_up_ne _ _ (by omega)), fun i hi => by rw [va_up_ne _ _ (by omega)]; exact hof i hi⟩)
      obtain ⟨fx, wx, a2, a3, a4, a5⟩ := ktf
      exact ⟨fx, wx, a2, a3, a4, a5⟩
    · have hem : ∃ j, j < r.1.length ∧ ∀ z, z ∈ L.take L.length → ¬ rk_mt (rk_nth r j) (rk_tb (rk_vars r.2)) u2 z := by
        rcases hcase with ⟨h, _⟩ | ⟨_, j, h1, _, h2⟩
        · rw [h] at c_48
          exact absurd c_48 (by decide)
        · exact ⟨j, h1, h2⟩
      obtain ⟨j9, hj9, hm9⟩ := hem
      rw [List.take_length] at hm9
      refine lv_iconst (v := 0) hx hb d_Sv_casesGiving_51 (by decide) ?_
      exact mw_iret J hr hlk hP hS d_Sv_casesGiving_52 (⟨by rw [rk_sup_empty hu2 hub hj9 hm9]; rfl, _, u2, cc1, rfl, ktf, ksf, hbf, hof⟩)
  · have hnf : ¬ rk_fits r.2 k := fun z => by
      rcases hw with ⟨h, _⟩ | ⟨_, h⟩
      · rw [h] at c_8
        exact absurd c_8 (by decide)
      · exact h z
    refine lv_iconst (v := 0) hx hb d_Sv_casesGiving_11 (by decide) ?_
    exact mw_iret J hr hlk hP hS d_Sv_casesGiving_12 (⟨by rw [rk_sup_nofit hnf]; rfl, cw, u, cc, rfl, ht0, hsv0, hbl, fun _ _ => rfl⟩)
