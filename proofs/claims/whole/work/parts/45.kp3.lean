/-! RuleKeeper: holdAnew, say, unsay, rules, holds, size -/
set_option maxHeartbeats 4000000 in
set_option maxRecDepth 100000 in
theorem c_Kp_holdAnew (l : Launch) (D : va_G) (cI cZ cP cR cC : ClassId) (tS : Nat) (sz : Nat) (B : mw_M) (ad : Nat → Nat) (cw : Nat → va_E) (pm : Nat) (L : List Nat) (ho : k_ov B ad) (hpm : B pm = some (.inr (0, [.ref (ad 4)]))) (ht : k_tr cI ad cw pm L) (ca : Nat) (hsv : ∃ cc u, k_sv cI cC B ad cw ca cc u) (hbl : ∀ d, d < 3 → k_blank cI ad cw d) (sm dn : Nat) (rs : List rk_Ru) (hc0 : cw 0 = k_k0 ad sm rs.length dn) (hmd : k_made cI cP cR B cw rs) (ws : Nat → Int32) (S : Nat → Bool) (hsm : B sm = some (.inr (0, [.ref (ad 5)]))) (hc5 : cw 5 = .inl (cI, 1024, .inl ws)) (hWs : rk_W ws S) (hno : ∀ K : List Nat, K.Nodup → (∀ z, z ∈ K → rk_gen (L.filter S) rs z) → K.length ≤ 300) :
    Met l y_Kp_holdAnew (.code y_Kp_holdAnew b_Kp_holdAnew 1 none :: gw) ({ frames := 9, cells := 0, slots := 0, locals := 211 }) (va_Pc [.ref (ad 0)] (mw_B D k_cl (k_tys cI cZ cP cR cC) (k_g tS) (mw_ov B ad cw 21) sz)) (va_Qv (fun (M1 : mw_M) => ∃ cw1 N1, M1 = mw_ov B ad cw1 21 ∧ k_tr cI ad cw1 pm (L.filter S ++ N1) ∧ (∃ cc u, k_sv cI cC B ad cw1 ca cc u) ∧ (∀ d, d < 3 → k_blank cI ad cw1 d) ∧ (∀ i, i = 0 ∨ i = 5 ∨ i = 6 ∨ i = 7 → cw1 i = cw i) ∧ (∀ z, z ∈ N1 → rk_gen (L.filter S) rs z) ∧ rk_clo rs (L.filter S ++ N1)) (mw_E D k_cl (mw_ov B ad cw 21) sz) (mw_A (mw_ov B ad cw 21) sz)) 0 0 (mw_A (mw_ov B ad cw 21) sz) := by
  refine mw_met (by decide) rfl (Nat.le_of_ble_eq_true rfl) ?_
  intro p e s m below meth c hsz J hr hlk hnm hK hZ hP hS hA ls hl
  subst hsz
  have hx := J.1
  have hb := J.2.1
  have hts := J.2.2.2.2
  have hl : lv_has ls 1 [(0, .ref (ad 0))] := hl
  have ht0 := ht
  obtain ⟨fc, w, hc2, hc3, hc4, hfc, hW, hL3, hnd, hlt⟩ := ht
  refine lv_aload_n hx hb d_Kp_holdAnew_0 rfl (lv_at hl 0 rfl) ?_
  refine mw_get (v := .ref (ad 2)) (ci := 6) (C := R_Kp) (T := T_Kp) (N := 7) J i_Kp hK hP (mw_ov_is (i := 0) ho.1 (by decide) hc0) rfl 1 (by decide) (hts _ k_169) (fun _ h9 => h9) rfl d_Kp_holdAnew_1 ?_
  refine lv_aload_n hx hb d_Kp_holdAnew_4 rfl (lv_at hl 0 rfl) ?_
  refine mw_get (v := .ref sm) (ci := 6) (C := R_Kp) (T := T_Kp) (N := 7) J i_Kp hK hP (mw_ov_is (i := 0) ho.1 (by decide) hc0) rfl 2 (by decide) (hts _ k_170) (fun _ h9 => h9) rfl d_Kp_holdAnew_5 ?_
  refine mw_afterV hP hS hA (mw_runV (As := [.ref sm]) (rest := []) J hK hZ hP hS hA (mw_ov_is (i := 2) ho.1 (by decide) hc2) rfl (c_Tr_keepThose l D cI cZ cP cR cC tS _ B ad cw pm L ho hpm ht0 sm ws S hsm hc5 hWs) (cwV 1 hts (mw_gV k_305 k_306 k_307 k_3 k_308) rfl rfl rfl (by decide +kernel) ⟨Nat.le_of_ble_eq_true rfl, Nat.le_of_ble_eq_true rfl⟩) rfl hl.1 rfl (Nat.le_of_ble_eq_true rfl) d_Kp_holdAnew_8 ⟨Nat.le_of_ble_eq_true rfl, Nat.le_of_ble_eq_true rfl⟩) (fun M1 H locs hw hP hS => ?_)
  obtain ⟨c1, rfl, kt1, ho1⟩ := hw
  have hsv1 : ∃ cc u, k_sv cI cC B ad c1 ca cc u := by
    obtain ⟨cc, u, a1, a2, a3⟩ := hsv
    exact ⟨cc, u, (ho1 1 (by decide) (by decide) (by decide)).trans a1, (ho1 8 (by decide) (by decide) (by decide)).trans a2, a3⟩
  have hbl1 : ∀ d, d < 3 → k_blank cI ad c1 d := fun d hd => k_blank_same (hbl d hd) (fun z hz => ho1 _ (by omega) (by omega) (by omega))
  have hox1 : ∀ i, i = 0 ∨ i = 5 ∨ i = 6 ∨ i = 7 → c1 i = cw i := fun i hi => ho1 i (by omega) (by omega) (by omega)
  have hmd1 : k_made cI cP cR B c1 rs := by
    obtain ⟨a1, fm, a2, a3⟩ := hmd
    exact ⟨a1, fm, (hox1 6 (by decide)).trans a2, a3⟩
  have hpre : ∀ i, i < rs.length → ∀ v, rk_case (rk_rth rs i) (· ∈ (L.filter S).take 0) v → rk_okR (rk_rth rs i) → rk_inst (rk_rth rs i).2 v ∈ L.filter S := fun i hi v hv hok => by
    obtain ⟨P, hP⟩ := List.exists_mem_of_length_pos hok.1
    exact absurd (hv.2 P hP) (by simp)
  obtain ⟨-, fm, -, hfm⟩ := id hmd
  have hpre2 : ∀ i, i < rs.length → ∀ v, rk_case (rk_rth rs i) (· ∈ (L.filter S).take 0) v → rk_inst (rk_rth rs i).2 v ∈ L.filter S := fun i hi v hv => by
    obtain ⟨_, _, _, hok⟩ := hfm i hi
    exact hpre i hi v hv hok
  refine lv_aload_n hx hb d_Kp_holdAnew_11 rfl (lv_at hl 0 rfl) ?_
  refine lv_iconst (v := 0) hx hb d_Kp_holdAnew_12 (by decide) ?_
  refine mw_top (x' := nI 0) nI_0.symm ?_
  refine lv_iconst (v := 0) hx hb d_Kp_holdAnew_13 (by decide) ?_
  refine mw_top (x' := nI 0) nI_0.symm ?_
  refine mw_afterI hP hS hA (mw_runV (As := [.int (nI 0), .int (nI 0)]) (rest := []) J hK hZ hP hS hA (mw_ov_is (i := 0) ho.1 (by decide) ((hox1 0 (by decide)).trans hc0)) rfl (c_Kp_follow l D cI cZ cP cR cC tS _ B ad c1 pm (L.filter S) ho hpm kt1 ca hsv1 hbl1 sm dn rs ((hox1 0 (by decide)).trans hc0) hmd1 0 0 (Nat.zero_le _) (Nat.zero_le _) hpre2 (fun i hi => hpre2 i (by omega))) (cwV 2 hts (mw_gV k_224 k_226 s_Kp_follow k_1 k_227) rfl rfl rfl (by decide +kernel) ⟨Nat.le_of_ble_eq_true rfl, Nat.le_of_ble_eq_true rfl⟩) rfl hl.1 rfl (Nat.le_of_ble_eq_true rfl) d_Kp_holdAnew_14 ⟨Nat.le_of_ble_eq_true rfl, Nat.le_of_ble_eq_true rfl⟩) (fun r2 M1 H locs hw hP hS => ?_)
  obtain ⟨c2, N1, rfl, kt2, hsv2, hbl2, hox20, hg2, hcase⟩ := hw
  have hox2 : ∀ i, i = 0 ∨ i = 5 ∨ i = 6 ∨ i = 7 → c2 i = cw i := fun i hi => by rw [hox20 i hi]; exact hox1 i hi
  obtain ⟨f2, w2, h22, -, -, -, -, -, hnd2, -⟩ := id kt2
  have hcl2 : rk_clo rs (L.filter S ++ N1) := by
    rcases hcase with ⟨_, h⟩ | ⟨_, h3, z, hz, hg⟩
    · exact h
    · obtain ⟨K, k1, k2, k3⟩ := rk_many_of hnd2 h3 (fun y hy => (List.mem_append.mp hy).elim rk_gen_in (hg2 y)) hz hg
      have := hno K k1 k3
      omega
  refine lv_pop hx hb d_Kp_holdAnew_17 rfl ?_
  exact mw_vret J hr hlk hP hS d_Kp_holdAnew_18 (⟨c2, N1, rfl, kt2, hsv2, hbl2, hox2, hg2, hcl2⟩)

theorem k_sv_5 {cI cC : ClassId} {B : mw_M} {ad : Nat → Nat} {cw : Nat → va_E} {ca : Nat} {e : va_E} (h : ∃ cc u, k_sv cI cC B ad cw ca cc u) : ∃ cc u, k_sv cI cC B ad (va_up cw 5 e) ca cc u := by
  obtain ⟨cc, u, a1, a2, a3⟩ := h
  exact ⟨cc, u, a1, a2, a3⟩
theorem k_blank_5 {cI : ClassId} {ad : Nat → Nat} {cw : Nat → va_E} {e : va_E} (h : ∀ d, d < 3 → k_blank cI ad cw d) : ∀ d, d < 3 → k_blank cI ad (va_up cw 5 e) d := fun d hd => k_blank_same (h d hd) (fun z hz => va_up_ne _ _ (by omega))
theorem k_tr_5 {cI : ClassId} {ad : Nat → Nat} {cw : Nat → va_E} {pm : Nat} {L : List Nat} {e : va_E} (h : k_tr cI ad cw pm L) : k_tr cI ad (va_up cw 5 e) pm L := by
  obtain ⟨fc, w, a2, a3, a4, a5⟩ := h
  exact ⟨fc, w, a2, a3, a4, a5⟩
set_option maxHeartbeats 4000000 in
set_option maxRecDepth 100000 in
theorem c_Kp_say (l : Launch) (D : va_G) (cI cZ cP cR cC : ClassId) (tS : Nat) (sz : Nat) (B : mw_M) (ad : Nat → Nat) (cw : Nat → va_E) (pm sm ca : Nat) (said : Nat → Bool) (rs : List rk_Ru) (dr : List rk_Pt) (L : List Nat) (ho : k_ov B ad) (hfz : k_fz B ad pm sm) (hkp : k_kp cI cP cR cC B ad cw pm sm ca said rs dr L) (hh : rk_holds said rs L) (hsd : ∀ j, said j = true → j < 32768) (x y z : Int32) :
    Met l y_Kp_say (.code y_Kp_say b_Kp_say 5 (some .int) :: gw) ({ frames := 10, cells := 0, slots := 0, locals := 233 }) (va_Pc [.ref (ad 0), .int x, .int y, .int z] (mw_B D k_cl (k_tys cI cZ cP cR cC) (k_g tS) (mw_ov B ad cw 21) sz)) (va_Qi (fun (r : Int32) (M1 : mw_M) => ∃ said1, sp_say said rs x y z r said1 ∧ k_ks cI cP cR cC B ad pm sm ca said1 rs dr M1) (mw_E D k_cl (mw_ov B ad cw 21) sz) (mw_A (mw_ov B ad cw 21) sz)) 0 0 (mw_A (mw_ov B ad cw 21) sz) := by
  refine mw_met (by decide) rfl (Nat.le_of_ble_eq_true rfl) ?_
  intro p e s m below meth c hsz J hr hlk hnm hK hZ hP hS hA ls hl
  subst hsz
  have hx := J.1
  have hb := J.2.1
  have hts := J.2.2.2.2
  have hl : lv_has ls 5 [(0, .ref (ad 0)), (1, .int x), (2, .int y), (3, .int z)] := hl
  obtain ⟨hc0, ht, hsv, hbl, ⟨ws, hc5, hWs⟩, hmd, hdr⟩ := id hkp
  obtain ⟨hpm, hsm⟩ := id hfz
  have hclo := rk_holds_clo hh
  obtain ⟨fc, w, hc2, hc3, hc4, hfc, hW, hL3, hnd, hlt⟩ := id ht
  obtain ⟨hrs12, fm, hc6, hfm⟩ := id hmd
  obtain ⟨hdr4, fd, hc7, hfd⟩ := id hdr
  refine lv_iload_n hx hb d_Kp_say_0 rfl (lv_at hl 1 rfl) ?_
  refine lv_iload_n hx hb d_Kp_say_1 rfl (lv_at hl 2 rfl) ?_
  refine lv_iload_n hx hb d_Kp_say_2 rfl (lv_at hl 3 rfl) ?_
  refine mw_afterI hP hS hA (mw_runS (As := [.int x, .int y, .int z]) (rest := []) J hK hZ hP hS hA (c_Kp_isTriple l D cI cZ cP cR cC tS _ (mw_ov B ad cw 21) x y z) (cwS 3 hts (mw_gS k_194 k_195 k_1 k_196) rfl rfl rfl (by decide +kernel) ⟨Nat.le_of_ble_eq_true rfl, Nat.le_of_ble_eq_true rfl⟩) rfl hl.1 rfl (Nat.le_of_ble_eq_true rfl) d_Kp_say_3 ⟨Nat.le_of_ble_eq_true rfl, Nat.le_of_ble_eq_true rfl⟩) (fun r0 M1 H locs hw hP hS => ?_)
  obtain ⟨rfl, hw⟩ := hw
  refine lv_if_ne (tgt := 11) hx hb d_Kp_say_6 (by decide) (fun c_6 => ?_) (fun c_6 => ?_)
  · obtain ⟨k, htri⟩ := (hw.resolve_right (fun g => c_6 g.1)).2
    have hk := rk_tri_lt htri
    refine lv_iload_n hx hb d_Kp_say_11 rfl (lv_at hl 1 rfl) ?_
    refine lv_iload_n hx hb d_Kp_say_12 rfl (lv_at hl 2 rfl) ?_
    refine lv_iload_n hx hb d_Kp_say_13 rfl (lv_at hl 3 rfl) ?_
    refine mw_afterI hP hS hA (mw_runS (As := [.int x, .int y, .int z]) (rest := []) J hK hZ hP hS hA (c_Kp_codeOf l D cI cZ cP cR cC tS _ (mw_ov B ad cw 21) x y z k htri) (cwS 3 hts (mw_gS k_200 k_201 k_1 k_202) rfl rfl rfl (by decide +kernel) ⟨Nat.le_of_ble_eq_true rfl, Nat.le_of_ble_eq_true rfl⟩) rfl hl.1 rfl (Nat.le_of_ble_eq_true rfl) d_Kp_say_14 ⟨Nat.le_of_ble_eq_true rfl, Nat.le_of_ble_eq_true rfl⟩) (fun r M1 H locs hw hP hS => ?_)
    obtain ⟨rfl, rfl⟩ := hw
    refine lv_istore (lv' := [(4, .int (nI k)), (0, .ref (ad 0)), (1, .int x), (2, .int y), (3, .int z)]) hx hb d_Kp_say_17 hl (by decide) rfl (fun ls hl => ?_)
    refine lv_aload_n hx hb d_Kp_say_19 rfl (lv_at hl 1 rfl) ?_
    refine mw_get (v := .ref sm) (ci := 6) (C := R_Kp) (T := T_Kp) (N := 7) J i_Kp hK hP (mw_ov_is (i := 0) ho.1 (by decide) hc0) rfl 2 (by decide) (hts _ k_170) (fun _ h9 => h9) rfl d_Kp_say_20 ?_
    refine lv_iload hx hb d_Kp_say_23 (lv_at hl 0 rfl) ?_
    refine mw_afterI hP hS hA (mw_runV (As := [.int (nI k)]) (rest := []) J hK hZ hP hS hA (mw_ov_fr ho.2 hsm) rfl (c_Mk_has l D cI cZ cP cR cC tS _ (mw_ov B ad cw 21) sm (ad 5) ws said k hk hWs (mw_ov_fr ho.2 hsm) (mw_ov_is (i := 5) ho.1 (by decide) hc5)) (cwV 1 hts (mw_gV k_203 k_204 k_205 k_4 k_206) rfl rfl rfl (by decide +kernel) ⟨Nat.le_of_ble_eq_true rfl, Nat.le_of_ble_eq_true rfl⟩) rfl hl.1 rfl (Nat.le_of_ble_eq_true rfl) d_Kp_say_25 ⟨Nat.le_of_ble_eq_true rfl, Nat.le_of_ble_eq_true rfl⟩) (fun r M1 H locs hw hP hS => ?_)
    obtain ⟨rfl, rfl⟩ := hw
    refine lv_if_eq (tgt := 33) hx hb d_Kp_say_28 (by decide) (fun c_28 => ?_) (fun c_28 => ?_)
    · have hs : said k = false := by
        cases z : said k
        · rfl
        · rw [if_pos z] at c_28
          exact absurd c_28 (by decide)
      refine lv_aload_n hx hb d_Kp_say_33 rfl (lv_at hl 1 rfl) ?_
      refine mw_get (v := .ref (ad 2)) (ci := 6) (C := R_Kp) (T := T_Kp) (N := 7) J i_Kp hK hP (mw_ov_is (i := 0) ho.1 (by decide) hc0) rfl 1 (by decide) (hts _ k_169) (fun _ h9 => h9) rfl d_Kp_say_34 ?_
      refine lv_iload hx hb d_Kp_say_37 (lv_at hl 0 rfl) ?_
      refine mw_afterI hP hS hA (mw_runV (As := [.int (nI k)]) (rest := []) J hK hZ hP hS hA (mw_ov_is (i := 2) ho.1 (by decide) hc2) rfl (c_Tr_has l D cI cZ cP cR cC tS _ B ad cw pm L ho hpm ht k hk) (cwV 1 hts (mw_gV k_207 k_208 k_209 k_3 k_210) rfl rfl rfl (by decide +kernel) ⟨Nat.le_of_ble_eq_true rfl, Nat.le_of_ble_eq_true rfl⟩) rfl hl.1 rfl (Nat.le_of_ble_eq_true rfl) d_Kp_say_39 ⟨Nat.le_of_ble_eq_true rfl, Nat.le_of_ble_eq_true rfl⟩) (fun r M1 H locs hw hP hS => ?_)
      obtain ⟨rfl, rfl⟩ := hw
      refine lv_if_ne (tgt := 57) hx hb d_Kp_say_42 (by decide) (fun c_42 => ?_) (fun c_42 => ?_)
      · have hkL : k ∈ L := Classical.byContradiction fun z => c_42 (if_neg z)
        refine lv_aload_n hx hb d_Kp_say_57 rfl (lv_at hl 1 rfl) ?_
        refine mw_get (v := .ref sm) (ci := 6) (C := R_Kp) (T := T_Kp) (N := 7) J i_Kp hK hP (mw_ov_is (i := 0) ho.1 (by decide) hc0) rfl 2 (by decide) (hts _ k_170) (fun _ h9 => h9) rfl d_Kp_say_58 ?_
        refine lv_iload hx hb d_Kp_say_61 (lv_at hl 0 rfl) ?_
        refine mw_afterV hP hS hA (mw_runV (As := [.int (nI k)]) (rest := []) J hK hZ hP hS hA (mw_ov_fr ho.2 hsm) rfl (c_Mk_put l D cI cZ cP cR cC tS _ (mw_ov B ad cw 21) sm (ad 5) ws said k hk hWs (mw_ov_fr ho.2 hsm) (mw_ov_is (i := 5) ho.1 (by decide) hc5)) (cwV 1 hts (mw_gV k_295 k_221 k_222 k_4 k_223) rfl rfl rfl (by decide +kernel) ⟨Nat.le_of_ble_eq_true rfl, Nat.le_of_ble_eq_true rfl⟩) rfl hl.1 rfl (Nat.le_of_ble_eq_true rfl) d_Kp_say_63 ⟨Nat.le_of_ble_eq_true rfl, Nat.le_of_ble_eq_true rfl⟩) (fun M1 H locs hw hP hS => ?_)
        obtain ⟨w9, hW9, rfl⟩ := hw
        rw [mw_ov_set ho.1 (by decide)] at hP
        have hP : mw_P D k_cl (mw_ov B ad (va_up cw 5 (.inl (cI, 1024, .inl w9))) 21) _ H := hP
        refine lv_iconst (v := 1) hx hb d_Kp_say_66 (by decide) ?_
        exact mw_iret J hr hlk hP hS d_Kp_say_67 (⟨va_up said k true, Or.inr ⟨k, htri, Or.inr (Or.inl ⟨hs, rfl, rfl, rk_not_much (rk_holds_more hh hkL)⟩)⟩, B, _, L, rfl, fun _ _ h => h, ho, hfz, ⟨hc0, ⟨fc, w, hc2, hc3, hc4, hfc, hW, hL3, hnd, hlt⟩, k_sv_5 hsv, k_blank_5 hbl, ⟨w9, rfl, hW9⟩, ⟨hrs12, fm, hc6, hfm⟩, ⟨hdr4, fd, hc7, hfd⟩⟩, rk_holds_more hh hkL, rk_up_lt hsd hk⟩)
      · have hkL : k ∉ L := fun z => by
          rw [if_pos z] at c_42
          exact absurd c_42 (by decide)
        refine lv_aload_n hx hb d_Kp_say_45 rfl (lv_at hl 1 rfl) ?_
        refine lv_iload hx hb d_Kp_say_46 (lv_at hl 0 rfl) ?_
        refine mw_afterI hP hS hA (mw_runV (As := [.int (nI k)]) (rest := []) J hK hZ hP hS hA (mw_ov_is (i := 0) ho.1 (by decide) hc0) rfl (c_Kp_hold l D cI cZ cP cR cC tS _ B ad cw pm L ho hpm ht ca hsv hbl sm dr.length rs hc0 hmd hclo k hk hkL) (cwV 1 hts (mw_gV k_212 k_214 s_Kp_hold k_1 k_215) rfl rfl rfl (by decide +kernel) ⟨Nat.le_of_ble_eq_true rfl, Nat.le_of_ble_eq_true rfl⟩) rfl hl.1 rfl (Nat.le_of_ble_eq_true rfl) d_Kp_say_48 ⟨Nat.le_of_ble_eq_true rfl, Nat.le_of_ble_eq_true rfl⟩) (fun r5 M1 H locs hw hP hS => ?_)
        obtain ⟨c1, rfl, hsv1, hbl1, hox1, hcase⟩ := hw
        refine lv_if_ne (tgt := 57) hx hb d_Kp_say_51 (by decide) (fun c_51 => ?_) (fun c_51 => ?_)
        · have hyes := (hcase.resolve_right (fun g => c_51 g.1)).2
          obtain ⟨N1, kt1, hg1, hcl1⟩ := hyes
          obtain ⟨f1, w1, -, -, -, -, -, h13, h1n, -⟩ := id kt1
          have hl0 : ∀ z, z ∈ L ++ [k] → rk_lfp (va_up said k true) rs z := fun z hz => (List.mem_append.mp hz).elim (fun h => rk_lfp_mono rk_up_le (fun _ g => g) ((hh.2.2 z).mp h)) (fun h => rk_lfp_said (by rw [List.mem_singleton.mp h, va_up_self]))
          have hh1 : rk_holds (va_up said k true) rs ((L ++ [k]) ++ N1) := rk_holds_of h1n h13 hl0 (fun j hj => List.mem_append_left _ (by
            by_cases e : j = k
            · rw [e]
              simp
            · rw [va_up_ne _ _ e] at hj
              exact List.mem_append_left _ ((hh.2.2 j).mpr (rk_lfp_said hj)))) hg1 hcl1
          have hmd1 : k_made cI cP cR B c1 rs := ⟨hrs12, fm, (hox1 6 (by decide)).trans hc6, hfm⟩
          have hdr1 : k_dr cI cP B c1 dr := ⟨hdr4, fd, (hox1 7 (by decide)).trans hc7, hfd⟩
          refine lv_aload_n hx hb d_Kp_say_57 rfl (lv_at hl 1 rfl) ?_
          refine mw_get (v := .ref sm) (ci := 6) (C := R_Kp) (T := T_Kp) (N := 7) J i_Kp hK hP (mw_ov_is (i := 0) ho.1 (by decide) ((hox1 0 (by decide)).trans hc0)) rfl 2 (by decide) (hts _ k_170) (fun _ h9 => h9) rfl d_Kp_say_58 ?_
          refine lv_iload hx hb d_Kp_say_61 (lv_at hl 0 rfl) ?_
          refine mw_afterV hP hS hA (mw_runV (As := [.int (nI k)]) (rest := []) J hK hZ hP hS hA (mw_ov_fr ho.2 hsm) rfl (c_Mk_put l D cI cZ cP cR cC tS _ (mw_ov B ad c1 21) sm (ad 5) ws said k hk hWs (mw_ov_fr ho.2 hsm) (mw_ov_is (i := 5) ho.1 (by decide) ((hox1 5 (by decide)).trans hc5))) (cwV 1 hts (mw_gV k_295 k_221 k_222 k_4 k_223) rfl rfl rfl (by decide +kernel) ⟨Nat.le_of_ble_eq_true rfl, Nat.le_of_ble_eq_true rfl⟩) rfl hl.1 rfl (Nat.le_of_ble_eq_true rfl) d_Kp_say_63 ⟨Nat.le_of_ble_eq_true rfl, Nat.le_of_ble_eq_true rfl⟩) (fun M1 H locs hw hP hS => ?_)
          obtain ⟨w9, hW9, rfl⟩ := hw
          rw [mw_ov_set ho.1 (by decide)] at hP
          have hP : mw_P D k_cl (mw_ov B ad (va_up c1 5 (.inl (cI, 1024, .inl w9))) 21) _ H := hP
          refine lv_iconst (v := 1) hx hb d_Kp_say_66 (by decide) ?_
          exact mw_iret J hr hlk hP hS d_Kp_say_67 (⟨va_up said k true, Or.inr ⟨k, htri, Or.inr (Or.inl ⟨hs, rfl, rfl, rk_not_much hh1⟩)⟩, B, _, _, rfl, fun _ _ h => h, ho, hfz, ⟨(hox1 0 (by decide)).trans hc0, k_tr_5 kt1, k_sv_5 hsv1, k_blank_5 hbl1, ⟨w9, rfl, hW9⟩, ⟨hrs12, fm, (hox1 6 (by decide)).trans hc6, hfm⟩, ⟨hdr4, fd, (hox1 7 (by decide)).trans hc7, hfd⟩⟩, hh1, rk_up_lt hsd hk⟩)
        · obtain ⟨-, kt1, hmn⟩ := hcase.resolve_left (fun g => by rw [g.1] at c_51; exact absurd c_51 (by decide))
          have hmu : rk_much (va_up said k true) rs := rk_much_of (fun z hz => (List.mem_append.mp hz).elim (fun h => rk_lfp_mono rk_up_le (fun _ g => g) ((hh.2.2 z).mp h)) (fun h => rk_lfp_said (by rw [List.mem_singleton.mp h, va_up_self]))) hmn
          have hmd1 : k_made cI cP cR B c1 rs := ⟨hrs12, fm, (hox1 6 (by decide)).trans hc6, hfm⟩
          have hdr1 : k_dr cI cP B c1 dr := ⟨hdr4, fd, (hox1 7 (by decide)).trans hc7, hfd⟩
          refine lv_bipush (v := (-3)) hx hb d_Kp_say_54 (by decide) ?_
          exact mw_iret J hr hlk hP hS d_Kp_say_56 (⟨said, Or.inr ⟨k, htri, Or.inr (Or.inr ⟨hs, rfl, rfl, hmu⟩)⟩, B, c1, L, rfl, fun _ _ h => h, ho, hfz, ⟨(hox1 0 (by decide)).trans hc0, kt1, hsv1, hbl1, ⟨ws, (hox1 5 (by decide)).trans hc5, hWs⟩, hmd1, hdr1⟩, hh, hsd⟩)
    · have hs : said k = true := by
        cases z : said k
        · exact absurd (if_neg (by rw [z]; decide)) c_28
        · rfl
      refine lv_iconst (v := 0) hx hb d_Kp_say_31 (by decide) ?_
      exact mw_iret J hr hlk hP hS d_Kp_say_32 (⟨said, Or.inr ⟨k, htri, Or.inl ⟨hs, rfl, rfl⟩⟩, ⟨B, cw, L, rfl, fun _ _ h => h, ho, hfz, hkp, hh, hsd⟩⟩)
  · have hno := (hw.resolve_left (fun g => by rw [g.1] at c_6; exact absurd c_6 (by decide))).2
    refine lv_iconst (v := (-1)) hx hb d_Kp_say_9 (by decide) ?_
    exact mw_iret J hr hlk hP hS d_Kp_say_10 (⟨said, Or.inl ⟨hno, rfl, rfl⟩, ⟨B, cw, L, rfl, fun _ _ h => h, ho, hfz, hkp, hh, hsd⟩⟩)

set_option maxHeartbeats 4000000 in
set_option maxRecDepth 100000 in
theorem c_Kp_unsay (l : Launch) (D : va_G) (cI cZ cP cR cC : ClassId) (tS : Nat) (sz : Nat) (B : mw_M) (ad : Nat → Nat) (cw : Nat → va_E) (pm sm ca : Nat) (said : Nat → Bool) (rs : List rk_Ru) (dr : List rk_Pt) (L : List Nat) (ho : k_ov B ad) (hfz : k_fz B ad pm sm) (hkp : k_kp cI cP cR cC B ad cw pm sm ca said rs dr L) (hh : rk_holds said rs L) (hsd : ∀ j, said j = true → j < 32768) (x y z : Int32) :
    Met l y_Kp_unsay (.code y_Kp_unsay b_Kp_unsay 5 (some .int) :: gw) ({ frames := 10, cells := 0, slots := 0, locals := 233 }) (va_Pc [.ref (ad 0), .int x, .int y, .int z] (mw_B D k_cl (k_tys cI cZ cP cR cC) (k_g tS) (mw_ov B ad cw 21) sz)) (va_Qi (fun (r : Int32) (M1 : mw_M) => ∃ said1, sp_unsay said x y z r said1 ∧ k_ks cI cP cR cC B ad pm sm ca said1 rs dr M1) (mw_E D k_cl (mw_ov B ad cw 21) sz) (mw_A (mw_ov B ad cw 21) sz)) 0 0 (mw_A (mw_ov B ad cw 21) sz) := by
  refine mw_met (by decide) rfl (Nat.le_of_ble_eq_true rfl) ?_
  intro p e s m below meth c hsz J hr hlk hnm hK hZ hP hS hA ls hl
  subst hsz
  have hx := J.1
  have hb := J.2.1
  have hts := J.2.2.2.2
  have hl : lv_has ls 5 [(0, .ref (ad 0)), (1, .int x), (2, .int y), (3, .int z)] := hl
  obtain ⟨hc0, ht, hsv, hbl, ⟨ws, hc5, hWs⟩, hmd, hdr⟩ := id hkp
  obtain ⟨hpm, hsm⟩ := id hfz
  have hclo := rk_holds_clo hh
  obtain ⟨fc, w, hc2, hc3, hc4, hfc, hW, hL3, hnd, hlt⟩ := id ht
  obtain ⟨hrs12, fm, hc6, hfm⟩ := id hmd
  obtain ⟨hdr4, fd, hc7, hfd⟩ := id hdr
  refine lv_iload_n hx hb d_Kp_unsay_0 rfl (lv_at hl 1 rfl) ?_
  refine lv_iload_n hx hb d_Kp_unsay_1 rfl (lv_at hl 2 rfl) ?_
  refine lv_iload_n hx hb d_Kp_unsay_2 rfl (lv_at hl 3 rfl) ?_
  refine mw_afterI hP hS hA (mw_runS (As := [.int x, .int y, .int z]) (rest := []) J hK hZ hP hS hA (c_Kp_isTriple l D cI cZ cP cR cC tS _ (mw_ov B ad cw 21) x y z) (cwS 3 hts (mw_gS k_194 k_195 k_1 k_196) rfl rfl rfl (by decide +kernel) ⟨Nat.le_of_ble_eq_true rfl, Nat.le_of_ble_eq_true rfl⟩) rfl hl.1 rfl (Nat.le_of_ble_eq_true rfl) d_Kp_unsay_3 ⟨Nat.le_of_ble_eq_true rfl, Nat.le_of_ble_eq_true rfl⟩) (fun r0 M1 H locs hw hP hS => ?_)
  obtain ⟨rfl, hw⟩ := hw
  refine lv_if_ne (tgt := 11) hx hb d_Kp_unsay_6 (by decide) (fun c_6 => ?_) (fun c_6 => ?_)
  · obtain ⟨k, htri⟩ := (hw.resolve_right (fun g => c_6 g.1)).2
    have hk := rk_tri_lt htri
    refine lv_iload_n hx hb d_Kp_unsay_11 rfl (lv_at hl 1 rfl) ?_
    refine lv_iload_n hx hb d_Kp_unsay_12 rfl (lv_at hl 2 rfl) ?_
    refine lv_iload_n hx hb d_Kp_unsay_13 rfl (lv_at hl 3 rfl) ?_
    refine mw_afterI hP hS hA (mw_runS (As := [.int x, .int y, .int z]) (rest := []) J hK hZ hP hS hA (c_Kp_codeOf l D cI cZ cP cR cC tS _ (mw_ov B ad cw 21) x y z k htri) (cwS 3 hts (mw_gS k_200 k_201 k_1 k_202) rfl rfl rfl (by decide +kernel) ⟨Nat.le_of_ble_eq_true rfl, Nat.le_of_ble_eq_true rfl⟩) rfl hl.1 rfl (Nat.le_of_ble_eq_true rfl) d_Kp_unsay_14 ⟨Nat.le_of_ble_eq_true rfl, Nat.le_of_ble_eq_true rfl⟩) (fun r M1 H locs hw hP hS => ?_)
    obtain ⟨rfl, rfl⟩ := hw
    refine lv_istore (lv' := [(4, .int (nI k)), (0, .ref (ad 0)), (1, .int x), (2, .int y), (3, .int z)]) hx hb d_Kp_unsay_17 hl (by decide) rfl (fun ls hl => ?_)
    refine lv_aload_n hx hb d_Kp_unsay_19 rfl (lv_at hl 1 rfl) ?_
    refine mw_get (v := .ref sm) (ci := 6) (C := R_Kp) (T := T_Kp) (N := 7) J i_Kp hK hP (mw_ov_is (i := 0) ho.1 (by decide) hc0) rfl 2 (by decide) (hts _ k_170) (fun _ h9 => h9) rfl d_Kp_unsay_20 ?_
    refine lv_iload hx hb d_Kp_unsay_23 (lv_at hl 0 rfl) ?_
    refine mw_afterI hP hS hA (mw_runV (As := [.int (nI k)]) (rest := []) J hK hZ hP hS hA (mw_ov_fr ho.2 hsm) rfl (c_Mk_has l D cI cZ cP cR cC tS _ (mw_ov B ad cw 21) sm (ad 5) ws said k hk hWs (mw_ov_fr ho.2 hsm) (mw_ov_is (i := 5) ho.1 (by decide) hc5)) (cwV 1 hts (mw_gV k_203 k_204 k_205 k_4 k_206) rfl rfl rfl (by decide +kernel) ⟨Nat.le_of_ble_eq_true rfl, Nat.le_of_ble_eq_true rfl⟩) rfl hl.1 rfl (Nat.le_of_ble_eq_true rfl) d_Kp_unsay_25 ⟨Nat.le_of_ble_eq_true rfl, Nat.le_of_ble_eq_true rfl⟩) (fun r M1 H locs hw hP hS => ?_)
    obtain ⟨rfl, rfl⟩ := hw
    refine lv_if_ne (tgt := 33) hx hb d_Kp_unsay_28 (by decide) (fun c_28 => ?_) (fun c_28 => ?_)
    · have hs : said k = true := by
        cases z : said k
        · exact absurd (if_neg (by rw [z]; decide)) c_28
        · rfl
      refine lv_aload_n hx hb d_Kp_unsay_33 rfl (lv_at hl 1 rfl) ?_
      refine mw_get (v := .ref sm) (ci := 6) (C := R_Kp) (T := T_Kp) (N := 7) J i_Kp hK hP (mw_ov_is (i := 0) ho.1 (by decide) hc0) rfl 2 (by decide) (hts _ k_170) (fun _ h9 => h9) rfl d_Kp_unsay_34 ?_
      refine lv_iload hx hb d_Kp_unsay_37 (lv_at hl 0 rfl) ?_
      refine mw_afterV hP hS hA (mw_runV (As := [.int (nI k)]) (rest := []) J hK hZ hP hS hA (mw_ov_fr ho.2 hsm) rfl (c_Mk_drop l D cI cZ cP cR cC tS _ (mw_ov B ad cw 21) sm (ad 5) ws said k hk hWs (mw_ov_fr ho.2 hsm) (mw_ov_is (i := 5) ho.1 (by decide) hc5)) (cwV 1 hts (mw_gV k_300 k_289 k_290 k_4 k_291) rfl rfl rfl (by decide +kernel) ⟨Nat.le_of_ble_eq_true rfl, Nat.le_of_ble_eq_true rfl⟩) rfl hl.1 rfl (Nat.le_of_ble_eq_true rfl) d_Kp_unsay_39 ⟨Nat.le_of_ble_eq_true rfl, Nat.le_of_ble_eq_true rfl⟩) (fun M1 H locs hw hP hS => ?_)
      obtain ⟨w9, hW9, rfl⟩ := hw
      rw [mw_ov_set ho.1 (by decide)] at hP
      have hP : mw_P D k_cl (mw_ov B ad (va_up cw 5 (.inl (cI, 1024, .inl w9))) 21) _ H := hP
      refine lv_aload_n hx hb d_Kp_unsay_42 rfl (lv_at hl 1 rfl) ?_
      refine mw_afterV hP hS hA (mw_runV (As := []) (rest := []) J hK hZ hP hS hA (mw_ov_is (i := 0) ho.1 (by decide) hc0) rfl (c_Kp_holdAnew l D cI cZ cP cR cC tS _ B ad (va_up cw 5 (.inl (cI, 1024, .inl w9))) pm L ho hpm (k_tr_5 ht) ca (k_sv_5 hsv) (k_blank_5 hbl) sm dr.length rs hc0 ⟨hrs12, fm, hc6, hfm⟩ w9 (va_up said k false) hsm rfl hW9 (rk_less_no hh rk_dn_le (fun _ h => h))) (cwV 0 hts (mw_gV k_301 k_303 s_Kp_holdAnew k_1 k_304) rfl rfl rfl (by decide +kernel) ⟨Nat.le_of_ble_eq_true rfl, Nat.le_of_ble_eq_true rfl⟩) rfl hl.1 rfl (Nat.le_of_ble_eq_true rfl) d_Kp_unsay_43 ⟨Nat.le_of_ble_eq_true rfl, Nat.le_of_ble_eq_true rfl⟩) (fun M1 H locs hw hP hS => ?_)
      obtain ⟨c2, N1, rfl, kt2, hsv2, hbl2, hox2, hg2, hcl2⟩ := hw
      obtain ⟨f2, w2, -, -, -, -, -, h23, h2n, -⟩ := id kt2
      have hh2 := rk_less hh rk_dn_le h2n h23 hg2 hcl2
      refine lv_iconst (v := 1) hx hb d_Kp_unsay_46 (by decide) ?_
      exact mw_iret J hr hlk hP hS d_Kp_unsay_47 (⟨va_up said k false, Or.inr ⟨k, htri, Or.inr ⟨hs, rfl, rfl⟩⟩, B, c2, _, rfl, fun _ _ h => h, ho, hfz, ⟨(hox2 0 (by decide)).trans hc0, kt2, hsv2, hbl2, ⟨w9, (hox2 5 (by decide)).trans rfl, hW9⟩, ⟨hrs12, fm, (hox2 6 (by decide)).trans hc6, hfm⟩, ⟨hdr4, fd, (hox2 7 (by decide)).trans hc7, hfd⟩⟩, hh2, fun j hj => hsd j (rk_dn_le j hj)⟩)
    · have hs : said k = false := by
        cases z : said k
        · rfl
        · rw [if_pos z] at c_28
          exact absurd c_28 (by decide)
      refine lv_iconst (v := 0) hx hb d_Kp_unsay_31 (by decide) ?_
      exact mw_iret J hr hlk hP hS d_Kp_unsay_32 (⟨said, Or.inr ⟨k, htri, Or.inl ⟨hs, rfl, rfl⟩⟩, ⟨B, cw, L, rfl, fun _ _ h => h, ho, hfz, hkp, hh, hsd⟩⟩)
  · have hno := (hw.resolve_left (fun g => by rw [g.1] at c_6; exact absurd c_6 (by decide))).2
    refine lv_iconst (v := (-1)) hx hb d_Kp_unsay_9 (by decide) ?_
    exact mw_iret J hr hlk hP hS d_Kp_unsay_10 (⟨said, Or.inl ⟨hno, rfl, rfl⟩, ⟨B, cw, L, rfl, fun _ _ h => h, ho, hfz, hkp, hh, hsd⟩⟩)
