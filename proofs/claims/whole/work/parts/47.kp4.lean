/-! RuleKeeper: rules, size, holds, next, support, clear -/
set_option maxHeartbeats 4000000 in
set_option maxRecDepth 100000 in
theorem c_Kp_rules (l : Launch) (D : va_G) (cI cZ cP cR cC : ClassId) (tS : Nat) (sz : Nat) (B : mw_M) (ad : Nat → Nat) (cw : Nat → va_E) (pm sm ca : Nat) (said : Nat → Bool) (rs : List rk_Ru) (dr : List rk_Pt) (L : List Nat) (ho : k_ov B ad) (hfz : k_fz B ad pm sm) (hkp : k_kp cI cP cR cC B ad cw pm sm ca said rs dr L) (hh : rk_holds said rs L) (hsd : ∀ j, said j = true → j < 32768) :
    Met l y_Kp_rules (.code y_Kp_rules b_Kp_rules 1 (some .int) :: gw) ({ frames := 0, cells := 0, slots := 0, locals := 0 }) (va_Pc [.ref (ad 0)] (mw_B D k_cl (k_tys cI cZ cP cR cC) (k_g tS) (mw_ov B ad cw 21) sz)) (va_Qi (fun (r : Int32) (M1 : mw_M) => r = nI rs.length ∧ k_ks cI cP cR cC B ad pm sm ca said rs dr M1) (mw_E D k_cl (mw_ov B ad cw 21) sz) (mw_A (mw_ov B ad cw 21) sz)) 0 0 (mw_A (mw_ov B ad cw 21) sz) := by
  refine mw_met (by decide) rfl (Nat.le_of_ble_eq_true rfl) ?_
  intro p e s m below meth c hsz J hr hlk hnm hK hZ hP hS hA ls hl
  subst hsz
  have hx := J.1
  have hb := J.2.1
  have hts := J.2.2.2.2
  have hl : lv_has ls 1 [(0, .ref (ad 0))] := hl
  obtain ⟨hc0, ht, hsv, hbl, ⟨ws, hc5, hWs⟩, hmd, hdr⟩ := id hkp
  obtain ⟨hpm, hsm⟩ := id hfz
  have hclo := rk_holds_clo hh
  obtain ⟨fc, w, hc2, hc3, hc4, hfc, hW, hL3, hnd, hlt⟩ := id ht
  obtain ⟨hrs12, fm, hc6, hfm⟩ := id hmd
  obtain ⟨hdr4, fd, hc7, hfd⟩ := id hdr
  refine lv_aload_n hx hb d_Kp_rules_0 rfl (lv_at hl 0 rfl) ?_
  refine mw_get (v := .int (nI rs.length)) (ci := 6) (C := R_Kp) (T := T_Kp) (N := 7) J i_Kp hK hP (mw_ov_is (i := 0) ho.1 (by decide) hc0) rfl 5 (by decide) (hts _ k_173) (fun _ h9 => h9) rfl d_Kp_rules_1 ?_
  exact mw_iret J hr hlk hP hS d_Kp_rules_4 (⟨rfl, ⟨B, cw, L, rfl, fun _ _ h => h, ho, hfz, hkp, hh, hsd⟩⟩)

set_option maxHeartbeats 4000000 in
set_option maxRecDepth 100000 in
theorem c_Kp_size (l : Launch) (D : va_G) (cI cZ cP cR cC : ClassId) (tS : Nat) (sz : Nat) (B : mw_M) (ad : Nat → Nat) (cw : Nat → va_E) (pm sm ca : Nat) (said : Nat → Bool) (rs : List rk_Ru) (dr : List rk_Pt) (L : List Nat) (ho : k_ov B ad) (hfz : k_fz B ad pm sm) (hkp : k_kp cI cP cR cC B ad cw pm sm ca said rs dr L) (hh : rk_holds said rs L) (hsd : ∀ j, said j = true → j < 32768) :
    Met l y_Kp_size (.code y_Kp_size b_Kp_size 1 (some .int) :: gw) ({ frames := 0, cells := 0, slots := 0, locals := 0 }) (va_Pc [.ref (ad 0)] (mw_B D k_cl (k_tys cI cZ cP cR cC) (k_g tS) (mw_ov B ad cw 21) sz)) (va_Qi (fun (r : Int32) (M1 : mw_M) => sp_size said rs r ∧ k_ks cI cP cR cC B ad pm sm ca said rs dr M1) (mw_E D k_cl (mw_ov B ad cw 21) sz) (mw_A (mw_ov B ad cw 21) sz)) 0 0 (mw_A (mw_ov B ad cw 21) sz) := by
  refine mw_met (by decide) rfl (Nat.le_of_ble_eq_true rfl) ?_
  intro p e s m below meth c hsz J hr hlk hnm hK hZ hP hS hA ls hl
  subst hsz
  have hx := J.1
  have hb := J.2.1
  have hts := J.2.2.2.2
  have hl : lv_has ls 1 [(0, .ref (ad 0))] := hl
  obtain ⟨hc0, ht, hsv, hbl, ⟨ws, hc5, hWs⟩, hmd, hdr⟩ := id hkp
  obtain ⟨hpm, hsm⟩ := id hfz
  have hclo := rk_holds_clo hh
  obtain ⟨fc, w, hc2, hc3, hc4, hfc, hW, hL3, hnd, hlt⟩ := id ht
  obtain ⟨hrs12, fm, hc6, hfm⟩ := id hmd
  obtain ⟨hdr4, fd, hc7, hfd⟩ := id hdr
  refine lv_aload_n hx hb d_Kp_size_0 rfl (lv_at hl 0 rfl) ?_
  refine mw_get (v := .ref (ad 2)) (ci := 6) (C := R_Kp) (T := T_Kp) (N := 7) J i_Kp hK hP (mw_ov_is (i := 0) ho.1 (by decide) hc0) rfl 1 (by decide) (hts _ k_169) (fun _ h9 => h9) rfl d_Kp_size_1 ?_
  refine mw_get (v := .int (nI L.length)) (ci := 1) (C := R_Tr) (T := T_Tr) (N := 3) J i_Tr hK hP (mw_ov_is (i := 2) ho.1 (by decide) hc2) rfl 2 (by decide) (hts _ k_49) (fun _ h9 => h9) rfl d_Kp_size_4 ?_
  exact mw_iret J hr hlk hP hS d_Kp_size_7 (⟨⟨L, hh, rfl⟩, ⟨B, cw, L, rfl, fun _ _ h => h, ho, hfz, hkp, hh, hsd⟩⟩)

set_option maxHeartbeats 4000000 in
set_option maxRecDepth 100000 in
theorem c_Kp_holds (l : Launch) (D : va_G) (cI cZ cP cR cC : ClassId) (tS : Nat) (sz : Nat) (B : mw_M) (ad : Nat → Nat) (cw : Nat → va_E) (pm sm ca : Nat) (said : Nat → Bool) (rs : List rk_Ru) (dr : List rk_Pt) (L : List Nat) (ho : k_ov B ad) (hfz : k_fz B ad pm sm) (hkp : k_kp cI cP cR cC B ad cw pm sm ca said rs dr L) (hh : rk_holds said rs L) (hsd : ∀ j, said j = true → j < 32768) (x y z : Int32) :
    Met l y_Kp_holds (.code y_Kp_holds b_Kp_holds 5 (some .int) :: gw) ({ frames := 2, cells := 0, slots := 0, locals := 42 }) (va_Pc [.ref (ad 0), .int x, .int y, .int z] (mw_B D k_cl (k_tys cI cZ cP cR cC) (k_g tS) (mw_ov B ad cw 21) sz)) (va_Qi (fun (r : Int32) (M1 : mw_M) => sp_holds said rs x y z r ∧ k_ks cI cP cR cC B ad pm sm ca said rs dr M1) (mw_E D k_cl (mw_ov B ad cw 21) sz) (mw_A (mw_ov B ad cw 21) sz)) 0 0 (mw_A (mw_ov B ad cw 21) sz) := by
  refine mw_met (by decide) rfl (Nat.le_of_ble_eq_true rfl) ?_
  intro p e s m below meth c hsz J hr hlk hnm hK hZ hP hS hA ls hl
  subst hsz
  have hx := J.1
  have hb := J.2.1
  have hts := J.2.2.2.2
  have hl : lv_has ls 5 [(0, .ref (ad 0)), (1, .int x), (2, .int y), (3, .int z)] := hl
  obtain ⟨hc0, ht, hsv, hbl, ⟨ws, hc5, hWs⟩, hmd, hdr⟩ := id hkp
  obtain ⟨hpm, hsm⟩ := id hfz
  have hclo := rk_holds_clo hh
  obtain ⟨fc, w, hc2, hc3, hc4, hfc, hW, hL3, hnd, hlt⟩ := id ht
  obtain ⟨hrs12, fm, hc6, hfm⟩ := id hmd
  obtain ⟨hdr4, fd, hc7, hfd⟩ := id hdr
  refine lv_iload_n hx hb d_Kp_holds_0 rfl (lv_at hl 1 rfl) ?_
  refine lv_iload_n hx hb d_Kp_holds_1 rfl (lv_at hl 2 rfl) ?_
  refine lv_iload_n hx hb d_Kp_holds_2 rfl (lv_at hl 3 rfl) ?_
  refine mw_afterI hP hS hA (mw_runS (As := [.int x, .int y, .int z]) (rest := []) J hK hZ hP hS hA (c_Kp_isTriple l D cI cZ cP cR cC tS _ (mw_ov B ad cw 21) x y z) (cwS 3 hts (mw_gS k_194 k_195 k_1 k_196) rfl rfl rfl (by decide +kernel) ⟨Nat.le_of_ble_eq_true rfl, Nat.le_of_ble_eq_true rfl⟩) rfl hl.1 rfl (Nat.le_of_ble_eq_true rfl) d_Kp_holds_3 ⟨Nat.le_of_ble_eq_true rfl, Nat.le_of_ble_eq_true rfl⟩) (fun r0 M1 H locs hw hP hS => ?_)
  obtain ⟨rfl, hw⟩ := hw
  refine lv_if_ne (tgt := 11) hx hb d_Kp_holds_6 (by decide) (fun c_6 => ?_) (fun c_6 => ?_)
  · obtain ⟨k, htri⟩ := (hw.resolve_right (fun g => c_6 g.1)).2
    have hk := rk_tri_lt htri
    refine lv_iload_n hx hb d_Kp_holds_11 rfl (lv_at hl 1 rfl) ?_
    refine lv_iload_n hx hb d_Kp_holds_12 rfl (lv_at hl 2 rfl) ?_
    refine lv_iload_n hx hb d_Kp_holds_13 rfl (lv_at hl 3 rfl) ?_
    refine mw_afterI hP hS hA (mw_runS (As := [.int x, .int y, .int z]) (rest := []) J hK hZ hP hS hA (c_Kp_codeOf l D cI cZ cP cR cC tS _ (mw_ov B ad cw 21) x y z k htri) (cwS 3 hts (mw_gS k_200 k_201 k_1 k_202) rfl rfl rfl (by decide +kernel) ⟨Nat.le_of_ble_eq_true rfl, Nat.le_of_ble_eq_true rfl⟩) rfl hl.1 rfl (Nat.le_of_ble_eq_true rfl) d_Kp_holds_14 ⟨Nat.le_of_ble_eq_true rfl, Nat.le_of_ble_eq_true rfl⟩) (fun r M1 H locs hw hP hS => ?_)
    obtain ⟨rfl, rfl⟩ := hw
    refine lv_istore (lv' := [(4, .int (nI k)), (0, .ref (ad 0)), (1, .int x), (2, .int y), (3, .int z)]) hx hb d_Kp_holds_17 hl (by decide) rfl (fun ls hl => ?_)
    refine lv_aload_n hx hb d_Kp_holds_19 rfl (lv_at hl 1 rfl) ?_
    refine mw_get (v := .ref sm) (ci := 6) (C := R_Kp) (T := T_Kp) (N := 7) J i_Kp hK hP (mw_ov_is (i := 0) ho.1 (by decide) hc0) rfl 2 (by decide) (hts _ k_170) (fun _ h9 => h9) rfl d_Kp_holds_20 ?_
    refine lv_iload hx hb d_Kp_holds_23 (lv_at hl 0 rfl) ?_
    refine mw_afterI hP hS hA (mw_runV (As := [.int (nI k)]) (rest := []) J hK hZ hP hS hA (mw_ov_fr ho.2 hsm) rfl (c_Mk_has l D cI cZ cP cR cC tS _ (mw_ov B ad cw 21) sm (ad 5) ws said k hk hWs (mw_ov_fr ho.2 hsm) (mw_ov_is (i := 5) ho.1 (by decide) hc5)) (cwV 1 hts (mw_gV k_203 k_204 k_205 k_4 k_206) rfl rfl rfl (by decide +kernel) ⟨Nat.le_of_ble_eq_true rfl, Nat.le_of_ble_eq_true rfl⟩) rfl hl.1 rfl (Nat.le_of_ble_eq_true rfl) d_Kp_holds_25 ⟨Nat.le_of_ble_eq_true rfl, Nat.le_of_ble_eq_true rfl⟩) (fun r M1 H locs hw hP hS => ?_)
    obtain ⟨rfl, rfl⟩ := hw
    refine lv_if_eq (tgt := 33) hx hb d_Kp_holds_28 (by decide) (fun c_28 => ?_) (fun c_28 => ?_)
    · have hs : said k = false := by
        cases z : said k
        · rfl
        · rw [if_pos z] at c_28
          exact absurd c_28 (by decide)
      refine lv_aload_n hx hb d_Kp_holds_33 rfl (lv_at hl 1 rfl) ?_
      refine mw_get (v := .ref (ad 2)) (ci := 6) (C := R_Kp) (T := T_Kp) (N := 7) J i_Kp hK hP (mw_ov_is (i := 0) ho.1 (by decide) hc0) rfl 1 (by decide) (hts _ k_169) (fun _ h9 => h9) rfl d_Kp_holds_34 ?_
      refine lv_iload hx hb d_Kp_holds_37 (lv_at hl 0 rfl) ?_
      refine mw_afterI hP hS hA (mw_runV (As := [.int (nI k)]) (rest := []) J hK hZ hP hS hA (mw_ov_is (i := 2) ho.1 (by decide) hc2) rfl (c_Tr_has l D cI cZ cP cR cC tS _ B ad cw pm L ho hpm ht k hk) (cwV 1 hts (mw_gV k_207 k_208 k_209 k_3 k_210) rfl rfl rfl (by decide +kernel) ⟨Nat.le_of_ble_eq_true rfl, Nat.le_of_ble_eq_true rfl⟩) rfl hl.1 rfl (Nat.le_of_ble_eq_true rfl) d_Kp_holds_39 ⟨Nat.le_of_ble_eq_true rfl, Nat.le_of_ble_eq_true rfl⟩) (fun r M1 H locs hw hP hS => ?_)
      obtain ⟨rfl, rfl⟩ := hw
      refine lv_if_eq (tgt := 49) hx hb d_Kp_holds_42 (by decide) (fun c_42 => ?_) (fun c_42 => ?_)
      · have hkL : k ∉ L := fun z => by
          rw [if_pos z] at c_42
          exact absurd c_42 (by decide)
        refine lv_iconst (v := 0) hx hb d_Kp_holds_49 (by decide) ?_
        exact mw_iret J hr hlk hP hS d_Kp_holds_50 (⟨Or.inr ⟨k, htri, Or.inr (Or.inr ⟨hs, fun z => hkL ((hh.2.2 k).mpr z), rfl⟩)⟩, ⟨B, cw, L, rfl, fun _ _ h => h, ho, hfz, hkp, hh, hsd⟩⟩)
      · have hkL : k ∈ L := Classical.byContradiction fun z => c_42 (if_neg z)
        refine lv_iconst (v := 2) hx hb d_Kp_holds_45 (by decide) ?_
        refine lv_goto (tgt := 50) hx hb d_Kp_holds_46 (by decide) ?_
        exact mw_iret J hr hlk hP hS d_Kp_holds_50 (⟨Or.inr ⟨k, htri, Or.inr (Or.inl ⟨hs, (hh.2.2 k).mp hkL, rfl⟩)⟩, ⟨B, cw, L, rfl, fun _ _ h => h, ho, hfz, hkp, hh, hsd⟩⟩)
    · have hs : said k = true := by
        cases z : said k
        · exact absurd (if_neg (by rw [z]; decide)) c_28
        · rfl
      refine lv_iconst (v := 1) hx hb d_Kp_holds_31 (by decide) ?_
      exact mw_iret J hr hlk hP hS d_Kp_holds_32 (⟨Or.inr ⟨k, htri, Or.inl ⟨hs, rfl⟩⟩, ⟨B, cw, L, rfl, fun _ _ h => h, ho, hfz, hkp, hh, hsd⟩⟩)
  · have hno := (hw.resolve_left (fun g => by rw [g.1] at c_6; exact absurd c_6 (by decide))).2
    refine lv_iconst (v := (-1)) hx hb d_Kp_holds_9 (by decide) ?_
    exact mw_iret J hr hlk hP hS d_Kp_holds_10 (⟨Or.inl ⟨hno, rfl⟩, ⟨B, cw, L, rfl, fun _ _ h => h, ho, hfz, hkp, hh, hsd⟩⟩)

set_option maxHeartbeats 4000000 in
set_option maxRecDepth 100000 in
theorem c_Kp_next (l : Launch) (D : va_G) (cI cZ cP cR cC : ClassId) (tS : Nat) (sz : Nat) (B : mw_M) (ad : Nat → Nat) (cw : Nat → va_E) (pm sm ca : Nat) (said : Nat → Bool) (rs : List rk_Ru) (dr : List rk_Pt) (L : List Nat) (ho : k_ov B ad) (hfz : k_fz B ad pm sm) (hkp : k_kp cI cP cR cC B ad cw pm sm ca said rs dr L) (hh : rk_holds said rs L) (hsd : ∀ j, said j = true → j < 32768) (n : Int32) :
    Met l y_Kp_next (.code y_Kp_next b_Kp_next 5 (some .int) :: gw) ({ frames := 0, cells := 0, slots := 0, locals := 0 }) (va_Pc [.ref (ad 0), .int n] (mw_B D k_cl (k_tys cI cZ cP cR cC) (k_g tS) (mw_ov B ad cw 21) sz)) (va_Qi (fun (r : Int32) (M1 : mw_M) => sp_next said rs n r ∧ k_ks cI cP cR cC B ad pm sm ca said rs dr M1) (mw_E D k_cl (mw_ov B ad cw 21) sz) (mw_A (mw_ov B ad cw 21) sz)) 0 0 (mw_A (mw_ov B ad cw 21) sz) := by
  refine mw_met (by decide) rfl (Nat.le_of_ble_eq_true rfl) ?_
  intro p e s m below meth c hsz J hr hlk hnm hK hZ hP hS hA ls hl
  subst hsz
  have hx := J.1
  have hb := J.2.1
  have hts := J.2.2.2.2
  have hl : lv_has ls 5 [(0, .ref (ad 0)), (1, .int n)] := hl
  obtain ⟨hc0, ht, hsv, hbl, ⟨ws, hc5, hWs⟩, hmd, hdr⟩ := id hkp
  obtain ⟨hpm, hsm⟩ := id hfz
  have hclo := rk_holds_clo hh
  obtain ⟨fc, w, hc2, hc3, hc4, hfc, hW, hL3, hnd, hlt⟩ := id ht
  obtain ⟨hrs12, fm, hc6, hfm⟩ := id hmd
  obtain ⟨hdr4, fd, hc7, hfd⟩ := id hdr
  refine lv_bipush (v := (-2)) hx hb d_Kp_next_0 (by decide) ?_
  refine lv_istore_n (lv' := [(2, .int (-2)), (0, .ref (ad 0)), (1, .int n)]) hx hb d_Kp_next_2 rfl hl (by decide) rfl (fun ls hl => ?_)
  refine lv_iconst (v := 0) hx hb d_Kp_next_3 (by decide) ?_
  refine mw_top (x' := nI 0) nI_0.symm ?_
  refine lv_istore_n (lv' := [(3, .int (nI 0)), (2, .int (-2)), (0, .ref (ad 0)), (1, .int n)]) hx hb d_Kp_next_4 rfl hl (by decide) rfl (fun ls hl => ?_)
  refine mw_loop (W' := fun H locs ls => W p l e _ s m _ below meth c H locs _ _ _ (F0 m 5 ls [])) L.length (fun i H locs ls => ∃ (ml : Int32), lv_has ls 5 [(0, .ref (ad 0)), (1, .int n), (2, .int ml), (3, .int (nI i))] ∧ (rk_nx (· ∈ L.take i) n ml) ∧ mw_P D k_cl (mw_ov B ad cw 21) (mw_A (mw_ov B ad cw 21) s.heap.size) H ∧ va_S (mw_A (mw_ov B ad cw 21) s.heap.size) s.heap H locs) ?_ L.length 0 (by omega) (by omega) _ _ _ ⟨(-2), lv_sub hl [2, 3, 1, 0] rfl, (Or.inl ⟨rfl, fun j hj => by simp at hj⟩), hP, hS⟩
  intro i H locs ls hi_5 hI ih_5
  obtain ⟨ml, hl, hnx, hP, hS⟩ := hI
  refine lv_iload_n hx hb d_Kp_next_5 rfl (lv_at hl 3 rfl) ?_
  refine lv_aload_n hx hb d_Kp_next_6 rfl (lv_at hl 0 rfl) ?_
  refine mw_get (v := .ref (ad 2)) (ci := 6) (C := R_Kp) (T := T_Kp) (N := 7) J i_Kp hK hP (mw_ov_is (i := 0) ho.1 (by decide) hc0) rfl 1 (by decide) (hts _ k_169) (fun _ h9 => h9) rfl d_Kp_next_7 ?_
  refine mw_get (v := .int (nI L.length)) (ci := 1) (C := R_Tr) (T := T_Tr) (N := 3) J i_Tr hK hP (mw_ov_is (i := 2) ho.1 (by decide) hc2) rfl 2 (by decide) (hts _ k_49) (fun _ h9 => h9) rfl d_Kp_next_10 ?_
  refine lv_icmp_ge (tgt := 54) hx hb d_Kp_next_13 (by decide) (fun c_13 => ?_) (fun c_13 => ?_)
  · have c_13 : L.length ≤ i := (nI_leI (by omega) (by omega)).mp c_13
    have hie : i = L.length := by omega
    refine lv_iload_n hx hb d_Kp_next_54 rfl (lv_at hl 2 rfl) ?_
    exact mw_iret J hr hlk hP hS d_Kp_next_55 (⟨rk_nx_iff (fun j => by rw [hie, List.take_length]; exact hh.2.2 j) hnx, ⟨B, cw, L, rfl, fun _ _ h => h, ho, hfz, hkp, hh, hsd⟩⟩)
  · have c_13 : ¬ (L.length ≤ i) := fun z => c_13 ((nI_leI (by omega) (by omega)).mpr z)
    have hci : L.getD i 0 < 32768 := hlt _ (rk_getD_mem (by omega))
    refine lv_aload_n hx hb d_Kp_next_16 rfl (lv_at hl 0 rfl) ?_
    refine mw_get (v := .ref (ad 2)) (ci := 6) (C := R_Kp) (T := T_Kp) (N := 7) J i_Kp hK hP (mw_ov_is (i := 0) ho.1 (by decide) hc0) rfl 1 (by decide) (hts _ k_169) (fun _ h9 => h9) rfl d_Kp_next_17 ?_
    refine mw_get (v := .ref (ad 3)) (ci := 1) (C := R_Tr) (T := T_Tr) (N := 3) J i_Tr hK hP (mw_ov_is (i := 2) ho.1 (by decide) hc2) rfl 0 (by decide) (hts _ k_44) (fun _ h9 => h9) rfl d_Kp_next_20 ?_
    refine lv_iload_n hx hb d_Kp_next_23 rfl (lv_at hl 3 rfl) ?_
    refine mw_nald (k := i) J hK hP 0 (mw_ov_is (i := 3) ho.1 (by decide) hc3) rfl (by omega) (by decide) d_Kp_next_24 ?_
    refine mw_top (x' := nI (L.getD i 0)) (by rw [hfc i (by omega)]) ?_
    refine lv_istore (lv' := [(4, .int (nI (L.getD i 0))), (0, .ref (ad 0)), (1, .int n), (2, .int ml), (3, .int (nI i))]) hx hb d_Kp_next_25 hl (by decide) rfl (fun ls hl => ?_)
    refine lv_iload hx hb d_Kp_next_27 (lv_at hl 0 rfl) ?_
    refine lv_iload_n hx hb d_Kp_next_29 rfl (lv_at hl 2 rfl) ?_
    refine lv_icmp_le (tgt := 48) hx hb d_Kp_next_30 (by decide) (fun c_30 => ?_) (fun c_30 => ?_)
    · have hle : ¬ n < nI (L.getD i 0) := Int32.not_lt.mpr c_30
      refine lv_iinc (v := nI (i + 1)) (lv' := [(3, .int (nI (i + 1))), (4, .int (nI (L.getD i 0))), (0, .ref (ad 0)), (1, .int n), (2, .int ml)]) hx hb d_Kp_next_48 hl (k := 4) rfl (nI_1 i) (by decide) rfl (fun ls hl => ?_)
      refine lv_goto (tgt := 5) hx hb d_Kp_next_51 (by decide) ?_
      exact ih_5 _ _ _ (by omega) ⟨ml, lv_sub hl [2, 3, 4, 0] rfl, (rk_nx_iff (rk_take_or (by omega)) (rk_nx_skip hnx hle)), hP, hS⟩
    · have hgt : n < nI (L.getD i 0) := Int32.not_le.mp c_30
      refine lv_iload_n hx hb d_Kp_next_33 rfl (lv_at hl 3 rfl) ?_
      refine lv_bipush (v := (-2)) hx hb d_Kp_next_34 (by decide) ?_
      refine lv_icmp_eq (tgt := 45) hx hb d_Kp_next_36 (by decide) (fun c_36 => ?_) (fun c_36 => ?_)
      · have hless : ml = -2 ∨ nI (L.getD i 0) < ml := Or.inl c_36
        refine lv_iload hx hb d_Kp_next_45 (lv_at hl 0 rfl) ?_
        refine lv_istore_n (lv' := [(2, .int (nI (L.getD i 0))), (4, .int (nI (L.getD i 0))), (0, .ref (ad 0)), (1, .int n), (3, .int (nI i))]) hx hb d_Kp_next_47 rfl hl (by decide) rfl (fun ls hl => ?_)
        refine lv_iinc (v := nI (i + 1)) (lv' := [(3, .int (nI (i + 1))), (2, .int (nI (L.getD i 0))), (4, .int (nI (L.getD i 0))), (0, .ref (ad 0)), (1, .int n)]) hx hb d_Kp_next_48 hl (k := 4) rfl (nI_1 i) (by decide) rfl (fun ls hl => ?_)
        refine lv_goto (tgt := 5) hx hb d_Kp_next_51 (by decide) ?_
        exact ih_5 _ _ _ (by omega) ⟨(nI (L.getD i 0)), lv_sub hl [3, 4, 1, 0] rfl, (rk_nx_iff (rk_take_or (by omega)) (rk_nx_less hnx hgt (fun j hj => hlt j (List.mem_of_mem_take hj)) hci hless)), hP, hS⟩
      · refine lv_iload hx hb d_Kp_next_39 (lv_at hl 0 rfl) ?_
        refine lv_iload_n hx hb d_Kp_next_41 rfl (lv_at hl 3 rfl) ?_
        refine lv_icmp_ge (tgt := 48) hx hb d_Kp_next_42 (by decide) (fun c_42 => ?_) (fun c_42 => ?_)
        · refine lv_iinc (v := nI (i + 1)) (lv' := [(3, .int (nI (i + 1))), (4, .int (nI (L.getD i 0))), (0, .ref (ad 0)), (1, .int n), (2, .int ml)]) hx hb d_Kp_next_48 hl (k := 4) rfl (nI_1 i) (by decide) rfl (fun ls hl => ?_)
          refine lv_goto (tgt := 5) hx hb d_Kp_next_51 (by decide) ?_
          exact ih_5 _ _ _ (by omega) ⟨ml, lv_sub hl [2, 3, 4, 0] rfl, (rk_nx_iff (rk_take_or (by omega)) (rk_nx_keep hnx (fun j hj => hlt j (List.mem_of_mem_take hj)) hci c_36 c_42)), hP, hS⟩
        · have hless : ml = -2 ∨ nI (L.getD i 0) < ml := Or.inr (Int32.not_le.mp c_42)
          refine lv_iload hx hb d_Kp_next_45 (lv_at hl 0 rfl) ?_
          refine lv_istore_n (lv' := [(2, .int (nI (L.getD i 0))), (4, .int (nI (L.getD i 0))), (0, .ref (ad 0)), (1, .int n), (3, .int (nI i))]) hx hb d_Kp_next_47 rfl hl (by decide) rfl (fun ls hl => ?_)
          refine lv_iinc (v := nI (i + 1)) (lv' := [(3, .int (nI (i + 1))), (2, .int (nI (L.getD i 0))), (4, .int (nI (L.getD i 0))), (0, .ref (ad 0)), (1, .int n)]) hx hb d_Kp_next_48 hl (k := 4) rfl (nI_1 i) (by decide) rfl (fun ls hl => ?_)
          refine lv_goto (tgt := 5) hx hb d_Kp_next_51 (by decide) ?_
          exact ih_5 _ _ _ (by omega) ⟨(nI (L.getD i 0)), lv_sub hl [3, 4, 1, 0] rfl, (rk_nx_iff (rk_take_or (by omega)) (rk_nx_less hnx hgt (fun j hj => hlt j (List.mem_of_mem_take hj)) hci hless)), hP, hS⟩

set_option maxHeartbeats 4000000 in
set_option maxRecDepth 100000 in
theorem c_Kp_support (l : Launch) (D : va_G) (cI cZ cP cR cC : ClassId) (tS : Nat) (sz : Nat) (B : mw_M) (ad : Nat → Nat) (cw : Nat → va_E) (pm sm ca : Nat) (said : Nat → Bool) (rs : List rk_Ru) (dr : List rk_Pt) (L : List Nat) (ho : k_ov B ad) (hfz : k_fz B ad pm sm) (hkp : k_kp cI cP cR cC B ad cw pm sm ca said rs dr L) (hh : rk_holds said rs L) (hsd : ∀ j, said j = true → j < 32768) (x y z : Int32) :
    Met l y_Kp_support (.code y_Kp_support b_Kp_support 7 (some .int) :: gw) ({ frames := 7, cells := 0, slots := 0, locals := 155 }) (va_Pc [.ref (ad 0), .int x, .int y, .int z] (mw_B D k_cl (k_tys cI cZ cP cR cC) (k_g tS) (mw_ov B ad cw 21) sz)) (va_Qi (fun (r : Int32) (M1 : mw_M) => sp_support said rs x y z r ∧ k_ks cI cP cR cC B ad pm sm ca said rs dr M1) (mw_E D k_cl (mw_ov B ad cw 21) sz) (mw_A (mw_ov B ad cw 21) sz)) 0 0 (mw_A (mw_ov B ad cw 21) sz) := by
  refine mw_met (by decide) rfl (Nat.le_of_ble_eq_true rfl) ?_
  intro p e s m below meth c hsz J hr hlk hnm hK hZ hP hS hA ls hl
  subst hsz
  have hx := J.1
  have hb := J.2.1
  have hts := J.2.2.2.2
  have hl : lv_has ls 7 [(0, .ref (ad 0)), (1, .int x), (2, .int y), (3, .int z)] := hl
  obtain ⟨hc0, ht, hsv, hbl, ⟨ws, hc5, hWs⟩, hmd, hdr⟩ := id hkp
  obtain ⟨hpm, hsm⟩ := id hfz
  have hclo := rk_holds_clo hh
  obtain ⟨fc, w, hc2, hc3, hc4, hfc, hW, hL3, hnd, hlt⟩ := id ht
  obtain ⟨hrs12, fm, hc6, hfm⟩ := id hmd
  obtain ⟨hdr4, fd, hc7, hfd⟩ := id hdr
  refine lv_iload_n hx hb d_Kp_support_0 rfl (lv_at hl 1 rfl) ?_
  refine lv_iload_n hx hb d_Kp_support_1 rfl (lv_at hl 2 rfl) ?_
  refine lv_iload_n hx hb d_Kp_support_2 rfl (lv_at hl 3 rfl) ?_
  refine mw_afterI hP hS hA (mw_runS (As := [.int x, .int y, .int z]) (rest := []) J hK hZ hP hS hA (c_Kp_isTriple l D cI cZ cP cR cC tS _ (mw_ov B ad cw 21) x y z) (cwS 3 hts (mw_gS k_194 k_195 k_1 k_196) rfl rfl rfl (by decide +kernel) ⟨Nat.le_of_ble_eq_true rfl, Nat.le_of_ble_eq_true rfl⟩) rfl hl.1 rfl (Nat.le_of_ble_eq_true rfl) d_Kp_support_3 ⟨Nat.le_of_ble_eq_true rfl, Nat.le_of_ble_eq_true rfl⟩) (fun r0 M1 H locs hw hP hS => ?_)
  obtain ⟨rfl, hw⟩ := hw
  refine lv_if_ne (tgt := 11) hx hb d_Kp_support_6 (by decide) (fun c_6 => ?_) (fun c_6 => ?_)
  · obtain ⟨k, htri⟩ := (hw.resolve_right (fun g => c_6 g.1)).2
    have hk := rk_tri_lt htri
    refine lv_iload_n hx hb d_Kp_support_11 rfl (lv_at hl 1 rfl) ?_
    refine lv_iload_n hx hb d_Kp_support_12 rfl (lv_at hl 2 rfl) ?_
    refine lv_iload_n hx hb d_Kp_support_13 rfl (lv_at hl 3 rfl) ?_
    refine mw_afterI hP hS hA (mw_runS (As := [.int x, .int y, .int z]) (rest := []) J hK hZ hP hS hA (c_Kp_codeOf l D cI cZ cP cR cC tS _ (mw_ov B ad cw 21) x y z k htri) (cwS 3 hts (mw_gS k_200 k_201 k_1 k_202) rfl rfl rfl (by decide +kernel) ⟨Nat.le_of_ble_eq_true rfl, Nat.le_of_ble_eq_true rfl⟩) rfl hl.1 rfl (Nat.le_of_ble_eq_true rfl) d_Kp_support_14 ⟨Nat.le_of_ble_eq_true rfl, Nat.le_of_ble_eq_true rfl⟩) (fun r M1 H locs hw hP hS => ?_)
    obtain ⟨rfl, rfl⟩ := hw
    refine lv_istore (lv' := [(4, .int (nI k)), (0, .ref (ad 0)), (1, .int x), (2, .int y), (3, .int z)]) hx hb d_Kp_support_17 hl (by decide) rfl (fun ls hl => ?_)
    refine lv_iconst (v := 0) hx hb d_Kp_support_19 (by decide) ?_
    refine mw_top (x' := nI (((rs.take 0).map (fun r => rk_sup L r k)).sum)) nI_0.symm ?_
    refine lv_istore (lv' := [(5, .int (nI (((rs.take 0).map (fun r => rk_sup L r k)).sum))), (4, .int (nI k)), (0, .ref (ad 0)), (1, .int x), (2, .int y), (3, .int z)]) hx hb d_Kp_support_20 hl (by decide) rfl (fun ls hl => ?_)
    refine lv_iconst (v := 0) hx hb d_Kp_support_22 (by decide) ?_
    refine mw_top (x' := nI 0) nI_0.symm ?_
    refine lv_istore (lv' := [(6, .int (nI 0)), (5, .int (nI (((rs.take 0).map (fun r => rk_sup L r k)).sum))), (4, .int (nI k)), (0, .ref (ad 0)), (1, .int x), (2, .int y), (3, .int z)]) hx hb d_Kp_support_23 hl (by decide) rfl (fun ls hl => ?_)
    refine mw_loop (W' := fun H locs ls => W p l e _ s m _ below meth c H locs _ _ _ (F0 m 25 ls [])) rs.length (fun i H locs ls => ∃ (cx : Nat → va_E), lv_has ls 7 [(0, .ref (ad 0)), (4, .int (nI k)), (5, .int (nI (((rs.take i).map (fun r => rk_sup L r k)).sum))), (6, .int (nI i))] ∧ (k_tr cI ad cx pm L) ∧ (∃ cc u, k_sv cI cC B ad cx ca cc u) ∧ (∀ d, d < 3 → k_blank cI ad cx d) ∧ (∀ i, i = 0 ∨ i = 5 ∨ i = 6 ∨ i = 7 → cx i = cw i) ∧ mw_P D k_cl (mw_ov B ad cx 21) (mw_A (mw_ov B ad cw 21) s.heap.size) H ∧ va_S (mw_A (mw_ov B ad cw 21) s.heap.size) s.heap H locs) ?_ rs.length 0 (by omega) (by omega) _ _ _ ⟨cw, lv_sub hl [3, 2, 1, 0] rfl, ht, hsv, hbl, (fun _ _ => rfl), hP, hS⟩
    intro i H locs ls hi_25 hI ih_25
    obtain ⟨cx, hl, ktx, ksx, hbx, hox, hP, hS⟩ := hI
    obtain ⟨ccx, ux, ksx0⟩ := id ksx
    refine lv_iload hx hb d_Kp_support_25 (lv_at hl 3 rfl) ?_
    refine lv_aload_n hx hb d_Kp_support_27 rfl (lv_at hl 0 rfl) ?_
    refine mw_get (v := .int (nI rs.length)) (ci := 6) (C := R_Kp) (T := T_Kp) (N := 7) J i_Kp hK hP (mw_ov_is (i := 0) ho.1 (by decide) ((hox 0 (by decide)).trans hc0)) rfl 5 (by decide) (hts _ k_173) (fun _ h9 => h9) rfl d_Kp_support_28 ?_
    refine lv_icmp_ge (tgt := 61) hx hb d_Kp_support_31 (by decide) (fun c_31 => ?_) (fun c_31 => ?_)
    · have c_31 : rs.length ≤ i := (nI_leI (by omega) (by omega)).mp c_31
      have hie : i = rs.length := by omega
      refine lv_iload hx hb d_Kp_support_61 (lv_at hl 2 rfl) ?_
      exact mw_iret J hr hlk hP hS d_Kp_support_63 (⟨Or.inr ⟨k, htri, L, hh, by rw [hie, List.take_length]; rfl⟩, B, cx, L, rfl, fun _ _ h => h, ho, hfz, ⟨(hox 0 (by decide)).trans hc0, ktx, ksx, hbx, ⟨ws, (hox 5 (by decide)).trans hc5, hWs⟩, ⟨hrs12, fm, (hox 6 (by decide)).trans hc6, hfm⟩, ⟨hdr4, fd, (hox 7 (by decide)).trans hc7, hfd⟩⟩, hh, hsd⟩)
    · have c_31 : ¬ (rs.length ≤ i) := fun z => c_31 ((nI_leI (by omega) (by omega)).mpr z)
      obtain ⟨ra, hra, hrule, hokr⟩ := hfm i (by omega)
      refine lv_iload hx hb d_Kp_support_34 (lv_at hl 2 rfl) ?_
      refine lv_aload_n hx hb d_Kp_support_36 rfl (lv_at hl 0 rfl) ?_
      refine mw_get (v := .ref (ad 1)) (ci := 6) (C := R_Kp) (T := T_Kp) (N := 7) J i_Kp hK hP (mw_ov_is (i := 0) ho.1 (by decide) ((hox 0 (by decide)).trans hc0)) rfl 0 (by decide) (hts _ k_168) (fun _ h9 => h9) rfl d_Kp_support_37 ?_
      refine lv_aload_n hx hb d_Kp_support_40 rfl (lv_at hl 0 rfl) ?_
      refine mw_get (v := .ref (ad 6)) (ci := 6) (C := R_Kp) (T := T_Kp) (N := 7) J i_Kp hK hP (mw_ov_is (i := 0) ho.1 (by decide) ((hox 0 (by decide)).trans hc0)) rfl 3 (by decide) (hts _ k_171) (fun _ h9 => h9) rfl d_Kp_support_41 ?_
      refine lv_iload hx hb d_Kp_support_44 (lv_at hl 3 rfl) ?_
      refine mw_aaldN (k := i) (b := ra) J hK hP 3 (mw_ov_is (i := 6) ho.1 (by decide) ((hox 6 (by decide)).trans hc6)) rfl (by omega) (by decide) hra d_Kp_support_46 ?_
      refine lv_iload hx hb d_Kp_support_47 (lv_at hl 1 rfl) ?_
      refine mw_afterI hP hS hA (mw_runV (As := [.ref ra, .int (nI k)]) (rest := [.int (nI (((rs.take i).map (fun r => rk_sup L r k)).sum))]) J hK hZ hP hS hA (mw_ov_is (i := 1) ho.1 (by decide) ksx0.1) rfl (c_Sv_casesGiving l D cI cZ cP cR cC tS _ B ad cx pm L ho hpm ktx ca ccx ux ksx0 hbx ra (rk_rth rs i) hrule hokr k hk) (cwV 2 hts (mw_gV k_347 k_348 k_349 k_2 k_350) rfl rfl rfl (by decide +kernel) ⟨Nat.le_of_ble_eq_true rfl, Nat.le_of_ble_eq_true rfl⟩) rfl hl.1 rfl (Nat.le_of_ble_eq_true rfl) d_Kp_support_49 ⟨Nat.le_of_ble_eq_true rfl, Nat.le_of_ble_eq_true rfl⟩) (fun r5 M1 H locs hw hP hS => ?_)
      obtain ⟨hr5, c5, u5, cc5, rfl, kt5, ks5, hb5, ho50⟩ := hw
      have ho5 : ∀ i, i = 0 ∨ i = 5 ∨ i = 6 ∨ i = 7 → c5 i = cw i := fun i hi => by rw [ho50 i hi]; exact hox i hi
      refine lv_iadd hx hb d_Kp_support_52 ?_
      refine mw_top (x' := nI (((rs.take (i + 1)).map (fun r => rk_sup L r k)).sum)) (by rw [hr5, nI_add, rk_sum_take (by omega)]) ?_
      refine lv_istore (lv' := [(5, .int (nI (((rs.take (i + 1)).map (fun r => rk_sup L r k)).sum))), (0, .ref (ad 0)), (4, .int (nI k)), (6, .int (nI i))]) hx hb d_Kp_support_53 hl (by decide) rfl (fun ls hl => ?_)
      refine lv_iinc (v := nI (i + 1)) (lv' := [(6, .int (nI (i + 1))), (5, .int (nI (((rs.take (i + 1)).map (fun r => rk_sup L r k)).sum))), (0, .ref (ad 0)), (4, .int (nI k))]) hx hb d_Kp_support_55 hl (k := 3) rfl (nI_1 i) (by decide) rfl (fun ls hl => ?_)
      refine lv_goto (tgt := 25) hx hb d_Kp_support_58 (by decide) ?_
      exact ih_25 _ _ _ (by omega) ⟨c5, lv_sub hl [2, 3, 1, 0] rfl, kt5, ⟨_, _, ks5⟩, hb5, ho5, hP, hS⟩
  · have hno := (hw.resolve_left (fun g => by rw [g.1] at c_6; exact absurd c_6 (by decide))).2
    refine lv_iconst (v := (-1)) hx hb d_Kp_support_9 (by decide) ?_
    exact mw_iret J hr hlk hP hS d_Kp_support_10 (⟨Or.inl ⟨hno, rfl⟩, ⟨B, cw, L, rfl, fun _ _ h => h, ho, hfz, hkp, hh, hsd⟩⟩)

set_option maxHeartbeats 4000000 in
set_option maxRecDepth 100000 in
theorem c_Kp_clear (l : Launch) (D : va_G) (cI cZ cP cR cC : ClassId) (tS : Nat) (sz : Nat) (B : mw_M) (ad : Nat → Nat) (cw : Nat → va_E) (pm sm ca : Nat) (said : Nat → Bool) (rs : List rk_Ru) (dr : List rk_Pt) (L : List Nat) (ho : k_ov B ad) (hfz : k_fz B ad pm sm) (hkp : k_kp cI cP cR cC B ad cw pm sm ca said rs dr L) (hh : rk_holds said rs L) (hsd : ∀ j, said j = true → j < 32768) :
    Met l y_Kp_clear (.code y_Kp_clear b_Kp_clear 3 (some .int) :: gw) ({ frames := 2, cells := 0, slots := 0, locals := 43 }) (va_Pc [.ref (ad 0)] (mw_B D k_cl (k_tys cI cZ cP cR cC) (k_g tS) (mw_ov B ad cw 21) sz)) (va_Qi (fun (r : Int32) (M1 : mw_M) => sp_clear said rs r ∧ k_ks cI cP cR cC B ad pm sm ca (fun _ => false) rs dr M1) (mw_E D k_cl (mw_ov B ad cw 21) sz) (mw_A (mw_ov B ad cw 21) sz)) 0 0 (mw_A (mw_ov B ad cw 21) sz) := by
  refine mw_met (by decide) rfl (Nat.le_of_ble_eq_true rfl) ?_
  intro p e s m below meth c hsz J hr hlk hnm hK hZ hP hS hA ls hl
  subst hsz
  have hx := J.1
  have hb := J.2.1
  have hts := J.2.2.2.2
  have hl : lv_has ls 3 [(0, .ref (ad 0))] := hl
  obtain ⟨hc0, ht, hsv, hbl, ⟨ws, hc5, hWs⟩, hmd, hdr⟩ := id hkp
  obtain ⟨hpm, hsm⟩ := id hfz
  have hclo := rk_holds_clo hh
  obtain ⟨fc, w, hc2, hc3, hc4, hfc, hW, hL3, hnd, hlt⟩ := id ht
  obtain ⟨hrs12, fm, hc6, hfm⟩ := id hmd
  obtain ⟨hdr4, fd, hc7, hfd⟩ := id hdr
  refine lv_iconst (v := 0) hx hb d_Kp_clear_0 (by decide) ?_
  refine mw_top (x' := nI (((L.take 0).filter said).length)) nI_0.symm ?_
  refine lv_istore_n (lv' := [(1, .int (nI (((L.take 0).filter said).length))), (0, .ref (ad 0))]) hx hb d_Kp_clear_1 rfl hl (by decide) rfl (fun ls hl => ?_)
  have hP : mw_P D k_cl (mw_ov B ad (va_up cw 5 (.inl (cI, 1024, .inl ws))) 21) (mw_A (mw_ov B ad cw 21) s.heap.size) s.heap := by
    rw [va_up_same hc5]
    exact hP
  refine lv_iconst (v := 0) hx hb d_Kp_clear_2 (by decide) ?_
  refine mw_top (x' := nI 0) nI_0.symm ?_
  refine lv_istore_n (lv' := [(2, .int (nI 0)), (1, .int (nI (((L.take 0).filter said).length))), (0, .ref (ad 0))]) hx hb d_Kp_clear_3 rfl hl (by decide) rfl (fun ls hl => ?_)
  refine mw_loop (W' := fun H locs ls => W p l e _ s m _ below meth c H locs _ _ _ (F0 m 4 ls [])) L.length (fun i H locs ls => ∃ (w2 : Nat → Int32), lv_has ls 3 [(0, .ref (ad 0)), (1, .int (nI (((L.take i).filter said).length))), (2, .int (nI i))] ∧ (rk_W w2 (fun k => said k && decide (k ∉ L.take i))) ∧ mw_P D k_cl (mw_ov B ad (va_up cw 5 (.inl (cI, 1024, .inl w2))) 21) (mw_A (mw_ov B ad cw 21) s.heap.size) H ∧ va_S (mw_A (mw_ov B ad cw 21) s.heap.size) s.heap H locs) ?_ L.length 0 (by omega) (by omega) _ _ _ ⟨ws, lv_sub hl [2, 1, 0] rfl, (by simpa using hWs), hP, hS⟩
  intro i H locs ls hi_4 hI ih_4
  obtain ⟨w2, hl, hW2, hP, hS⟩ := hI
  refine lv_iload_n hx hb d_Kp_clear_4 rfl (lv_at hl 2 rfl) ?_
  refine lv_aload_n hx hb d_Kp_clear_5 rfl (lv_at hl 0 rfl) ?_
  refine mw_get (v := .ref (ad 2)) (ci := 6) (C := R_Kp) (T := T_Kp) (N := 7) J i_Kp hK hP (mw_ov_is (i := 0) ho.1 (by decide) hc0) rfl 1 (by decide) (hts _ k_169) (fun _ h9 => h9) rfl d_Kp_clear_6 ?_
  refine mw_get (v := .int (nI L.length)) (ci := 1) (C := R_Tr) (T := T_Tr) (N := 3) J i_Tr hK hP (mw_ov_is (i := 2) ho.1 (by decide) hc2) rfl 2 (by decide) (hts _ k_49) (fun _ h9 => h9) rfl d_Kp_clear_9 ?_
  refine lv_icmp_ge (tgt := 59) hx hb d_Kp_clear_12 (by decide) (fun c_12 => ?_) (fun c_12 => ?_)
  · have c_12 : L.length ≤ i := (nI_leI (by omega) (by omega)).mp c_12
    have hie : i = L.length := by omega
    refine lv_aload_n hx hb d_Kp_clear_59 rfl (lv_at hl 0 rfl) ?_
    refine mw_get (v := .ref (ad 2)) (ci := 6) (C := R_Kp) (T := T_Kp) (N := 7) J i_Kp hK hP (mw_ov_is (i := 0) ho.1 (by decide) hc0) rfl 1 (by decide) (hts _ k_169) (fun _ h9 => h9) rfl d_Kp_clear_60 ?_
    refine lv_iconst (v := 0) hx hb d_Kp_clear_63 (by decide) ?_
    refine mw_top (x' := nI 0) nI_0.symm ?_
    refine mw_afterV hP hS hA (mw_runV (As := [.int (nI 0)]) (rest := []) J hK hZ hP hS hA (mw_ov_is (i := 2) ho.1 (by decide) hc2) rfl (c_Tr_cutTo l D cI cZ cP cR cC tS _ B ad (va_up cw 5 (.inl (cI, 1024, .inl w2))) pm L ho hpm (k_tr_5 ht) 0 (Nat.zero_le _)) (cwV 1 hts (mw_gV k_283 k_284 k_285 k_3 k_286) rfl rfl rfl (by decide +kernel) ⟨Nat.le_of_ble_eq_true rfl, Nat.le_of_ble_eq_true rfl⟩) rfl hl.1 rfl (Nat.le_of_ble_eq_true rfl) d_Kp_clear_64 ⟨Nat.le_of_ble_eq_true rfl, Nat.le_of_ble_eq_true rfl⟩) (fun M1 H locs hw hP hS => ?_)
    obtain ⟨c3, rfl, kt3, ho3⟩ := hw
    rw [List.take_zero] at kt3
    rw [hie, rk_rest_end (fun j hj => (hh.2.2 j).mpr (rk_lfp_said hj))] at hW2
    have hsv3 : ∃ cc u, k_sv cI cC B ad c3 ca cc u := by
      obtain ⟨cc, u, a1, a2, a3⟩ := hsv
      exact ⟨cc, u, (ho3 1 (by decide) (by decide) (by decide)).trans a1, (ho3 8 (by decide) (by decide) (by decide)).trans a2, a3⟩
    have hbl3 : ∀ d, d < 3 → k_blank cI ad c3 d := fun d hd => k_blank_same (k_blank_5 hbl d hd) (fun z hz => ho3 _ (by omega) (by omega) (by omega))
    refine lv_iload_n hx hb d_Kp_clear_67 rfl (lv_at hl 1 rfl) ?_
    exact mw_iret J hr hlk hP hS d_Kp_clear_68 (⟨⟨L, hh, by rw [hie, List.take_length]⟩, B, c3, [], rfl, fun _ _ h => h, ho, hfz, ⟨(ho3 0 (by decide) (by decide) (by decide)).trans hc0, kt3, hsv3, hbl3, ⟨w2, (ho3 5 (by decide) (by decide) (by decide)).trans rfl, hW2⟩, ⟨hrs12, fm, (ho3 6 (by decide) (by decide) (by decide)).trans hc6, hfm⟩, ⟨hdr4, fd, (ho3 7 (by decide) (by decide) (by decide)).trans hc7, hfd⟩⟩, rk_empty_holds (fun r hr => by obtain ⟨i, hi, rfl⟩ := rk_mem_rth hr; obtain ⟨_, _, _, hok⟩ := hfm i hi; exact hok.1), fun j hj => by cases hj⟩)
  · have c_12 : ¬ (L.length ≤ i) := fun z => c_12 ((nI_leI (by omega) (by omega)).mpr z)
    refine lv_aload_n hx hb d_Kp_clear_15 rfl (lv_at hl 0 rfl) ?_
    refine mw_get (v := .ref sm) (ci := 6) (C := R_Kp) (T := T_Kp) (N := 7) J i_Kp hK hP (mw_ov_is (i := 0) ho.1 (by decide) hc0) rfl 2 (by decide) (hts _ k_170) (fun _ h9 => h9) rfl d_Kp_clear_16 ?_
    refine lv_aload_n hx hb d_Kp_clear_19 rfl (lv_at hl 0 rfl) ?_
    refine mw_get (v := .ref (ad 2)) (ci := 6) (C := R_Kp) (T := T_Kp) (N := 7) J i_Kp hK hP (mw_ov_is (i := 0) ho.1 (by decide) hc0) rfl 1 (by decide) (hts _ k_169) (fun _ h9 => h9) rfl d_Kp_clear_20 ?_
    refine mw_get (v := .ref (ad 3)) (ci := 1) (C := R_Tr) (T := T_Tr) (N := 3) J i_Tr hK hP (mw_ov_is (i := 2) ho.1 (by decide) hc2) rfl 0 (by decide) (hts _ k_44) (fun _ h9 => h9) rfl d_Kp_clear_23 ?_
    refine lv_iload_n hx hb d_Kp_clear_26 rfl (lv_at hl 2 rfl) ?_
    refine mw_nald (k := i) J hK hP 0 (mw_ov_is (i := 3) ho.1 (by decide) hc3) rfl (by omega) (by decide) d_Kp_clear_27 ?_
    refine mw_top (x' := nI (L.getD i 0)) (by rw [hfc i (by omega)]) ?_
    refine mw_afterI hP hS hA (mw_runV (As := [.int (nI (L.getD i 0))]) (rest := []) J hK hZ hP hS hA (mw_ov_fr ho.2 hsm) rfl (c_Mk_has l D cI cZ cP cR cC tS _ (mw_ov B ad (va_up cw 5 (.inl (cI, 1024, .inl w2))) 21) sm (ad 5) w2 _ (L.getD i 0) (hlt _ (rk_getD_mem (by omega))) hW2 (mw_ov_fr ho.2 hsm) (mw_ov_is (i := 5) ho.1 (by decide) rfl)) (cwV 1 hts (mw_gV k_203 k_204 k_205 k_4 k_206) rfl rfl rfl (by decide +kernel) ⟨Nat.le_of_ble_eq_true rfl, Nat.le_of_ble_eq_true rfl⟩) rfl hl.1 rfl (Nat.le_of_ble_eq_true rfl) d_Kp_clear_28 ⟨Nat.le_of_ble_eq_true rfl, Nat.le_of_ble_eq_true rfl⟩) (fun r M1 H locs hw hP hS => ?_)
    obtain ⟨rfl, hr1⟩ := hw
    rw [show (said (L.getD i 0) && decide (L.getD i 0 ∉ L.take i)) = said (L.getD i 0) from rk_rest hnd (by omega)] at hr1
    refine lv_if_eq (tgt := 53) hx hb d_Kp_clear_31 (by decide) (fun c_31 => ?_) (fun c_31 => ?_)
    · have hs : said (L.getD i 0) = false := by
        cases z : said (L.getD i 0)
        · rfl
        · rw [hr1, if_pos z] at c_31
          exact absurd c_31 (by decide)
      refine lv_iinc (v := nI (i + 1)) (lv' := [(2, .int (nI (i + 1))), (0, .ref (ad 0)), (1, .int (nI (((L.take i).filter said).length)))]) hx hb d_Kp_clear_53 hl (k := 2) rfl (nI_1 i) (by decide) rfl (fun ls hl => ?_)
      refine lv_goto (tgt := 4) hx hb d_Kp_clear_56 (by decide) ?_
      exact ih_4 _ _ _ (by omega) ⟨w2, (by rw [rk_filt_f (by omega) hs]; exact lv_sub hl [1, 2, 0] rfl), (by rw [← rk_rest_f (by omega) hs]; exact hW2), hP, hS⟩
    · have hs : said (L.getD i 0) = true := by
        cases z : said (L.getD i 0)
        · exact absurd (by rw [hr1, z]; rfl) c_31
        · rfl
      refine lv_aload_n hx hb d_Kp_clear_34 rfl (lv_at hl 0 rfl) ?_
      refine mw_get (v := .ref sm) (ci := 6) (C := R_Kp) (T := T_Kp) (N := 7) J i_Kp hK hP (mw_ov_is (i := 0) ho.1 (by decide) hc0) rfl 2 (by decide) (hts _ k_170) (fun _ h9 => h9) rfl d_Kp_clear_35 ?_
      refine lv_aload_n hx hb d_Kp_clear_38 rfl (lv_at hl 0 rfl) ?_
      refine mw_get (v := .ref (ad 2)) (ci := 6) (C := R_Kp) (T := T_Kp) (N := 7) J i_Kp hK hP (mw_ov_is (i := 0) ho.1 (by decide) hc0) rfl 1 (by decide) (hts _ k_169) (fun _ h9 => h9) rfl d_Kp_clear_39 ?_
      refine mw_get (v := .ref (ad 3)) (ci := 1) (C := R_Tr) (T := T_Tr) (N := 3) J i_Tr hK hP (mw_ov_is (i := 2) ho.1 (by decide) hc2) rfl 0 (by decide) (hts _ k_44) (fun _ h9 => h9) rfl d_Kp_clear_42 ?_
      refine lv_iload_n hx hb d_Kp_clear_45 rfl (lv_at hl 2 rfl) ?_
      refine mw_nald (k := i) J hK hP 0 (mw_ov_is (i := 3) ho.1 (by decide) hc3) rfl (by omega) (by decide) d_Kp_clear_46 ?_
      refine mw_top (x' := nI (L.getD i 0)) (by rw [hfc i (by omega)]) ?_
      refine mw_afterV hP hS hA (mw_runV (As := [.int (nI (L.getD i 0))]) (rest := []) J hK hZ hP hS hA (mw_ov_fr ho.2 hsm) rfl (c_Mk_drop l D cI cZ cP cR cC tS _ (mw_ov B ad (va_up cw 5 (.inl (cI, 1024, .inl w2))) 21) sm (ad 5) w2 _ (L.getD i 0) (hlt _ (rk_getD_mem (by omega))) hW2 (mw_ov_fr ho.2 hsm) (mw_ov_is (i := 5) ho.1 (by decide) rfl)) (cwV 1 hts (mw_gV k_300 k_289 k_290 k_4 k_291) rfl rfl rfl (by decide +kernel) ⟨Nat.le_of_ble_eq_true rfl, Nat.le_of_ble_eq_true rfl⟩) rfl hl.1 rfl (Nat.le_of_ble_eq_true rfl) d_Kp_clear_47 ⟨Nat.le_of_ble_eq_true rfl, Nat.le_of_ble_eq_true rfl⟩) (fun M1 H locs hw hP hS => ?_)
      obtain ⟨w3, hW3, rfl⟩ := hw
      rw [mw_ov_set ho.1 (by decide), bx_uu] at hP
      refine lv_iinc (v := nI (((L.take (i + 1)).filter said).length)) (lv' := [(1, .int (nI (((L.take (i + 1)).filter said).length))), (0, .ref (ad 0)), (2, .int (nI i))]) hx hb d_Kp_clear_50 hl (k := 1) rfl (by rw [rk_filt_t (by omega) hs, List.length_append]; exact nI_1 _) (by decide) rfl (fun ls hl => ?_)
      refine lv_iinc (v := nI (i + 1)) (lv' := [(2, .int (nI (i + 1))), (1, .int (nI (((L.take (i + 1)).filter said).length))), (0, .ref (ad 0))]) hx hb d_Kp_clear_53 hl (k := 2) rfl (nI_1 i) (by decide) rfl (fun ls hl => ?_)
      refine lv_goto (tgt := 4) hx hb d_Kp_clear_56 (by decide) ?_
      exact ih_4 _ _ _ (by omega) ⟨w3, lv_sub hl [2, 1, 0] rfl, (by rw [← rk_rest_t (by omega)]; exact hW3), hP, hS⟩
