/-! the reference: say, unsay, holds, support, size, rules, next, fitting, clear, pattern -/
set_option maxHeartbeats 4000000 in
set_option maxRecDepth 100000 in
theorem c_Md_say (l : Launch) (D : va_G) (cI cZ cP cR cC : ClassId) (tS : Nat) (sz : Nat) (B : mw_M) (ad : Nat → Nat) (cw : Nat → va_E) (ho : m_ov B ad) (S : Nat → Bool) (rs : List rk_Ru) (dr : List rk_Pt) (L : List Nat) (hkp : m_kp cI cZ ad cw S rs dr L) (hh : rk_holds S rs L) (hsd : ∀ j, S j = true → j < 32768) (x y z : Int32) :
    Met l y_Md_say (.code y_Md_say b_Md_say 5 (some .int) :: gw) ({ frames := 4, cells := 0, slots := 0, locals := 98 }) (va_Pc [.ref (ad 0), .int x, .int y, .int z] (mw_B D k_cl (k_tys cI cZ cP cR cC) (k_g tS) (mw_ov B ad cw 12) sz)) (va_Qi (fun (r : Int32) (M1 : mw_M) => ∃ said1, sp_say S rs x y z r said1 ∧ m_ks cI cZ B ad said1 rs dr M1) (mw_E D k_cl (mw_ov B ad cw 12) sz) (mw_A (mw_ov B ad cw 12) sz)) 0 0 (mw_A (mw_ov B ad cw 12) sz) := by
  refine mw_met (by decide) rfl (Nat.le_of_ble_eq_true rfl) ?_
  intro p e s m below meth c hsz J hr hlk hnm hK hZ hP hS hA ls hl
  subst hsz
  have hx := J.1
  have hb := J.2.1
  have hts := J.2.2.2.2
  have hl : lv_has ls 5 [(0, .ref (ad 0)), (1, .int x), (2, .int y), (3, .int z)] := hl
  obtain ⟨h1, hrw, ⟨sp, h3, hsp⟩, ⟨it, bd, h5, h6, hru⟩, ⟨hdr4, df, h7, hdf⟩, hs8, q11, h11⟩ := id hkp
  obtain ⟨h0, ⟨rw0, h4, hrow⟩, ⟨Hd, h2, hHd⟩, hL3, hnd, hlt⟩ := id hrw
  have hr12 := hru.1
  obtain ⟨⟨vl, h8, hvl⟩, ⟨bn, h9⟩, pl, h10⟩ := id hs8
  refine lv_iload_n hx hb d_Md_say_0 rfl (lv_at hl 1 rfl) ?_
  refine mw_afterI hP hS hA (mw_runS (As := [.int x]) (rest := []) J hK hZ hP hS hA (c_Md_isNumber l D cI cZ cP cR cC tS _ (mw_ov B ad cw 12) x) (cwS 1 hts (mw_gS k_426 k_427 k_8 k_428) rfl rfl rfl (by decide +kernel) ⟨Nat.le_of_ble_eq_true rfl, Nat.le_of_ble_eq_true rfl⟩) rfl hl.1 rfl (Nat.le_of_ble_eq_true rfl) d_Md_say_1 ⟨Nat.le_of_ble_eq_true rfl, Nat.le_of_ble_eq_true rfl⟩) (fun r0 M1 H locs hw hP hS => ?_)
  obtain ⟨e1, hw0⟩ := hw
  subst e1
  refine lv_if_eq (tgt := 21) hx hb d_Md_say_4 (by decide) (fun c_4 => ?_) (fun c_4 => ?_)
  · have hno : ¬ ∃ k, rk_tri x y z k := fun ⟨k, h⟩ => by
      rcases hw0 with ⟨g, _⟩ | ⟨_, g⟩
      · rw [g] at c_4
        exact absurd c_4 (by decide)
      · exact g (rk_tri_1 h).1
    refine lv_iconst (v := (-1)) hx hb d_Md_say_21 (by decide) ?_
    exact mw_iret J hr hlk hP hS d_Md_say_22 (⟨S, Or.inl ⟨hno, rfl, rfl⟩, ⟨cw, L, rfl, ho, hkp, hh, hsd⟩⟩)
  · have hy0 := hw0.resolve_right (fun g => c_4 g.1)
    refine lv_iload_n hx hb d_Md_say_7 rfl (lv_at hl 2 rfl) ?_
    refine mw_afterI hP hS hA (mw_runS (As := [.int y]) (rest := []) J hK hZ hP hS hA (c_Md_isNumber l D cI cZ cP cR cC tS _ (mw_ov B ad cw 12) y) (cwS 1 hts (mw_gS k_426 k_427 k_8 k_428) rfl rfl rfl (by decide +kernel) ⟨Nat.le_of_ble_eq_true rfl, Nat.le_of_ble_eq_true rfl⟩) rfl hl.1 rfl (Nat.le_of_ble_eq_true rfl) d_Md_say_8 ⟨Nat.le_of_ble_eq_true rfl, Nat.le_of_ble_eq_true rfl⟩) (fun r1 M1 H locs hw hP hS => ?_)
    obtain ⟨e1, hw1⟩ := hw
    subst e1
    refine lv_if_eq (tgt := 21) hx hb d_Md_say_11 (by decide) (fun c_11 => ?_) (fun c_11 => ?_)
    · have hno : ¬ ∃ k, rk_tri x y z k := fun ⟨k, h⟩ => by
        rcases hw1 with ⟨g, _⟩ | ⟨_, g⟩
        · rw [g] at c_11
          exact absurd c_11 (by decide)
        · exact g (rk_tri_1 h).2.1
      refine lv_iconst (v := (-1)) hx hb d_Md_say_21 (by decide) ?_
      exact mw_iret J hr hlk hP hS d_Md_say_22 (⟨S, Or.inl ⟨hno, rfl, rfl⟩, ⟨cw, L, rfl, ho, hkp, hh, hsd⟩⟩)
    · have hy1 := hw1.resolve_right (fun g => c_11 g.1)
      refine lv_iload_n hx hb d_Md_say_14 rfl (lv_at hl 3 rfl) ?_
      refine mw_afterI hP hS hA (mw_runS (As := [.int z]) (rest := []) J hK hZ hP hS hA (c_Md_isNumber l D cI cZ cP cR cC tS _ (mw_ov B ad cw 12) z) (cwS 1 hts (mw_gS k_426 k_427 k_8 k_428) rfl rfl rfl (by decide +kernel) ⟨Nat.le_of_ble_eq_true rfl, Nat.le_of_ble_eq_true rfl⟩) rfl hl.1 rfl (Nat.le_of_ble_eq_true rfl) d_Md_say_15 ⟨Nat.le_of_ble_eq_true rfl, Nat.le_of_ble_eq_true rfl⟩) (fun r2 M1 H locs hw hP hS => ?_)
      obtain ⟨e1, hw2⟩ := hw
      subst e1
      refine lv_if_ne (tgt := 23) hx hb d_Md_say_18 (by decide) (fun c_18 => ?_) (fun c_18 => ?_)
      · have hy2 := hw2.resolve_right (fun g => c_18 g.1)
        obtain ⟨k, htri⟩ := rk_tri_of hy0.2 hy1.2 hy2.2
        have hk := rk_tri_lt htri
        refine lv_iload_n hx hb d_Md_say_23 rfl (lv_at hl 1 rfl) ?_
        refine lv_iload_n hx hb d_Md_say_24 rfl (lv_at hl 2 rfl) ?_
        refine lv_iload_n hx hb d_Md_say_25 rfl (lv_at hl 3 rfl) ?_
        refine mw_afterI hP hS hA (mw_runS (As := [.int x, .int y, .int z]) (rest := []) J hK hZ hP hS hA (c_Md_code l D cI cZ cP cR cC tS _ (mw_ov B ad cw 12) x y z k htri) (cwS 3 hts (mw_gS k_429 k_430 k_8 k_431) rfl rfl rfl (by decide +kernel) ⟨Nat.le_of_ble_eq_true rfl, Nat.le_of_ble_eq_true rfl⟩) rfl hl.1 rfl (Nat.le_of_ble_eq_true rfl) d_Md_say_26 ⟨Nat.le_of_ble_eq_true rfl, Nat.le_of_ble_eq_true rfl⟩) (fun rc M1 H locs hw hP hS => ?_)
        obtain ⟨rfl, rfl⟩ := hw
        refine lv_istore (lv' := [(4, .int (nI k)), (0, .ref (ad 0)), (1, .int x), (2, .int y), (3, .int z)]) hx hb d_Md_say_29 hl (by decide) rfl (fun ls hl => ?_)
        refine lv_aload_n hx hb d_Md_say_31 rfl (lv_at hl 1 rfl) ?_
        refine mw_get (v := .ref (ad 1)) (ci := 7) (C := R_Md) (T := T_Md) (N := 14) J i_Md hK hP (mw_ov_is (i := 0) ho.1 (by decide) h0) rfl 0 (by decide) (hts _ k_378) (fun _ h9 => h9) rfl d_Md_say_32 ?_
        refine lv_iload hx hb d_Md_say_35 (lv_at hl 0 rfl) ?_
        refine mw_bald (k := k) J hK hP 1 (mw_ov_is (i := 1) ho.1 (by decide) h1) rfl hk (by decide) d_Md_say_37 ?_
        refine lv_if_eq (tgt := 43) hx hb d_Md_say_38 (by decide) (fun c_38 => ?_) (fun c_38 => ?_)
        · have hs : S k = false := by
            cases z : S k
            · rfl
            · rw [if_pos z] at c_38
              exact absurd c_38 (by decide)
          refine lv_aload_n hx hb d_Md_say_43 rfl (lv_at hl 1 rfl) ?_
          refine mw_get (v := .ref (ad 1)) (ci := 7) (C := R_Md) (T := T_Md) (N := 14) J i_Md hK hP (mw_ov_is (i := 0) ho.1 (by decide) h0) rfl 0 (by decide) (hts _ k_378) (fun _ h9 => h9) rfl d_Md_say_44 ?_
          refine lv_iload hx hb d_Md_say_47 (lv_at hl 0 rfl) ?_
          refine lv_iconst (v := 1) hx hb d_Md_say_49 (by decide) ?_
          refine mw_bast (k := k) (b := true) J hK hP hS 1 (by decide) (mw_ov_is (i := 1) ho.1 (by decide) h1) rfl hk (by decide) d_Md_say_50 (fun H locs hP hS => ?_)
          rw [mw_ov_set ho.1 (by decide)] at hP
          have hP : mw_P D k_cl (mw_ov B ad (va_up cw 1 (.inl (cZ, 32768, .inl (rk_bf (va_up S k true))))) 12) _ H := hP
          refine lv_aload_n hx hb d_Md_say_51 rfl (lv_at hl 1 rfl) ?_
          refine mw_afterI hP hS hA (mw_runV (As := []) (rest := []) J hK hZ hP hS hA (mw_ov_is (i := 0) ho.1 (by decide) h0) rfl (c_Md_reckon l D cI cZ cP cR cC tS _ B ad (va_up cw 1 (.inl (cZ, 32768, .inl (rk_bf (va_up S k true))))) ho (va_up S k true) rs L.length dr.length h0 rfl Hd h2 sp h3 rw0 h4 it bd h5 h6 hru (m_s8_s hs8 rfl rfl rfl) (rk_up_lt hsd hk) ) (cwV 0 hts (mw_gV k_432 k_434 s_Md_reckon k_8 k_435) rfl rfl rfl (by decide +kernel) ⟨Nat.le_of_ble_eq_true rfl, Nat.le_of_ble_eq_true rfl⟩) rfl hl.1 rfl (Nat.le_of_ble_eq_true rfl) d_Md_say_52 ⟨Nat.le_of_ble_eq_true rfl, Nat.le_of_ble_eq_true rfl⟩) (fun r5 M1 H locs hw hP hS => ?_)
          obtain ⟨c2, L2, s2, rfl, h2o, h2s, h2r, h23, hcs2⟩ := hw
          obtain ⟨h20, ⟨rw2, h24, -⟩, ⟨Hd2, h22, -⟩, -⟩ := id h2r
          refine lv_if_eq (tgt := 60) hx hb d_Md_say_55 (by decide) (fun c_55 => ?_) (fun c_55 => ?_)
          · have hmu := (hcs2.resolve_left (fun g => by rw [g.1] at c_55; exact absurd c_55 (by decide))).2
            refine lv_aload_n hx hb d_Md_say_60 rfl (lv_at hl 1 rfl) ?_
            refine mw_get (v := .ref (ad 1)) (ci := 7) (C := R_Md) (T := T_Md) (N := 14) J i_Md hK hP (mw_ov_is (i := 0) ho.1 (by decide) h20) rfl 0 (by decide) (hts _ k_378) (fun _ h9 => h9) rfl d_Md_say_61 ?_
            refine lv_iload hx hb d_Md_say_64 (lv_at hl 0 rfl) ?_
            refine lv_iconst (v := 0) hx hb d_Md_say_66 (by decide) ?_
            refine mw_bast (k := k) (b := false) J hK hP hS 1 (by decide) (mw_ov_is (i := 1) ho.1 (by decide) ((h2o 1 (by decide) (by decide) (by decide) (by decide) (by decide) (by decide) (by decide)).trans rfl)) rfl hk (by decide) d_Md_say_67 (fun H locs hP hS => ?_)
            rw [mw_ov_set ho.1 (by decide)] at hP
            have hP : mw_P D k_cl (mw_ov B ad (va_up c2 1 (.inl (cZ, 32768, .inl (rk_bf (va_up (va_up S k true) k false))))) 12) _ H := hP
            refine lv_aload_n hx hb d_Md_say_68 rfl (lv_at hl 1 rfl) ?_
            refine mw_afterI hP hS hA (mw_runV (As := []) (rest := []) J hK hZ hP hS hA (mw_ov_is (i := 0) ho.1 (by decide) h20) rfl (c_Md_reckon l D cI cZ cP cR cC tS _ B ad (va_up c2 1 (.inl (cZ, 32768, .inl (rk_bf (va_up (va_up S k true) k false))))) ho (va_up (va_up S k true) k false) rs L2.length dr.length h20 rfl Hd2 h22 s2 h23 rw2 h24 it bd ((h2o 5 (by decide) (by decide) (by decide) (by decide) (by decide) (by decide) (by decide)).trans h5) ((h2o 6 (by decide) (by decide) (by decide) (by decide) (by decide) (by decide) (by decide)).trans h6) hru (m_s8_s h2s rfl rfl rfl) (by rw [rk_up_back hs]; exact hsd) ) (cwV 0 hts (mw_gV k_432 k_434 s_Md_reckon k_8 k_435) rfl rfl rfl (by decide +kernel) ⟨Nat.le_of_ble_eq_true rfl, Nat.le_of_ble_eq_true rfl⟩) rfl hl.1 rfl (Nat.le_of_ble_eq_true rfl) d_Md_say_69 ⟨Nat.le_of_ble_eq_true rfl, Nat.le_of_ble_eq_true rfl⟩) (fun r6 M1 H locs hw hP hS => ?_)
            obtain ⟨c3, L3, s3, rfl, h3o, h3s, h3r, h33, hcs3⟩ := hw
            obtain ⟨h30, ⟨rw3, h34, -⟩, ⟨Hd3, h32, -⟩, -⟩ := id h3r
            rw [rk_up_back hs] at hcs3
            have hgood := (hcs3.resolve_right (fun g => rk_not_much hh g.2)).2
            refine lv_pop hx hb d_Md_say_72 rfl ?_
            have hk31 : c3 1 = .inl (cZ, 32768, .inl (rk_bf S)) := by rw [(h3o 1 (by decide) (by decide) (by decide) (by decide) (by decide) (by decide) (by decide))]; show va_up c2 1 _ 1 = _; rw [va_up_self, rk_up_back hs]
            refine lv_bipush (v := (-3)) hx hb d_Md_say_73 (by decide) ?_
            exact mw_iret J hr hlk hP hS d_Md_say_75 (⟨S, Or.inr ⟨k, htri, Or.inr (Or.inr ⟨hs, rfl, rfl, hmu⟩)⟩, c3, L3, rfl, ho, ⟨hk31, h3r, ⟨s3, h33, hgood.2⟩, ⟨it, bd, ((h3o 5 (by decide) (by decide) (by decide) (by decide) (by decide) (by decide) (by decide)).trans (h2o 5 (by decide) (by decide) (by decide) (by decide) (by decide) (by decide) (by decide))).trans h5, ((h3o 6 (by decide) (by decide) (by decide) (by decide) (by decide) (by decide) (by decide)).trans (h2o 6 (by decide) (by decide) (by decide) (by decide) (by decide) (by decide) (by decide))).trans h6, hru⟩, ⟨hdr4, df, ((h3o 7 (by decide) (by decide) (by decide) (by decide) (by decide) (by decide) (by decide)).trans (h2o 7 (by decide) (by decide) (by decide) (by decide) (by decide) (by decide) (by decide))).trans h7, hdf⟩, h3s, q11, ((h3o 11 (by decide) (by decide) (by decide) (by decide) (by decide) (by decide) (by decide)).trans (h2o 11 (by decide) (by decide) (by decide) (by decide) (by decide) (by decide) (by decide))).trans h11⟩, hgood.1, hsd⟩)
          · have hgood := (hcs2.resolve_right (fun g => c_55 g.1)).2
            refine lv_iconst (v := 1) hx hb d_Md_say_58 (by decide) ?_
            exact mw_iret J hr hlk hP hS d_Md_say_59 (⟨va_up S k true, Or.inr ⟨k, htri, Or.inr (Or.inl ⟨hs, rfl, rfl, rk_not_much hgood.1⟩)⟩, c2, L2, rfl, ho, ⟨(h2o 1 (by decide) (by decide) (by decide) (by decide) (by decide) (by decide) (by decide)).trans rfl, h2r, ⟨s2, h23, hgood.2⟩, ⟨it, bd, (h2o 5 (by decide) (by decide) (by decide) (by decide) (by decide) (by decide) (by decide)).trans h5, (h2o 6 (by decide) (by decide) (by decide) (by decide) (by decide) (by decide) (by decide)).trans h6, hru⟩, ⟨hdr4, df, (h2o 7 (by decide) (by decide) (by decide) (by decide) (by decide) (by decide) (by decide)).trans h7, hdf⟩, h2s, q11, (h2o 11 (by decide) (by decide) (by decide) (by decide) (by decide) (by decide) (by decide)).trans h11⟩, hgood.1, rk_up_lt hsd hk⟩)
        · have hs : S k = true := by
            cases z : S k
            · exact absurd (if_neg (by rw [z]; decide)) c_38
            · rfl
          refine lv_iconst (v := 0) hx hb d_Md_say_41 (by decide) ?_
          exact mw_iret J hr hlk hP hS d_Md_say_42 (⟨S, Or.inr ⟨k, htri, Or.inl ⟨hs, rfl, rfl⟩⟩, ⟨cw, L, rfl, ho, hkp, hh, hsd⟩⟩)
      · have hno : ¬ ∃ k, rk_tri x y z k := fun ⟨k, h⟩ => by
          rcases hw2 with ⟨g, _⟩ | ⟨_, g⟩
          · rw [g] at c_18
            exact absurd c_18 (by decide)
          · exact g (rk_tri_1 h).2.2
        refine lv_iconst (v := (-1)) hx hb d_Md_say_21 (by decide) ?_
        exact mw_iret J hr hlk hP hS d_Md_say_22 (⟨S, Or.inl ⟨hno, rfl, rfl⟩, ⟨cw, L, rfl, ho, hkp, hh, hsd⟩⟩)

theorem rk_much_le {S T : Nat → Bool} {rs : List rk_Ru} (h : ∀ j, S j = true → T j = true) (hm : rk_much S rs) : rk_much T rs := by
  obtain ⟨L, h1, h2, h3⟩ := hm
  exact ⟨L, h1, h2, fun k hk => rk_lfp_mono h (fun _ g => g) (h3 k hk)⟩
set_option maxHeartbeats 4000000 in
set_option maxRecDepth 100000 in
theorem c_Md_unsay (l : Launch) (D : va_G) (cI cZ cP cR cC : ClassId) (tS : Nat) (sz : Nat) (B : mw_M) (ad : Nat → Nat) (cw : Nat → va_E) (ho : m_ov B ad) (S : Nat → Bool) (rs : List rk_Ru) (dr : List rk_Pt) (L : List Nat) (hkp : m_kp cI cZ ad cw S rs dr L) (hh : rk_holds S rs L) (hsd : ∀ j, S j = true → j < 32768) (x y z : Int32) :
    Met l y_Md_unsay (.code y_Md_unsay b_Md_unsay 5 (some .int) :: gw) ({ frames := 4, cells := 0, slots := 0, locals := 98 }) (va_Pc [.ref (ad 0), .int x, .int y, .int z] (mw_B D k_cl (k_tys cI cZ cP cR cC) (k_g tS) (mw_ov B ad cw 12) sz)) (va_Qi (fun (r : Int32) (M1 : mw_M) => ∃ said1, sp_unsay S x y z r said1 ∧ m_ks cI cZ B ad said1 rs dr M1) (mw_E D k_cl (mw_ov B ad cw 12) sz) (mw_A (mw_ov B ad cw 12) sz)) 0 0 (mw_A (mw_ov B ad cw 12) sz) := by
  refine mw_met (by decide) rfl (Nat.le_of_ble_eq_true rfl) ?_
  intro p e s m below meth c hsz J hr hlk hnm hK hZ hP hS hA ls hl
  subst hsz
  have hx := J.1
  have hb := J.2.1
  have hts := J.2.2.2.2
  have hl : lv_has ls 5 [(0, .ref (ad 0)), (1, .int x), (2, .int y), (3, .int z)] := hl
  obtain ⟨h1, hrw, ⟨sp, h3, hsp⟩, ⟨it, bd, h5, h6, hru⟩, ⟨hdr4, df, h7, hdf⟩, hs8, q11, h11⟩ := id hkp
  obtain ⟨h0, ⟨rw0, h4, hrow⟩, ⟨Hd, h2, hHd⟩, hL3, hnd, hlt⟩ := id hrw
  have hr12 := hru.1
  obtain ⟨⟨vl, h8, hvl⟩, ⟨bn, h9⟩, pl, h10⟩ := id hs8
  refine lv_iload_n hx hb d_Md_unsay_0 rfl (lv_at hl 1 rfl) ?_
  refine mw_afterI hP hS hA (mw_runS (As := [.int x]) (rest := []) J hK hZ hP hS hA (c_Md_isNumber l D cI cZ cP cR cC tS _ (mw_ov B ad cw 12) x) (cwS 1 hts (mw_gS k_426 k_427 k_8 k_428) rfl rfl rfl (by decide +kernel) ⟨Nat.le_of_ble_eq_true rfl, Nat.le_of_ble_eq_true rfl⟩) rfl hl.1 rfl (Nat.le_of_ble_eq_true rfl) d_Md_unsay_1 ⟨Nat.le_of_ble_eq_true rfl, Nat.le_of_ble_eq_true rfl⟩) (fun r0 M1 H locs hw hP hS => ?_)
  obtain ⟨e1, hw0⟩ := hw
  subst e1
  refine lv_if_eq (tgt := 21) hx hb d_Md_unsay_4 (by decide) (fun c_4 => ?_) (fun c_4 => ?_)
  · have hno : ¬ ∃ k, rk_tri x y z k := fun ⟨k, h⟩ => by
      rcases hw0 with ⟨g, _⟩ | ⟨_, g⟩
      · rw [g] at c_4
        exact absurd c_4 (by decide)
      · exact g (rk_tri_1 h).1
    refine lv_iconst (v := (-1)) hx hb d_Md_unsay_21 (by decide) ?_
    exact mw_iret J hr hlk hP hS d_Md_unsay_22 (⟨S, Or.inl ⟨hno, rfl, rfl⟩, ⟨cw, L, rfl, ho, hkp, hh, hsd⟩⟩)
  · have hy0 := hw0.resolve_right (fun g => c_4 g.1)
    refine lv_iload_n hx hb d_Md_unsay_7 rfl (lv_at hl 2 rfl) ?_
    refine mw_afterI hP hS hA (mw_runS (As := [.int y]) (rest := []) J hK hZ hP hS hA (c_Md_isNumber l D cI cZ cP cR cC tS _ (mw_ov B ad cw 12) y) (cwS 1 hts (mw_gS k_426 k_427 k_8 k_428) rfl rfl rfl (by decide +kernel) ⟨Nat.le_of_ble_eq_true rfl, Nat.le_of_ble_eq_true rfl⟩) rfl hl.1 rfl (Nat.le_of_ble_eq_true rfl) d_Md_unsay_8 ⟨Nat.le_of_ble_eq_true rfl, Nat.le_of_ble_eq_true rfl⟩) (fun r1 M1 H locs hw hP hS => ?_)
    obtain ⟨e1, hw1⟩ := hw
    subst e1
    refine lv_if_eq (tgt := 21) hx hb d_Md_unsay_11 (by decide) (fun c_11 => ?_) (fun c_11 => ?_)
    · have hno : ¬ ∃ k, rk_tri x y z k := fun ⟨k, h⟩ => by
        rcases hw1 with ⟨g, _⟩ | ⟨_, g⟩
        · rw [g] at c_11
          exact absurd c_11 (by decide)
        · exact g (rk_tri_1 h).2.1
      refine lv_iconst (v := (-1)) hx hb d_Md_unsay_21 (by decide) ?_
      exact mw_iret J hr hlk hP hS d_Md_unsay_22 (⟨S, Or.inl ⟨hno, rfl, rfl⟩, ⟨cw, L, rfl, ho, hkp, hh, hsd⟩⟩)
    · have hy1 := hw1.resolve_right (fun g => c_11 g.1)
      refine lv_iload_n hx hb d_Md_unsay_14 rfl (lv_at hl 3 rfl) ?_
      refine mw_afterI hP hS hA (mw_runS (As := [.int z]) (rest := []) J hK hZ hP hS hA (c_Md_isNumber l D cI cZ cP cR cC tS _ (mw_ov B ad cw 12) z) (cwS 1 hts (mw_gS k_426 k_427 k_8 k_428) rfl rfl rfl (by decide +kernel) ⟨Nat.le_of_ble_eq_true rfl, Nat.le_of_ble_eq_true rfl⟩) rfl hl.1 rfl (Nat.le_of_ble_eq_true rfl) d_Md_unsay_15 ⟨Nat.le_of_ble_eq_true rfl, Nat.le_of_ble_eq_true rfl⟩) (fun r2 M1 H locs hw hP hS => ?_)
      obtain ⟨e1, hw2⟩ := hw
      subst e1
      refine lv_if_ne (tgt := 23) hx hb d_Md_unsay_18 (by decide) (fun c_18 => ?_) (fun c_18 => ?_)
      · have hy2 := hw2.resolve_right (fun g => c_18 g.1)
        obtain ⟨k, htri⟩ := rk_tri_of hy0.2 hy1.2 hy2.2
        have hk := rk_tri_lt htri
        refine lv_iload_n hx hb d_Md_unsay_23 rfl (lv_at hl 1 rfl) ?_
        refine lv_iload_n hx hb d_Md_unsay_24 rfl (lv_at hl 2 rfl) ?_
        refine lv_iload_n hx hb d_Md_unsay_25 rfl (lv_at hl 3 rfl) ?_
        refine mw_afterI hP hS hA (mw_runS (As := [.int x, .int y, .int z]) (rest := []) J hK hZ hP hS hA (c_Md_code l D cI cZ cP cR cC tS _ (mw_ov B ad cw 12) x y z k htri) (cwS 3 hts (mw_gS k_429 k_430 k_8 k_431) rfl rfl rfl (by decide +kernel) ⟨Nat.le_of_ble_eq_true rfl, Nat.le_of_ble_eq_true rfl⟩) rfl hl.1 rfl (Nat.le_of_ble_eq_true rfl) d_Md_unsay_26 ⟨Nat.le_of_ble_eq_true rfl, Nat.le_of_ble_eq_true rfl⟩) (fun rc M1 H locs hw hP hS => ?_)
        obtain ⟨rfl, rfl⟩ := hw
        refine lv_istore (lv' := [(4, .int (nI k)), (0, .ref (ad 0)), (1, .int x), (2, .int y), (3, .int z)]) hx hb d_Md_unsay_29 hl (by decide) rfl (fun ls hl => ?_)
        refine lv_aload_n hx hb d_Md_unsay_31 rfl (lv_at hl 1 rfl) ?_
        refine mw_get (v := .ref (ad 1)) (ci := 7) (C := R_Md) (T := T_Md) (N := 14) J i_Md hK hP (mw_ov_is (i := 0) ho.1 (by decide) h0) rfl 0 (by decide) (hts _ k_378) (fun _ h9 => h9) rfl d_Md_unsay_32 ?_
        refine lv_iload hx hb d_Md_unsay_35 (lv_at hl 0 rfl) ?_
        refine mw_bald (k := k) J hK hP 1 (mw_ov_is (i := 1) ho.1 (by decide) h1) rfl hk (by decide) d_Md_unsay_37 ?_
        refine lv_if_ne (tgt := 43) hx hb d_Md_unsay_38 (by decide) (fun c_38 => ?_) (fun c_38 => ?_)
        · have hs : S k = true := by
            cases z : S k
            · exact absurd (if_neg (by rw [z]; decide)) c_38
            · rfl
          have hsd2 : ∀ j, va_up S k false j = true → j < 32768 := fun j hj => hsd j (rk_dn_le j hj)
          refine lv_aload_n hx hb d_Md_unsay_43 rfl (lv_at hl 1 rfl) ?_
          refine mw_get (v := .ref (ad 1)) (ci := 7) (C := R_Md) (T := T_Md) (N := 14) J i_Md hK hP (mw_ov_is (i := 0) ho.1 (by decide) h0) rfl 0 (by decide) (hts _ k_378) (fun _ h9 => h9) rfl d_Md_unsay_44 ?_
          refine lv_iload hx hb d_Md_unsay_47 (lv_at hl 0 rfl) ?_
          refine lv_iconst (v := 0) hx hb d_Md_unsay_49 (by decide) ?_
          refine mw_bast (k := k) (b := false) J hK hP hS 1 (by decide) (mw_ov_is (i := 1) ho.1 (by decide) h1) rfl hk (by decide) d_Md_unsay_50 (fun H locs hP hS => ?_)
          rw [mw_ov_set ho.1 (by decide)] at hP
          have hP : mw_P D k_cl (mw_ov B ad (va_up cw 1 (.inl (cZ, 32768, .inl (rk_bf (va_up S k false))))) 12) _ H := hP
          refine lv_aload_n hx hb d_Md_unsay_51 rfl (lv_at hl 1 rfl) ?_
          refine mw_afterI hP hS hA (mw_runV (As := []) (rest := []) J hK hZ hP hS hA (mw_ov_is (i := 0) ho.1 (by decide) h0) rfl (c_Md_reckon l D cI cZ cP cR cC tS _ B ad (va_up cw 1 (.inl (cZ, 32768, .inl (rk_bf (va_up S k false))))) ho (va_up S k false) rs L.length dr.length h0 rfl Hd h2 sp h3 rw0 h4 it bd h5 h6 hru (m_s8_s hs8 rfl rfl rfl) hsd2 ) (cwV 0 hts (mw_gV k_432 k_434 s_Md_reckon k_8 k_435) rfl rfl rfl (by decide +kernel) ⟨Nat.le_of_ble_eq_true rfl, Nat.le_of_ble_eq_true rfl⟩) rfl hl.1 rfl (Nat.le_of_ble_eq_true rfl) d_Md_unsay_52 ⟨Nat.le_of_ble_eq_true rfl, Nat.le_of_ble_eq_true rfl⟩) (fun r5 M1 H locs hw hP hS => ?_)
          obtain ⟨c2, L2, s2, rfl, h2o, h2s, h2r, h23, hcs2⟩ := hw
          obtain ⟨h20, ⟨rw2, h24, -⟩, ⟨Hd2, h22, -⟩, -⟩ := id h2r
          have hgood := (hcs2.resolve_right (fun g => rk_not_much hh (rk_much_le rk_dn_le g.2))).2
          refine lv_pop hx hb d_Md_unsay_55 rfl ?_
          refine lv_iconst (v := 1) hx hb d_Md_unsay_56 (by decide) ?_
          exact mw_iret J hr hlk hP hS d_Md_unsay_57 (⟨va_up S k false, Or.inr ⟨k, htri, Or.inr ⟨hs, rfl, rfl⟩⟩, c2, L2, rfl, ho, ⟨(h2o 1 (by decide) (by decide) (by decide) (by decide) (by decide) (by decide) (by decide)).trans rfl, h2r, ⟨s2, h23, hgood.2⟩, ⟨it, bd, (h2o 5 (by decide) (by decide) (by decide) (by decide) (by decide) (by decide) (by decide)).trans h5, (h2o 6 (by decide) (by decide) (by decide) (by decide) (by decide) (by decide) (by decide)).trans h6, hru⟩, ⟨hdr4, df, (h2o 7 (by decide) (by decide) (by decide) (by decide) (by decide) (by decide) (by decide)).trans h7, hdf⟩, h2s, q11, (h2o 11 (by decide) (by decide) (by decide) (by decide) (by decide) (by decide) (by decide)).trans h11⟩, hgood.1, hsd2⟩)
        · have hs : S k = false := by
            cases z : S k
            · rfl
            · rw [if_pos z] at c_38
              exact absurd c_38 (by decide)
          refine lv_iconst (v := 0) hx hb d_Md_unsay_41 (by decide) ?_
          exact mw_iret J hr hlk hP hS d_Md_unsay_42 (⟨S, Or.inr ⟨k, htri, Or.inl ⟨hs, rfl, rfl⟩⟩, ⟨cw, L, rfl, ho, hkp, hh, hsd⟩⟩)
      · have hno : ¬ ∃ k, rk_tri x y z k := fun ⟨k, h⟩ => by
          rcases hw2 with ⟨g, _⟩ | ⟨_, g⟩
          · rw [g] at c_18
            exact absurd c_18 (by decide)
          · exact g (rk_tri_1 h).2.2
        refine lv_iconst (v := (-1)) hx hb d_Md_unsay_21 (by decide) ?_
        exact mw_iret J hr hlk hP hS d_Md_unsay_22 (⟨S, Or.inl ⟨hno, rfl, rfl⟩, ⟨cw, L, rfl, ho, hkp, hh, hsd⟩⟩)

set_option maxHeartbeats 4000000 in
set_option maxRecDepth 100000 in
theorem c_Md_holds (l : Launch) (D : va_G) (cI cZ cP cR cC : ClassId) (tS : Nat) (sz : Nat) (B : mw_M) (ad : Nat → Nat) (cw : Nat → va_E) (ho : m_ov B ad) (S : Nat → Bool) (rs : List rk_Ru) (dr : List rk_Pt) (L : List Nat) (hkp : m_kp cI cZ ad cw S rs dr L) (hh : rk_holds S rs L) (hsd : ∀ j, S j = true → j < 32768) (x y z : Int32) :
    Met l y_Md_holds (.code y_Md_holds b_Md_holds 5 (some .int) :: gw) ({ frames := 1, cells := 0, slots := 0, locals := 22 }) (va_Pc [.ref (ad 0), .int x, .int y, .int z] (mw_B D k_cl (k_tys cI cZ cP cR cC) (k_g tS) (mw_ov B ad cw 12) sz)) (va_Qi (fun (r : Int32) (M1 : mw_M) => sp_holds S rs x y z r ∧ m_ks cI cZ B ad S rs dr M1) (mw_E D k_cl (mw_ov B ad cw 12) sz) (mw_A (mw_ov B ad cw 12) sz)) 0 0 (mw_A (mw_ov B ad cw 12) sz) := by
  refine mw_met (by decide) rfl (Nat.le_of_ble_eq_true rfl) ?_
  intro p e s m below meth c hsz J hr hlk hnm hK hZ hP hS hA ls hl
  subst hsz
  have hx := J.1
  have hb := J.2.1
  have hts := J.2.2.2.2
  have hl : lv_has ls 5 [(0, .ref (ad 0)), (1, .int x), (2, .int y), (3, .int z)] := hl
  obtain ⟨h1, hrw, ⟨sp, h3, hsp⟩, ⟨it, bd, h5, h6, hru⟩, ⟨hdr4, df, h7, hdf⟩, hs8, q11, h11⟩ := id hkp
  obtain ⟨h0, ⟨rw0, h4, hrow⟩, ⟨Hd, h2, hHd⟩, hL3, hnd, hlt⟩ := id hrw
  have hr12 := hru.1
  obtain ⟨⟨vl, h8, hvl⟩, ⟨bn, h9⟩, pl, h10⟩ := id hs8
  refine lv_iload_n hx hb d_Md_holds_0 rfl (lv_at hl 1 rfl) ?_
  refine mw_afterI hP hS hA (mw_runS (As := [.int x]) (rest := []) J hK hZ hP hS hA (c_Md_isNumber l D cI cZ cP cR cC tS _ (mw_ov B ad cw 12) x) (cwS 1 hts (mw_gS k_426 k_427 k_8 k_428) rfl rfl rfl (by decide +kernel) ⟨Nat.le_of_ble_eq_true rfl, Nat.le_of_ble_eq_true rfl⟩) rfl hl.1 rfl (Nat.le_of_ble_eq_true rfl) d_Md_holds_1 ⟨Nat.le_of_ble_eq_true rfl, Nat.le_of_ble_eq_true rfl⟩) (fun r0 M1 H locs hw hP hS => ?_)
  obtain ⟨e1, hw0⟩ := hw
  subst e1
  refine lv_if_eq (tgt := 21) hx hb d_Md_holds_4 (by decide) (fun c_4 => ?_) (fun c_4 => ?_)
  · have hno : ¬ ∃ k, rk_tri x y z k := fun ⟨k, h⟩ => by
      rcases hw0 with ⟨g, _⟩ | ⟨_, g⟩
      · rw [g] at c_4
        exact absurd c_4 (by decide)
      · exact g (rk_tri_1 h).1
    refine lv_iconst (v := (-1)) hx hb d_Md_holds_21 (by decide) ?_
    exact mw_iret J hr hlk hP hS d_Md_holds_22 (⟨Or.inl ⟨hno, rfl⟩, ⟨cw, L, rfl, ho, hkp, hh, hsd⟩⟩)
  · have hy0 := hw0.resolve_right (fun g => c_4 g.1)
    refine lv_iload_n hx hb d_Md_holds_7 rfl (lv_at hl 2 rfl) ?_
    refine mw_afterI hP hS hA (mw_runS (As := [.int y]) (rest := []) J hK hZ hP hS hA (c_Md_isNumber l D cI cZ cP cR cC tS _ (mw_ov B ad cw 12) y) (cwS 1 hts (mw_gS k_426 k_427 k_8 k_428) rfl rfl rfl (by decide +kernel) ⟨Nat.le_of_ble_eq_true rfl, Nat.le_of_ble_eq_true rfl⟩) rfl hl.1 rfl (Nat.le_of_ble_eq_true rfl) d_Md_holds_8 ⟨Nat.le_of_ble_eq_true rfl, Nat.le_of_ble_eq_true rfl⟩) (fun r1 M1 H locs hw hP hS => ?_)
    obtain ⟨e1, hw1⟩ := hw
    subst e1
    refine lv_if_eq (tgt := 21) hx hb d_Md_holds_11 (by decide) (fun c_11 => ?_) (fun c_11 => ?_)
    · have hno : ¬ ∃ k, rk_tri x y z k := fun ⟨k, h⟩ => by
        rcases hw1 with ⟨g, _⟩ | ⟨_, g⟩
        · rw [g] at c_11
          exact absurd c_11 (by decide)
        · exact g (rk_tri_1 h).2.1
      refine lv_iconst (v := (-1)) hx hb d_Md_holds_21 (by decide) ?_
      exact mw_iret J hr hlk hP hS d_Md_holds_22 (⟨Or.inl ⟨hno, rfl⟩, ⟨cw, L, rfl, ho, hkp, hh, hsd⟩⟩)
    · have hy1 := hw1.resolve_right (fun g => c_11 g.1)
      refine lv_iload_n hx hb d_Md_holds_14 rfl (lv_at hl 3 rfl) ?_
      refine mw_afterI hP hS hA (mw_runS (As := [.int z]) (rest := []) J hK hZ hP hS hA (c_Md_isNumber l D cI cZ cP cR cC tS _ (mw_ov B ad cw 12) z) (cwS 1 hts (mw_gS k_426 k_427 k_8 k_428) rfl rfl rfl (by decide +kernel) ⟨Nat.le_of_ble_eq_true rfl, Nat.le_of_ble_eq_true rfl⟩) rfl hl.1 rfl (Nat.le_of_ble_eq_true rfl) d_Md_holds_15 ⟨Nat.le_of_ble_eq_true rfl, Nat.le_of_ble_eq_true rfl⟩) (fun r2 M1 H locs hw hP hS => ?_)
      obtain ⟨e1, hw2⟩ := hw
      subst e1
      refine lv_if_ne (tgt := 23) hx hb d_Md_holds_18 (by decide) (fun c_18 => ?_) (fun c_18 => ?_)
      · have hy2 := hw2.resolve_right (fun g => c_18 g.1)
        obtain ⟨k, htri⟩ := rk_tri_of hy0.2 hy1.2 hy2.2
        have hk := rk_tri_lt htri
        refine lv_iload_n hx hb d_Md_holds_23 rfl (lv_at hl 1 rfl) ?_
        refine lv_iload_n hx hb d_Md_holds_24 rfl (lv_at hl 2 rfl) ?_
        refine lv_iload_n hx hb d_Md_holds_25 rfl (lv_at hl 3 rfl) ?_
        refine mw_afterI hP hS hA (mw_runS (As := [.int x, .int y, .int z]) (rest := []) J hK hZ hP hS hA (c_Md_code l D cI cZ cP cR cC tS _ (mw_ov B ad cw 12) x y z k htri) (cwS 3 hts (mw_gS k_429 k_430 k_8 k_431) rfl rfl rfl (by decide +kernel) ⟨Nat.le_of_ble_eq_true rfl, Nat.le_of_ble_eq_true rfl⟩) rfl hl.1 rfl (Nat.le_of_ble_eq_true rfl) d_Md_holds_26 ⟨Nat.le_of_ble_eq_true rfl, Nat.le_of_ble_eq_true rfl⟩) (fun rc M1 H locs hw hP hS => ?_)
        obtain ⟨rfl, rfl⟩ := hw
        refine lv_istore (lv' := [(4, .int (nI k)), (0, .ref (ad 0)), (1, .int x), (2, .int y), (3, .int z)]) hx hb d_Md_holds_29 hl (by decide) rfl (fun ls hl => ?_)
        refine lv_aload_n hx hb d_Md_holds_31 rfl (lv_at hl 1 rfl) ?_
        refine mw_get (v := .ref (ad 1)) (ci := 7) (C := R_Md) (T := T_Md) (N := 14) J i_Md hK hP (mw_ov_is (i := 0) ho.1 (by decide) h0) rfl 0 (by decide) (hts _ k_378) (fun _ h9 => h9) rfl d_Md_holds_32 ?_
        refine lv_iload hx hb d_Md_holds_35 (lv_at hl 0 rfl) ?_
        refine mw_bald (k := k) J hK hP 1 (mw_ov_is (i := 1) ho.1 (by decide) h1) rfl hk (by decide) d_Md_holds_37 ?_
        refine lv_if_eq (tgt := 45) hx hb d_Md_holds_38 (by decide) (fun c_38 => ?_) (fun c_38 => ?_)
        · have hs : S k = false := by
            cases z : S k
            · rfl
            · rw [if_pos z] at c_38
              exact absurd c_38 (by decide)
          refine lv_aload_n hx hb d_Md_holds_45 rfl (lv_at hl 1 rfl) ?_
          refine mw_get (v := .ref (ad 2)) (ci := 7) (C := R_Md) (T := T_Md) (N := 14) J i_Md hK hP (mw_ov_is (i := 0) ho.1 (by decide) h0) rfl 1 (by decide) (hts _ k_379) (fun _ h9 => h9) rfl d_Md_holds_46 ?_
          refine lv_iload hx hb d_Md_holds_49 (lv_at hl 0 rfl) ?_
          refine mw_bald (k := k) J hK hP 1 (mw_ov_is (i := 2) ho.1 (by decide) h2) rfl hk (by decide) d_Md_holds_51 ?_
          refine lv_if_eq (tgt := 59) hx hb d_Md_holds_52 (by decide) (fun c_52 => ?_) (fun c_52 => ?_)
          · have hkL : k ∉ L := fun z => by
              rw [hHd k hk, decide_eq_true z] at c_52
              exact absurd c_52 (by decide)
            refine lv_iconst (v := 0) hx hb d_Md_holds_59 (by decide) ?_
            exact mw_iret J hr hlk hP hS d_Md_holds_60 (⟨Or.inr ⟨k, htri, Or.inr (Or.inr ⟨hs, fun z => hkL ((hh.2.2 k).mpr z), rfl⟩)⟩, ⟨cw, L, rfl, ho, hkp, hh, hsd⟩⟩)
          · have hkL : k ∈ L := Classical.byContradiction fun z => c_52 (by rw [hHd k hk, decide_eq_false z]; rfl)
            refine lv_iconst (v := 2) hx hb d_Md_holds_55 (by decide) ?_
            refine lv_goto (tgt := 60) hx hb d_Md_holds_56 (by decide) ?_
            exact mw_iret J hr hlk hP hS d_Md_holds_60 (⟨Or.inr ⟨k, htri, Or.inr (Or.inl ⟨hs, (hh.2.2 k).mp hkL, rfl⟩)⟩, ⟨cw, L, rfl, ho, hkp, hh, hsd⟩⟩)
        · have hs : S k = true := by
            cases z : S k
            · exact absurd (if_neg (by rw [z]; decide)) c_38
            · rfl
          refine lv_iconst (v := 1) hx hb d_Md_holds_41 (by decide) ?_
          refine lv_goto (tgt := 60) hx hb d_Md_holds_42 (by decide) ?_
          exact mw_iret J hr hlk hP hS d_Md_holds_60 (⟨Or.inr ⟨k, htri, Or.inl ⟨hs, rfl⟩⟩, ⟨cw, L, rfl, ho, hkp, hh, hsd⟩⟩)
      · have hno : ¬ ∃ k, rk_tri x y z k := fun ⟨k, h⟩ => by
          rcases hw2 with ⟨g, _⟩ | ⟨_, g⟩
          · rw [g] at c_18
            exact absurd c_18 (by decide)
          · exact g (rk_tri_1 h).2.2
        refine lv_iconst (v := (-1)) hx hb d_Md_holds_21 (by decide) ?_
        exact mw_iret J hr hlk hP hS d_Md_holds_22 (⟨Or.inl ⟨hno, rfl⟩, ⟨cw, L, rfl, ho, hkp, hh, hsd⟩⟩)

set_option maxHeartbeats 4000000 in
set_option maxRecDepth 100000 in
theorem c_Md_support (l : Launch) (D : va_G) (cI cZ cP cR cC : ClassId) (tS : Nat) (sz : Nat) (B : mw_M) (ad : Nat → Nat) (cw : Nat → va_E) (ho : m_ov B ad) (S : Nat → Bool) (rs : List rk_Ru) (dr : List rk_Pt) (L : List Nat) (hkp : m_kp cI cZ ad cw S rs dr L) (hh : rk_holds S rs L) (hsd : ∀ j, S j = true → j < 32768) (x y z : Int32) :
    Met l y_Md_support (.code y_Md_support b_Md_support 4 (some .int) :: gw) ({ frames := 1, cells := 0, slots := 0, locals := 22 }) (va_Pc [.ref (ad 0), .int x, .int y, .int z] (mw_B D k_cl (k_tys cI cZ cP cR cC) (k_g tS) (mw_ov B ad cw 12) sz)) (va_Qi (fun (r : Int32) (M1 : mw_M) => sp_support S rs x y z r ∧ m_ks cI cZ B ad S rs dr M1) (mw_E D k_cl (mw_ov B ad cw 12) sz) (mw_A (mw_ov B ad cw 12) sz)) 0 0 (mw_A (mw_ov B ad cw 12) sz) := by
  refine mw_met (by decide) rfl (Nat.le_of_ble_eq_true rfl) ?_
  intro p e s m below meth c hsz J hr hlk hnm hK hZ hP hS hA ls hl
  subst hsz
  have hx := J.1
  have hb := J.2.1
  have hts := J.2.2.2.2
  have hl : lv_has ls 4 [(0, .ref (ad 0)), (1, .int x), (2, .int y), (3, .int z)] := hl
  obtain ⟨h1, hrw, ⟨sp, h3, hsp⟩, ⟨it, bd, h5, h6, hru⟩, ⟨hdr4, df, h7, hdf⟩, hs8, q11, h11⟩ := id hkp
  obtain ⟨h0, ⟨rw0, h4, hrow⟩, ⟨Hd, h2, hHd⟩, hL3, hnd, hlt⟩ := id hrw
  have hr12 := hru.1
  obtain ⟨⟨vl, h8, hvl⟩, ⟨bn, h9⟩, pl, h10⟩ := id hs8
  refine lv_iload_n hx hb d_Md_support_0 rfl (lv_at hl 1 rfl) ?_
  refine mw_afterI hP hS hA (mw_runS (As := [.int x]) (rest := []) J hK hZ hP hS hA (c_Md_isNumber l D cI cZ cP cR cC tS _ (mw_ov B ad cw 12) x) (cwS 1 hts (mw_gS k_426 k_427 k_8 k_428) rfl rfl rfl (by decide +kernel) ⟨Nat.le_of_ble_eq_true rfl, Nat.le_of_ble_eq_true rfl⟩) rfl hl.1 rfl (Nat.le_of_ble_eq_true rfl) d_Md_support_1 ⟨Nat.le_of_ble_eq_true rfl, Nat.le_of_ble_eq_true rfl⟩) (fun r0 M1 H locs hw hP hS => ?_)
  obtain ⟨e1, hw0⟩ := hw
  subst e1
  refine lv_if_eq (tgt := 35) hx hb d_Md_support_4 (by decide) (fun c_4 => ?_) (fun c_4 => ?_)
  · have hno : ¬ ∃ k, rk_tri x y z k := fun ⟨k, h⟩ => by
      rcases hw0 with ⟨g, _⟩ | ⟨_, g⟩
      · rw [g] at c_4
        exact absurd c_4 (by decide)
      · exact g (rk_tri_1 h).1
    refine lv_iconst (v := (-1)) hx hb d_Md_support_35 (by decide) ?_
    exact mw_iret J hr hlk hP hS d_Md_support_36 (⟨Or.inl ⟨hno, rfl⟩, ⟨cw, L, rfl, ho, hkp, hh, hsd⟩⟩)
  · have hy0 := hw0.resolve_right (fun g => c_4 g.1)
    refine lv_iload_n hx hb d_Md_support_7 rfl (lv_at hl 2 rfl) ?_
    refine mw_afterI hP hS hA (mw_runS (As := [.int y]) (rest := []) J hK hZ hP hS hA (c_Md_isNumber l D cI cZ cP cR cC tS _ (mw_ov B ad cw 12) y) (cwS 1 hts (mw_gS k_426 k_427 k_8 k_428) rfl rfl rfl (by decide +kernel) ⟨Nat.le_of_ble_eq_true rfl, Nat.le_of_ble_eq_true rfl⟩) rfl hl.1 rfl (Nat.le_of_ble_eq_true rfl) d_Md_support_8 ⟨Nat.le_of_ble_eq_true rfl, Nat.le_of_ble_eq_true rfl⟩) (fun r1 M1 H locs hw hP hS => ?_)
    obtain ⟨e1, hw1⟩ := hw
    subst e1
    refine lv_if_eq (tgt := 35) hx hb d_Md_support_11 (by decide) (fun c_11 => ?_) (fun c_11 => ?_)
    · have hno : ¬ ∃ k, rk_tri x y z k := fun ⟨k, h⟩ => by
        rcases hw1 with ⟨g, _⟩ | ⟨_, g⟩
        · rw [g] at c_11
          exact absurd c_11 (by decide)
        · exact g (rk_tri_1 h).2.1
      refine lv_iconst (v := (-1)) hx hb d_Md_support_35 (by decide) ?_
      exact mw_iret J hr hlk hP hS d_Md_support_36 (⟨Or.inl ⟨hno, rfl⟩, ⟨cw, L, rfl, ho, hkp, hh, hsd⟩⟩)
    · have hy1 := hw1.resolve_right (fun g => c_11 g.1)
      refine lv_iload_n hx hb d_Md_support_14 rfl (lv_at hl 3 rfl) ?_
      refine mw_afterI hP hS hA (mw_runS (As := [.int z]) (rest := []) J hK hZ hP hS hA (c_Md_isNumber l D cI cZ cP cR cC tS _ (mw_ov B ad cw 12) z) (cwS 1 hts (mw_gS k_426 k_427 k_8 k_428) rfl rfl rfl (by decide +kernel) ⟨Nat.le_of_ble_eq_true rfl, Nat.le_of_ble_eq_true rfl⟩) rfl hl.1 rfl (Nat.le_of_ble_eq_true rfl) d_Md_support_15 ⟨Nat.le_of_ble_eq_true rfl, Nat.le_of_ble_eq_true rfl⟩) (fun r2 M1 H locs hw hP hS => ?_)
      obtain ⟨e1, hw2⟩ := hw
      subst e1
      refine lv_if_eq (tgt := 35) hx hb d_Md_support_18 (by decide) (fun c_18 => ?_) (fun c_18 => ?_)
      · have hno : ¬ ∃ k, rk_tri x y z k := fun ⟨k, h⟩ => by
          rcases hw2 with ⟨g, _⟩ | ⟨_, g⟩
          · rw [g] at c_18
            exact absurd c_18 (by decide)
          · exact g (rk_tri_1 h).2.2
        refine lv_iconst (v := (-1)) hx hb d_Md_support_35 (by decide) ?_
        exact mw_iret J hr hlk hP hS d_Md_support_36 (⟨Or.inl ⟨hno, rfl⟩, ⟨cw, L, rfl, ho, hkp, hh, hsd⟩⟩)
      · have hy2 := hw2.resolve_right (fun g => c_18 g.1)
        obtain ⟨k, htri⟩ := rk_tri_of hy0.2 hy1.2 hy2.2
        have hk := rk_tri_lt htri
        refine lv_aload_n hx hb d_Md_support_21 rfl (lv_at hl 0 rfl) ?_
        refine mw_get (v := .ref (ad 3)) (ci := 7) (C := R_Md) (T := T_Md) (N := 14) J i_Md hK hP (mw_ov_is (i := 0) ho.1 (by decide) h0) rfl 2 (by decide) (hts _ k_380) (fun _ h9 => h9) rfl d_Md_support_22 ?_
        refine lv_iload_n hx hb d_Md_support_25 rfl (lv_at hl 1 rfl) ?_
        refine lv_iload_n hx hb d_Md_support_26 rfl (lv_at hl 2 rfl) ?_
        refine lv_iload_n hx hb d_Md_support_27 rfl (lv_at hl 3 rfl) ?_
        refine mw_afterI hP hS hA (mw_runS (As := [.int x, .int y, .int z]) (rest := [.ref (ad 3)]) J hK hZ hP hS hA (c_Md_code l D cI cZ cP cR cC tS _ (mw_ov B ad cw 12) x y z k htri) (cwS 3 hts (mw_gS k_429 k_430 k_8 k_431) rfl rfl rfl (by decide +kernel) ⟨Nat.le_of_ble_eq_true rfl, Nat.le_of_ble_eq_true rfl⟩) rfl hl.1 rfl (Nat.le_of_ble_eq_true rfl) d_Md_support_28 ⟨Nat.le_of_ble_eq_true rfl, Nat.le_of_ble_eq_true rfl⟩) (fun rc M1 H locs hw hP hS => ?_)
        obtain ⟨rfl, rfl⟩ := hw
        refine mw_nald (k := k) J hK hP 0 (mw_ov_is (i := 3) ho.1 (by decide) h3) rfl hk (by decide) d_Md_support_31 ?_
        refine lv_goto (tgt := 36) hx hb d_Md_support_32 (by decide) ?_
        exact mw_iret J hr hlk hP hS d_Md_support_36 (⟨Or.inr ⟨k, htri, L, hh, by rw [hsp k hk]⟩, ⟨cw, L, rfl, ho, hkp, hh, hsd⟩⟩)

set_option maxHeartbeats 4000000 in
set_option maxRecDepth 100000 in
theorem c_Md_size (l : Launch) (D : va_G) (cI cZ cP cR cC : ClassId) (tS : Nat) (sz : Nat) (B : mw_M) (ad : Nat → Nat) (cw : Nat → va_E) (ho : m_ov B ad) (S : Nat → Bool) (rs : List rk_Ru) (dr : List rk_Pt) (L : List Nat) (hkp : m_kp cI cZ ad cw S rs dr L) (hh : rk_holds S rs L) (hsd : ∀ j, S j = true → j < 32768) :
    Met l y_Md_size (.code y_Md_size b_Md_size 1 (some .int) :: gw) ({ frames := 0, cells := 0, slots := 0, locals := 0 }) (va_Pc [.ref (ad 0)] (mw_B D k_cl (k_tys cI cZ cP cR cC) (k_g tS) (mw_ov B ad cw 12) sz)) (va_Qi (fun (r : Int32) (M1 : mw_M) => sp_size S rs r ∧ m_ks cI cZ B ad S rs dr M1) (mw_E D k_cl (mw_ov B ad cw 12) sz) (mw_A (mw_ov B ad cw 12) sz)) 0 0 (mw_A (mw_ov B ad cw 12) sz) := by
  refine mw_met (by decide) rfl (Nat.le_of_ble_eq_true rfl) ?_
  intro p e s m below meth c hsz J hr hlk hnm hK hZ hP hS hA ls hl
  subst hsz
  have hx := J.1
  have hb := J.2.1
  have hts := J.2.2.2.2
  have hl : lv_has ls 1 [(0, .ref (ad 0))] := hl
  obtain ⟨h1, hrw, ⟨sp, h3, hsp⟩, ⟨it, bd, h5, h6, hru⟩, ⟨hdr4, df, h7, hdf⟩, hs8, q11, h11⟩ := id hkp
  obtain ⟨h0, ⟨rw0, h4, hrow⟩, ⟨Hd, h2, hHd⟩, hL3, hnd, hlt⟩ := id hrw
  have hr12 := hru.1
  obtain ⟨⟨vl, h8, hvl⟩, ⟨bn, h9⟩, pl, h10⟩ := id hs8
  refine lv_aload_n hx hb d_Md_size_0 rfl (lv_at hl 0 rfl) ?_
  refine mw_get (v := .int (nI L.length)) (ci := 7) (C := R_Md) (T := T_Md) (N := 14) J i_Md hK hP (mw_ov_is (i := 0) ho.1 (by decide) h0) rfl 4 (by decide) (hts _ k_382) (fun _ h9 => h9) rfl d_Md_size_1 ?_
  exact mw_iret J hr hlk hP hS d_Md_size_4 (⟨⟨L, hh, rfl⟩, ⟨cw, L, rfl, ho, hkp, hh, hsd⟩⟩)

set_option maxHeartbeats 4000000 in
set_option maxRecDepth 100000 in
theorem c_Md_rules (l : Launch) (D : va_G) (cI cZ cP cR cC : ClassId) (tS : Nat) (sz : Nat) (B : mw_M) (ad : Nat → Nat) (cw : Nat → va_E) (ho : m_ov B ad) (S : Nat → Bool) (rs : List rk_Ru) (dr : List rk_Pt) (L : List Nat) (hkp : m_kp cI cZ ad cw S rs dr L) (hh : rk_holds S rs L) (hsd : ∀ j, S j = true → j < 32768) :
    Met l y_Md_rules (.code y_Md_rules b_Md_rules 1 (some .int) :: gw) ({ frames := 0, cells := 0, slots := 0, locals := 0 }) (va_Pc [.ref (ad 0)] (mw_B D k_cl (k_tys cI cZ cP cR cC) (k_g tS) (mw_ov B ad cw 12) sz)) (va_Qi (fun (r : Int32) (M1 : mw_M) => r = nI rs.length ∧ m_ks cI cZ B ad S rs dr M1) (mw_E D k_cl (mw_ov B ad cw 12) sz) (mw_A (mw_ov B ad cw 12) sz)) 0 0 (mw_A (mw_ov B ad cw 12) sz) := by
  refine mw_met (by decide) rfl (Nat.le_of_ble_eq_true rfl) ?_
  intro p e s m below meth c hsz J hr hlk hnm hK hZ hP hS hA ls hl
  subst hsz
  have hx := J.1
  have hb := J.2.1
  have hts := J.2.2.2.2
  have hl : lv_has ls 1 [(0, .ref (ad 0))] := hl
  obtain ⟨h1, hrw, ⟨sp, h3, hsp⟩, ⟨it, bd, h5, h6, hru⟩, ⟨hdr4, df, h7, hdf⟩, hs8, q11, h11⟩ := id hkp
  obtain ⟨h0, ⟨rw0, h4, hrow⟩, ⟨Hd, h2, hHd⟩, hL3, hnd, hlt⟩ := id hrw
  have hr12 := hru.1
  obtain ⟨⟨vl, h8, hvl⟩, ⟨bn, h9⟩, pl, h10⟩ := id hs8
  refine lv_aload_n hx hb d_Md_rules_0 rfl (lv_at hl 0 rfl) ?_
  refine mw_get (v := .int (nI rs.length)) (ci := 7) (C := R_Md) (T := T_Md) (N := 14) J i_Md hK hP (mw_ov_is (i := 0) ho.1 (by decide) h0) rfl 7 (by decide) (hts _ k_385) (fun _ h9 => h9) rfl d_Md_rules_1 ?_
  exact mw_iret J hr hlk hP hS d_Md_rules_4 (⟨rfl, ⟨cw, L, rfl, ho, hkp, hh, hsd⟩⟩)

set_option maxHeartbeats 4000000 in
set_option maxRecDepth 100000 in
theorem c_Md_next (l : Launch) (D : va_G) (cI cZ cP cR cC : ClassId) (tS : Nat) (sz : Nat) (B : mw_M) (ad : Nat → Nat) (cw : Nat → va_E) (ho : m_ov B ad) (S : Nat → Bool) (rs : List rk_Ru) (dr : List rk_Pt) (L : List Nat) (hkp : m_kp cI cZ ad cw S rs dr L) (hh : rk_holds S rs L) (hsd : ∀ j, S j = true → j < 32768) (n : Int32) :
    Met l y_Md_next (.code y_Md_next b_Md_next 3 (some .int) :: gw) ({ frames := 0, cells := 0, slots := 0, locals := 0 }) (va_Pc [.ref (ad 0), .int n] (mw_B D k_cl (k_tys cI cZ cP cR cC) (k_g tS) (mw_ov B ad cw 12) sz)) (va_Qi (fun (r : Int32) (M1 : mw_M) => sp_next S rs n r ∧ m_ks cI cZ B ad S rs dr M1) (mw_E D k_cl (mw_ov B ad cw 12) sz) (mw_A (mw_ov B ad cw 12) sz)) 0 0 (mw_A (mw_ov B ad cw 12) sz) := by
  refine mw_met (by decide) rfl (Nat.le_of_ble_eq_true rfl) ?_
  intro p e s m below meth c hsz J hr hlk hnm hK hZ hP hS hA ls hl
  subst hsz
  have hx := J.1
  have hb := J.2.1
  have hts := J.2.2.2.2
  have hl : lv_has ls 3 [(0, .ref (ad 0)), (1, .int n)] := hl
  obtain ⟨h1, hrw, ⟨sp, h3, hsp⟩, ⟨it, bd, h5, h6, hru⟩, ⟨hdr4, df, h7, hdf⟩, hs8, q11, h11⟩ := id hkp
  obtain ⟨h0, ⟨rw0, h4, hrow⟩, ⟨Hd, h2, hHd⟩, hL3, hnd, hlt⟩ := id hrw
  have hr12 := hru.1
  obtain ⟨⟨vl, h8, hvl⟩, ⟨bn, h9⟩, pl, h10⟩ := id hs8
  refine lv_iload_n hx hb d_Md_next_0 rfl (lv_at hl 1 rfl) ?_
  refine lv_if_ge (tgt := 8) hx hb d_Md_next_1 (by decide) (fun c_1 => ?_) (fun c_1 => ?_)
  · obtain ⟨j0, hj0, ej⟩ := nI_of (rk_nlt c_1)
    refine lv_iload_n hx hb d_Md_next_8 rfl (lv_at hl 1 rfl) ?_
    refine mw_top (x' := nI j0) ej ?_
    refine lv_istore_n (lv' := [(2, .int (nI j0)), (0, .ref (ad 0)), (1, .int n)]) hx hb d_Md_next_9 rfl hl (by decide) rfl (fun ls hl => ?_)
    refine mw_loop (W' := fun H locs ls => W p l e _ s m _ below meth c H locs _ _ _ (F0 m 10 ls [])) 2147483647 (fun i H locs ls => lv_has ls 3 [(0, .ref (ad 0)), (1, .int n), (2, .int (nI i))] ∧ (∀ j, j < i → rk_lfp S rs j → ¬ n < nI j) ∧ mw_P D k_cl (mw_ov B ad cw 12) (mw_A (mw_ov B ad cw 12) s.heap.size) H ∧ va_S (mw_A (mw_ov B ad cw 12) s.heap.size) s.heap H locs) ?_ 2147483647 j0 (by omega) (by omega) _ _ _ ⟨lv_sub hl [1, 2, 0] rfl, (fun j hj _ => by rw [ej]; exact nI_nlt (by omega) (by omega)), hP, hS⟩
    intro i H locs ls hi_10 hI ih_10
    obtain ⟨hl, hno, hP, hS⟩ := hI
    refine lv_iload_n hx hb d_Md_next_10 rfl (lv_at hl 2 rfl) ?_
    refine lv_ldc (v := 32768) hx hb J.2.2.2.1 (hts _ k_377) d_Md_next_11 ?_
    refine mw_top (x' := nI 32768) rfl ?_
    refine lv_icmp_ge (tgt := 38) hx hb d_Md_next_13 (by decide) (fun c_13 => ?_) (fun c_13 => ?_)
    · have c_13 : 32768 ≤ i := (nI_leI (by omega) (by omega)).mp c_13
      refine lv_bipush (v := (-2)) hx hb d_Md_next_38 (by decide) ?_
      exact mw_iret J hr hlk hP hS d_Md_next_40 (⟨Or.inl ⟨rfl, fun j hj => hno j (by have := rk_lfp_lt hsd hj; omega) hj⟩, ⟨cw, L, rfl, ho, hkp, hh, hsd⟩⟩)
    · have c_13 : ¬ (32768 ≤ i) := fun z => c_13 ((nI_leI (by omega) (by omega)).mpr z)
      refine lv_iload_n hx hb d_Md_next_16 rfl (lv_at hl 2 rfl) ?_
      refine lv_iload_n hx hb d_Md_next_17 rfl (lv_at hl 1 rfl) ?_
      refine lv_icmp_le (tgt := 32) hx hb d_Md_next_18 (by decide) (fun c_18 => ?_) (fun c_18 => ?_)
      · refine lv_iinc (v := nI (i + 1)) (lv' := [(2, .int (nI (i + 1))), (0, .ref (ad 0)), (1, .int n)]) hx hb d_Md_next_32 hl (k := 2) rfl (nI_1 i) (by decide) rfl (fun ls hl => ?_)
        refine lv_goto (tgt := 10) hx hb d_Md_next_35 (by decide) ?_
        exact ih_10 _ _ _ (by omega) ⟨lv_sub hl [1, 2, 0] rfl, (lt_s hno (fun hx hl => absurd (Int32.lt_of_lt_of_le hl c_18) (fun z => Int32.lt_irrefl z))), hP, hS⟩
      · refine lv_aload_n hx hb d_Md_next_21 rfl (lv_at hl 0 rfl) ?_
        refine mw_get (v := .ref (ad 2)) (ci := 7) (C := R_Md) (T := T_Md) (N := 14) J i_Md hK hP (mw_ov_is (i := 0) ho.1 (by decide) h0) rfl 1 (by decide) (hts _ k_379) (fun _ h9 => h9) rfl d_Md_next_22 ?_
        refine lv_iload_n hx hb d_Md_next_25 rfl (lv_at hl 2 rfl) ?_
        refine mw_bald (k := i) J hK hP 1 (mw_ov_is (i := 2) ho.1 (by decide) h2) rfl (by omega) (by decide) d_Md_next_26 ?_
        refine lv_if_eq (tgt := 32) hx hb d_Md_next_27 (by decide) (fun c_27 => ?_) (fun c_27 => ?_)
        · have hkL : i ∉ L := fun z => by
            rw [hHd i (by omega), decide_eq_true z] at c_27
            exact absurd c_27 (by decide)
          refine lv_iinc (v := nI (i + 1)) (lv' := [(2, .int (nI (i + 1))), (0, .ref (ad 0)), (1, .int n)]) hx hb d_Md_next_32 hl (k := 2) rfl (nI_1 i) (by decide) rfl (fun ls hl => ?_)
          refine lv_goto (tgt := 10) hx hb d_Md_next_35 (by decide) ?_
          exact ih_10 _ _ _ (by omega) ⟨lv_sub hl [1, 2, 0] rfl, (lt_s hno (fun hx hl => absurd ((hh.2.2 i).mpr hx) hkL)), hP, hS⟩
        · have hkL : i ∈ L := Classical.byContradiction fun z => c_27 (by rw [hHd i (by omega), decide_eq_false z]; rfl)
          refine lv_iload_n hx hb d_Md_next_30 rfl (lv_at hl 2 rfl) ?_
          exact mw_iret J hr hlk hP hS d_Md_next_31 (⟨Or.inr ⟨i, (hh.2.2 i).mp hkL, rfl, Int32.not_le.mp c_18, fun j hj hn => Nat.le_of_not_lt (fun z => hno j z hj hn)⟩, ⟨cw, L, rfl, ho, hkp, hh, hsd⟩⟩)
  · refine lv_iconst (v := 0) hx hb d_Md_next_4 (by decide) ?_
    refine mw_top (x' := nI 0) nI_0.symm ?_
    refine lv_goto (tgt := 9) hx hb d_Md_next_5 (by decide) ?_
    refine lv_istore_n (lv' := [(2, .int (nI 0)), (0, .ref (ad 0)), (1, .int n)]) hx hb d_Md_next_9 rfl hl (by decide) rfl (fun ls hl => ?_)
    refine mw_loop (W' := fun H locs ls => W p l e _ s m _ below meth c H locs _ _ _ (F0 m 10 ls [])) 2147483647 (fun i H locs ls => lv_has ls 3 [(0, .ref (ad 0)), (1, .int n), (2, .int (nI i))] ∧ (∀ j, j < i → rk_lfp S rs j → ¬ n < nI j) ∧ mw_P D k_cl (mw_ov B ad cw 12) (mw_A (mw_ov B ad cw 12) s.heap.size) H ∧ va_S (mw_A (mw_ov B ad cw 12) s.heap.size) s.heap H locs) ?_ 2147483647 0 (by omega) (by omega) _ _ _ ⟨lv_sub hl [1, 2, 0] rfl, (fun j hj => absurd hj (Nat.not_lt_zero j)), hP, hS⟩
    intro i H locs ls hi_10 hI ih_10
    obtain ⟨hl, hno, hP, hS⟩ := hI
    refine lv_iload_n hx hb d_Md_next_10 rfl (lv_at hl 2 rfl) ?_
    refine lv_ldc (v := 32768) hx hb J.2.2.2.1 (hts _ k_377) d_Md_next_11 ?_
    refine mw_top (x' := nI 32768) rfl ?_
    refine lv_icmp_ge (tgt := 38) hx hb d_Md_next_13 (by decide) (fun c_13 => ?_) (fun c_13 => ?_)
    · have c_13 : 32768 ≤ i := (nI_leI (by omega) (by omega)).mp c_13
      refine lv_bipush (v := (-2)) hx hb d_Md_next_38 (by decide) ?_
      exact mw_iret J hr hlk hP hS d_Md_next_40 (⟨Or.inl ⟨rfl, fun j hj => hno j (by have := rk_lfp_lt hsd hj; omega) hj⟩, ⟨cw, L, rfl, ho, hkp, hh, hsd⟩⟩)
    · have c_13 : ¬ (32768 ≤ i) := fun z => c_13 ((nI_leI (by omega) (by omega)).mpr z)
      refine lv_iload_n hx hb d_Md_next_16 rfl (lv_at hl 2 rfl) ?_
      refine lv_iload_n hx hb d_Md_next_17 rfl (lv_at hl 1 rfl) ?_
      refine lv_icmp_le (tgt := 32) hx hb d_Md_next_18 (by decide) (fun c_18 => ?_) (fun c_18 => ?_)
      · refine lv_iinc (v := nI (i + 1)) (lv' := [(2, .int (nI (i + 1))), (0, .ref (ad 0)), (1, .int n)]) hx hb d_Md_next_32 hl (k := 2) rfl (nI_1 i) (by decide) rfl (fun ls hl => ?_)
        refine lv_goto (tgt := 10) hx hb d_Md_next_35 (by decide) ?_
        exact ih_10 _ _ _ (by omega) ⟨lv_sub hl [1, 2, 0] rfl, (lt_s hno (fun hx hl => absurd (Int32.lt_of_lt_of_le hl c_18) (fun z => Int32.lt_irrefl z))), hP, hS⟩
      · refine lv_aload_n hx hb d_Md_next_21 rfl (lv_at hl 0 rfl) ?_
        refine mw_get (v := .ref (ad 2)) (ci := 7) (C := R_Md) (T := T_Md) (N := 14) J i_Md hK hP (mw_ov_is (i := 0) ho.1 (by decide) h0) rfl 1 (by decide) (hts _ k_379) (fun _ h9 => h9) rfl d_Md_next_22 ?_
        refine lv_iload_n hx hb d_Md_next_25 rfl (lv_at hl 2 rfl) ?_
        refine mw_bald (k := i) J hK hP 1 (mw_ov_is (i := 2) ho.1 (by decide) h2) rfl (by omega) (by decide) d_Md_next_26 ?_
        refine lv_if_eq (tgt := 32) hx hb d_Md_next_27 (by decide) (fun c_27 => ?_) (fun c_27 => ?_)
        · have hkL : i ∉ L := fun z => by
            rw [hHd i (by omega), decide_eq_true z] at c_27
            exact absurd c_27 (by decide)
          refine lv_iinc (v := nI (i + 1)) (lv' := [(2, .int (nI (i + 1))), (0, .ref (ad 0)), (1, .int n)]) hx hb d_Md_next_32 hl (k := 2) rfl (nI_1 i) (by decide) rfl (fun ls hl => ?_)
          refine lv_goto (tgt := 10) hx hb d_Md_next_35 (by decide) ?_
          exact ih_10 _ _ _ (by omega) ⟨lv_sub hl [1, 2, 0] rfl, (lt_s hno (fun hx hl => absurd ((hh.2.2 i).mpr hx) hkL)), hP, hS⟩
        · have hkL : i ∈ L := Classical.byContradiction fun z => c_27 (by rw [hHd i (by omega), decide_eq_false z]; rfl)
          refine lv_iload_n hx hb d_Md_next_30 rfl (lv_at hl 2 rfl) ?_
          exact mw_iret J hr hlk hP hS d_Md_next_31 (⟨Or.inr ⟨i, (hh.2.2 i).mp hkL, rfl, Int32.not_le.mp c_18, fun j hj hn => Nat.le_of_not_lt (fun z => hno j z hj hn)⟩, ⟨cw, L, rfl, ho, hkp, hh, hsd⟩⟩)

set_option maxHeartbeats 4000000 in
set_option maxRecDepth 100000 in
theorem c_Md_fitting (l : Launch) (D : va_G) (cI cZ cP cR cC : ClassId) (tS : Nat) (sz : Nat) (B : mw_M) (ad : Nat → Nat) (cw : Nat → va_E) (ho : m_ov B ad) (S : Nat → Bool) (rs : List rk_Ru) (dr : List rk_Pt) (L : List Nat) (hkp : m_kp cI cZ ad cw S rs dr L) (hh : rk_holds S rs L) (hsd : ∀ j, S j = true → j < 32768) (x y z : Int32) :
    Met l y_Md_fitting (.code y_Md_fitting b_Md_fitting 6 (some .int) :: gw) ({ frames := 2, cells := 0, slots := 0, locals := 51 }) (va_Pc [.ref (ad 0), .int x, .int y, .int z] (mw_B D k_cl (k_tys cI cZ cP cR cC) (k_g tS) (mw_ov B ad cw 12) sz)) (va_Qi (fun (r : Int32) (M1 : mw_M) => sp_fitting S rs x y z r ∧ m_ks cI cZ B ad S rs dr M1) (mw_E D k_cl (mw_ov B ad cw 12) sz) (mw_A (mw_ov B ad cw 12) sz)) 0 0 (mw_A (mw_ov B ad cw 12) sz) := by
  refine mw_met (by decide) rfl (Nat.le_of_ble_eq_true rfl) ?_
  intro p e s m below meth c hsz J hr hlk hnm hK hZ hP hS hA ls hl
  subst hsz
  have hx := J.1
  have hb := J.2.1
  have hts := J.2.2.2.2
  have hl : lv_has ls 6 [(0, .ref (ad 0)), (1, .int x), (2, .int y), (3, .int z)] := hl
  obtain ⟨h1, hrw, ⟨sp, h3, hsp⟩, ⟨it, bd, h5, h6, hru⟩, ⟨hdr4, df, h7, hdf⟩, hs8, q11, h11⟩ := id hkp
  obtain ⟨h0, ⟨rw0, h4, hrow⟩, ⟨Hd, h2, hHd⟩, hL3, hnd, hlt⟩ := id hrw
  have hr12 := hru.1
  obtain ⟨⟨vl, h8, hvl⟩, ⟨bn, h9⟩, pl, h10⟩ := id hs8
  refine lv_iload_n hx hb d_Md_fitting_0 rfl (lv_at hl 1 rfl) ?_
  refine mw_afterI hP hS hA (mw_runS (As := [.int x]) (rest := []) J hK hZ hP hS hA (c_Md_isItem l D cI cZ cP cR cC tS _ (mw_ov B ad cw 12) x) (cwS 1 hts (mw_gS k_475 k_476 k_8 k_477) rfl rfl rfl (by decide +kernel) ⟨Nat.le_of_ble_eq_true rfl, Nat.le_of_ble_eq_true rfl⟩) rfl hl.1 rfl (Nat.le_of_ble_eq_true rfl) d_Md_fitting_1 ⟨Nat.le_of_ble_eq_true rfl, Nat.le_of_ble_eq_true rfl⟩) (fun r0 M1 H locs hw hP hS => ?_)
  obtain ⟨e1, hw0⟩ := hw
  subst e1
  refine lv_if_eq (tgt := 21) hx hb d_Md_fitting_4 (by decide) (fun c_4 => ?_) (fun c_4 => ?_)
  · have hno : ¬ ∃ k, rk_pti x y z k := fun ⟨k, h⟩ => by
      rcases hw0 with ⟨g, _⟩ | ⟨_, g⟩
      · rw [g] at c_4
        exact absurd c_4 (by decide)
      · exact g (rk_pti_1 h).1
    refine lv_iconst (v := (-1)) hx hb d_Md_fitting_21 (by decide) ?_
    exact mw_iret J hr hlk hP hS d_Md_fitting_22 (⟨Or.inl ⟨hno, rfl⟩, ⟨cw, L, rfl, ho, hkp, hh, hsd⟩⟩)
  · have hy0 := hw0.resolve_right (fun g => c_4 g.1)
    refine lv_iload_n hx hb d_Md_fitting_7 rfl (lv_at hl 2 rfl) ?_
    refine mw_afterI hP hS hA (mw_runS (As := [.int y]) (rest := []) J hK hZ hP hS hA (c_Md_isItem l D cI cZ cP cR cC tS _ (mw_ov B ad cw 12) y) (cwS 1 hts (mw_gS k_475 k_476 k_8 k_477) rfl rfl rfl (by decide +kernel) ⟨Nat.le_of_ble_eq_true rfl, Nat.le_of_ble_eq_true rfl⟩) rfl hl.1 rfl (Nat.le_of_ble_eq_true rfl) d_Md_fitting_8 ⟨Nat.le_of_ble_eq_true rfl, Nat.le_of_ble_eq_true rfl⟩) (fun r1 M1 H locs hw hP hS => ?_)
    obtain ⟨e1, hw1⟩ := hw
    subst e1
    refine lv_if_eq (tgt := 21) hx hb d_Md_fitting_11 (by decide) (fun c_11 => ?_) (fun c_11 => ?_)
    · have hno : ¬ ∃ k, rk_pti x y z k := fun ⟨k, h⟩ => by
        rcases hw1 with ⟨g, _⟩ | ⟨_, g⟩
        · rw [g] at c_11
          exact absurd c_11 (by decide)
        · exact g (rk_pti_1 h).2.1
      refine lv_iconst (v := (-1)) hx hb d_Md_fitting_21 (by decide) ?_
      exact mw_iret J hr hlk hP hS d_Md_fitting_22 (⟨Or.inl ⟨hno, rfl⟩, ⟨cw, L, rfl, ho, hkp, hh, hsd⟩⟩)
    · have hy1 := hw1.resolve_right (fun g => c_11 g.1)
      refine lv_iload_n hx hb d_Md_fitting_14 rfl (lv_at hl 3 rfl) ?_
      refine mw_afterI hP hS hA (mw_runS (As := [.int z]) (rest := []) J hK hZ hP hS hA (c_Md_isItem l D cI cZ cP cR cC tS _ (mw_ov B ad cw 12) z) (cwS 1 hts (mw_gS k_475 k_476 k_8 k_477) rfl rfl rfl (by decide +kernel) ⟨Nat.le_of_ble_eq_true rfl, Nat.le_of_ble_eq_true rfl⟩) rfl hl.1 rfl (Nat.le_of_ble_eq_true rfl) d_Md_fitting_15 ⟨Nat.le_of_ble_eq_true rfl, Nat.le_of_ble_eq_true rfl⟩) (fun r2 M1 H locs hw hP hS => ?_)
      obtain ⟨e1, hw2⟩ := hw
      subst e1
      refine lv_if_ne (tgt := 23) hx hb d_Md_fitting_18 (by decide) (fun c_18 => ?_) (fun c_18 => ?_)
      · have hy2 := hw2.resolve_right (fun g => c_18 g.1)
        obtain ⟨P, hpt⟩ := rk_pti_of hy0.2 hy1.2 hy2.2
        refine lv_aload_n hx hb d_Md_fitting_23 rfl (lv_at hl 0 rfl) ?_
        refine mw_get (v := .ref (ad 11)) (ci := 7) (C := R_Md) (T := T_Md) (N := 14) J i_Md hK hP (mw_ov_is (i := 0) ho.1 (by decide) h0) rfl 13 (by decide) (hts _ k_391) (fun _ h9 => h9) rfl d_Md_fitting_24 ?_
        refine lv_iconst (v := 0) hx hb d_Md_fitting_27 (by decide) ?_
        refine mw_top (x' := nI 0) nI_0.symm ?_
        refine lv_iload_n hx hb d_Md_fitting_28 rfl (lv_at hl 1 rfl) ?_
        refine mw_iastN (k := 0) J hK hP hS 0 (mw_ov_is (i := 11) ho.1 (by decide) h11) rfl (by decide) (by decide) d_Md_fitting_29 (fun H locs hP hS => ?_)
        rw [mw_ov_set ho.1 (by decide)] at hP
        have hP : mw_P D k_cl (mw_ov B ad (va_up cw 11 (.inl (cI, 3, .inl (upd q11 0 x)))) 12) _ H := hP
        refine lv_aload_n hx hb d_Md_fitting_30 rfl (lv_at hl 0 rfl) ?_
        refine mw_get (v := .ref (ad 11)) (ci := 7) (C := R_Md) (T := T_Md) (N := 14) J i_Md hK hP (mw_ov_is (i := 0) ho.1 (by decide) h0) rfl 13 (by decide) (hts _ k_391) (fun _ h9 => h9) rfl d_Md_fitting_31 ?_
        refine lv_iconst (v := 1) hx hb d_Md_fitting_34 (by decide) ?_
        refine mw_top (x' := nI 1) rfl ?_
        refine lv_iload_n hx hb d_Md_fitting_35 rfl (lv_at hl 2 rfl) ?_
        refine mw_iastN (k := 1) J hK hP hS 0 (mw_ov_is (i := 11) ho.1 (by decide) rfl) rfl (by decide) (by decide) d_Md_fitting_36 (fun H locs hP hS => ?_)
        rw [mw_ov_set ho.1 (by decide)] at hP
        have hP : mw_P D k_cl (mw_ov B ad (va_up (va_up cw 11 (.inl (cI, 3, .inl (upd q11 0 x)))) 11 (.inl (cI, 3, .inl (upd (upd q11 0 x) 1 y)))) 12) _ H := hP
        refine lv_aload_n hx hb d_Md_fitting_37 rfl (lv_at hl 0 rfl) ?_
        refine mw_get (v := .ref (ad 11)) (ci := 7) (C := R_Md) (T := T_Md) (N := 14) J i_Md hK hP (mw_ov_is (i := 0) ho.1 (by decide) h0) rfl 13 (by decide) (hts _ k_391) (fun _ h9 => h9) rfl d_Md_fitting_38 ?_
        refine lv_iconst (v := 2) hx hb d_Md_fitting_41 (by decide) ?_
        refine mw_top (x' := nI 2) rfl ?_
        refine lv_iload_n hx hb d_Md_fitting_42 rfl (lv_at hl 3 rfl) ?_
        refine mw_iastN (k := 2) J hK hP hS 0 (mw_ov_is (i := 11) ho.1 (by decide) rfl) rfl (by decide) (by decide) d_Md_fitting_43 (fun H locs hP hS => ?_)
        rw [mw_ov_set ho.1 (by decide)] at hP
        have hP : mw_P D k_cl (mw_ov B ad (va_up (va_up (va_up cw 11 (.inl (cI, 3, .inl (upd q11 0 x)))) 11 (.inl (cI, 3, .inl (upd (upd q11 0 x) 1 y)))) 11 (.inl (cI, 3, .inl (upd (upd (upd q11 0 x) 1 y) 2 z)))) 12) _ H := hP
        refine lv_iconst (v := 0) hx hb d_Md_fitting_44 (by decide) ?_
        refine mw_top (x' := nI (rk_sum (L.take 0) (fun k => rk_if (rk_fits P k) 1))) nI_0.symm ?_
        refine lv_istore (lv' := [(4, .int (nI (rk_sum (L.take 0) (fun k => rk_if (rk_fits P k) 1)))), (0, .ref (ad 0)), (1, .int x), (2, .int y), (3, .int z)]) hx hb d_Md_fitting_45 hl (by decide) rfl (fun ls hl => ?_)
        refine lv_iconst (v := 0) hx hb d_Md_fitting_47 (by decide) ?_
        refine mw_top (x' := nI 0) nI_0.symm ?_
        refine lv_istore (lv' := [(5, .int (nI 0)), (4, .int (nI (rk_sum (L.take 0) (fun k => rk_if (rk_fits P k) 1)))), (0, .ref (ad 0)), (1, .int x), (2, .int y), (3, .int z)]) hx hb d_Md_fitting_48 hl (by decide) rfl (fun ls hl => ?_)
        refine mw_loop (W' := fun H locs ls => W p l e _ s m _ below meth c H locs _ _ _ (F0 m 50 ls [])) L.length (fun i H locs ls => ∃ (cx : Nat → va_E), lv_has ls 6 [(0, .ref (ad 0)), (4, .int (nI (rk_sum (L.take i) (fun k => rk_if (rk_fits P k) 1)))), (5, .int (nI i))] ∧ (cx 11 = .inl (cI, 3, .inl (upd (upd (upd q11 0 x) 1 y) 2 z))) ∧ (m_s8 cI cx) ∧ (∀ i, i ≠ 8 → i ≠ 9 → i ≠ 10 → i ≠ 11 → cx i = cw i) ∧ mw_P D k_cl (mw_ov B ad cx 12) (mw_A (mw_ov B ad cw 12) s.heap.size) H ∧ va_S (mw_A (mw_ov B ad cw 12) s.heap.size) s.heap H locs) ?_ L.length 0 (by omega) (by omega) _ _ _ ⟨(va_up (va_up (va_up cw 11 (.inl (cI, 3, .inl (upd q11 0 x)))) 11 (.inl (cI, 3, .inl (upd (upd q11 0 x) 1 y)))) 11 (.inl (cI, 3, .inl (upd (upd (upd q11 0 x) 1 y) 2 z)))), lv_sub hl [2, 1, 0] rfl, rfl, (m_s8_s hs8 rfl rfl rfl), (fun i a8 a9 a10 a11 => (va_up_ne _ _ a11).trans ((va_up_ne _ _ a11).trans (va_up_ne _ _ a11))), hP, hS⟩
        intro i H locs ls hi_50 hI ih_50
        obtain ⟨cx, hl, hx11, hx8, hxo, hP, hS⟩ := hI
        obtain ⟨⟨vx, hx8v, hvx⟩, ⟨bx, hx9⟩, px, hx10⟩ := id hx8
        refine lv_iload hx hb d_Md_fitting_50 (lv_at hl 2 rfl) ?_
        refine lv_aload_n hx hb d_Md_fitting_52 rfl (lv_at hl 0 rfl) ?_
        refine mw_get (v := .int (nI L.length)) (ci := 7) (C := R_Md) (T := T_Md) (N := 14) J i_Md hK hP (mw_ov_is (i := 0) ho.1 (by decide) ((hxo 0 (by decide) (by decide) (by decide) (by decide)).trans h0)) rfl 4 (by decide) (hts _ k_382) (fun _ h9 => h9) rfl d_Md_fitting_53 ?_
        refine lv_icmp_ge (tgt := 98) hx hb d_Md_fitting_56 (by decide) (fun c_56 => ?_) (fun c_56 => ?_)
        · have c_56 : L.length ≤ i := (nI_leI (by omega) (by omega)).mp c_56
          have hie : i = L.length := by omega
          refine lv_iload hx hb d_Md_fitting_98 (lv_at hl 1 rfl) ?_
          exact mw_iret J hr hlk hP hS d_Md_fitting_100 (⟨Or.inr ⟨P, hpt, L, hh, by rw [hie, List.take_length]⟩, cx, L, rfl, ho, ⟨(hxo 1 (by decide) (by decide) (by decide) (by decide)).trans h1, m_row_s hrw (hxo 0 (by decide) (by decide) (by decide) (by decide)) (hxo 2 (by decide) (by decide) (by decide) (by decide)) (hxo 4 (by decide) (by decide) (by decide) (by decide)), ⟨sp, (hxo 3 (by decide) (by decide) (by decide) (by decide)).trans h3, hsp⟩, ⟨it, bd, (hxo 5 (by decide) (by decide) (by decide) (by decide)).trans h5, (hxo 6 (by decide) (by decide) (by decide) (by decide)).trans h6, hru⟩, ⟨hdr4, df, (hxo 7 (by decide) (by decide) (by decide) (by decide)).trans h7, hdf⟩, hx8, _, hx11⟩, hh, hsd⟩)
        · have c_56 : ¬ (L.length ≤ i) := fun z => c_56 ((nI_leI (by omega) (by omega)).mpr z)
          refine lv_aload_n hx hb d_Md_fitting_59 rfl (lv_at hl 0 rfl) ?_
          refine mw_afterV hP hS hA (mw_runV (As := []) (rest := []) J hK hZ hP hS hA (mw_ov_is (i := 0) ho.1 (by decide) ((hxo 0 (by decide) (by decide) (by decide) (by decide)).trans h0)) rfl (c_Md_free l D cI cZ cP cR cC tS _ B ad cx ho L.length rs.length dr.length ((hxo 0 (by decide) (by decide) (by decide) (by decide)).trans h0) bx hx9) (cwV 0 hts (mw_gV k_440 k_442 s_Md_free k_8 k_443) rfl rfl rfl (by decide +kernel) ⟨Nat.le_of_ble_eq_true rfl, Nat.le_of_ble_eq_true rfl⟩) rfl hl.1 rfl (Nat.le_of_ble_eq_true rfl) d_Md_fitting_60 ⟨Nat.le_of_ble_eq_true rfl, Nat.le_of_ble_eq_true rfl⟩) (fun M1 H locs hw hP hS => ?_)
          obtain ⟨cf, bf, rfl, hf9, hfo, hbf⟩ := hw
          refine lv_iload hx hb d_Md_fitting_63 (lv_at hl 1 rfl) ?_
          refine lv_aload_n hx hb d_Md_fitting_65 rfl (lv_at hl 0 rfl) ?_
          refine lv_aload_n hx hb d_Md_fitting_66 rfl (lv_at hl 0 rfl) ?_
          refine mw_get (v := .ref (ad 11)) (ci := 7) (C := R_Md) (T := T_Md) (N := 14) J i_Md hK hP (mw_ov_is (i := 0) ho.1 (by decide) ((hfo 0 (by decide)).trans ((hxo 0 (by decide) (by decide) (by decide) (by decide)).trans h0))) rfl 13 (by decide) (hts _ k_391) (fun _ h9 => h9) rfl d_Md_fitting_67 ?_
          refine lv_iconst (v := 0) hx hb d_Md_fitting_70 (by decide) ?_
          refine mw_top (x' := nI 0) nI_0.symm ?_
          refine lv_aload_n hx hb d_Md_fitting_71 rfl (lv_at hl 0 rfl) ?_
          refine mw_get (v := .ref (ad 4)) (ci := 7) (C := R_Md) (T := T_Md) (N := 14) J i_Md hK hP (mw_ov_is (i := 0) ho.1 (by decide) ((hfo 0 (by decide)).trans ((hxo 0 (by decide) (by decide) (by decide) (by decide)).trans h0))) rfl 3 (by decide) (hts _ k_381) (fun _ h9 => h9) rfl d_Md_fitting_72 ?_
          refine lv_iload hx hb d_Md_fitting_75 (lv_at hl 2 rfl) ?_
          refine mw_nald (k := i) J hK hP 0 (mw_ov_is (i := 4) ho.1 (by decide) ((hfo 4 (by decide)).trans ((hxo 4 (by decide) (by decide) (by decide) (by decide)).trans h4))) rfl (by omega) (by decide) d_Md_fitting_77 ?_
          refine mw_top (x' := nI (L.getD i 0)) (by rw [hrow i (by omega)]) ?_
          refine mw_afterI hP hS hA (mw_runV (As := [.ref (ad 11), .int (nI 0), .int (nI (L.getD i 0))]) (rest := [.int (nI (rk_sum (L.take i) (fun k => rk_if (rk_fits P k) 1)))]) J hK hZ hP hS hA (mw_ov_is (i := 0) ho.1 (by decide) ((hfo 0 (by decide)).trans ((hxo 0 (by decide) (by decide) (by decide) (by decide)).trans h0))) rfl (c_Md_bind l D cI cZ cP cR cC tS _ B ad cf ho L.length rs.length dr.length ((hfo 0 (by decide)).trans ((hxo 0 (by decide) (by decide) (by decide) (by decide)).trans h0)) 11 3 (Or.inr rfl) (upd (upd (upd q11 0 x) 1 y) 2 z) ((hfo 11 (by decide)).trans hx11) 0 (by decide) (by decide) P (m_pt3 (a := 0) hpt) (L.getD i 0) (hlt _ (rk_getD_mem (by omega))) vx bf (fun _ => 0) ((hfo 8 (by decide)).trans hx8v) hf9 hvx (fun x hx => hbf (x + 1) (by omega)) (fun x hx => Nat.zero_le _)) (cwV 3 hts (mw_gV k_452 k_454 s_Md_bind k_8 k_455) rfl rfl rfl (by decide +kernel) ⟨Nat.le_of_ble_eq_true rfl, Nat.le_of_ble_eq_true rfl⟩) rfl hl.1 rfl (Nat.le_of_ble_eq_true rfl) d_Md_fitting_78 ⟨Nat.le_of_ble_eq_true rfl, Nat.le_of_ble_eq_true rfl⟩) (fun rb M1 H locs hw hP hS => ?_)
          obtain ⟨c3, v3, b3, rfl, g8, g9, g3o, hv3, -, hbc⟩ := hw
          refine lv_if_eq (tgt := 88) hx hb d_Md_fitting_81 (by decide) (fun c_81 => ?_) (fun c_81 => ?_)
          · have hft : ¬ rk_fits P (L.getD i 0) := fun z => by
              obtain ⟨v, a1, a2⟩ := (rk_fits_ex (hlt _ (rk_getD_mem (by omega)))).mp z
              exact (hbc.resolve_left (fun g => by rw [g.1] at c_81; exact absurd c_81 (by decide))).2.2 ⟨v, a1, fun x _ h => absurd h (Nat.lt_irrefl 0), a2⟩
            refine lv_iconst (v := 0) hx hb d_Md_fitting_88 (by decide) ?_
            refine lv_iadd hx hb d_Md_fitting_89 ?_
            refine mw_top (x' := nI (rk_sum (L.take (i + 1)) (fun k => rk_if (rk_fits P k) 1))) (by rw [rk_take_succ (by omega), rk_sum_app, rk_sum_cons, rk_sum_nil]; first | (rw [rk_if_t hft]; exact nI_1 _) | (rw [rk_if_f hft]; exact Int32.add_zero _)) ?_
            refine lv_istore (lv' := [(4, .int (nI (rk_sum (L.take (i + 1)) (fun k => rk_if (rk_fits P k) 1)))), (0, .ref (ad 0)), (5, .int (nI i))]) hx hb d_Md_fitting_90 hl (by decide) rfl (fun ls hl => ?_)
            refine lv_iinc (v := nI (i + 1)) (lv' := [(5, .int (nI (i + 1))), (4, .int (nI (rk_sum (L.take (i + 1)) (fun k => rk_if (rk_fits P k) 1)))), (0, .ref (ad 0))]) hx hb d_Md_fitting_92 hl (k := 2) rfl (nI_1 i) (by decide) rfl (fun ls hl => ?_)
            refine lv_goto (tgt := 50) hx hb d_Md_fitting_95 (by decide) ?_
            exact ih_50 _ _ _ (by omega) ⟨c3, lv_sub hl [2, 1, 0] rfl, ((g3o 11 (by decide) (by decide)).trans ((hfo 11 (by decide)).trans hx11)), ⟨⟨v3, g8, hv3⟩, ⟨b3, g9⟩, px, (g3o 10 (by decide) (by decide)).trans ((hfo 10 (by decide)).trans hx10)⟩, (fun i a8 a9 a10 a11 => (g3o i a8 a9).trans ((hfo i a9).trans (hxo i a8 a9 a10 a11))), hP, hS⟩
          · have hft : rk_fits P (L.getD i 0) := (rk_fits_ex (hlt _ (rk_getD_mem (by omega)))).mpr ⟨_, rk_as_ok hv3, (hbc.resolve_right (fun g => c_81 g.1)).2.2⟩
            refine lv_iconst (v := 1) hx hb d_Md_fitting_84 (by decide) ?_
            refine lv_goto (tgt := 89) hx hb d_Md_fitting_85 (by decide) ?_
            refine lv_iadd hx hb d_Md_fitting_89 ?_
            refine mw_top (x' := nI (rk_sum (L.take (i + 1)) (fun k => rk_if (rk_fits P k) 1))) (by rw [rk_take_succ (by omega), rk_sum_app, rk_sum_cons, rk_sum_nil]; first | (rw [rk_if_t hft]; exact nI_1 _) | (rw [rk_if_f hft]; exact Int32.add_zero _)) ?_
            refine lv_istore (lv' := [(4, .int (nI (rk_sum (L.take (i + 1)) (fun k => rk_if (rk_fits P k) 1)))), (0, .ref (ad 0)), (5, .int (nI i))]) hx hb d_Md_fitting_90 hl (by decide) rfl (fun ls hl => ?_)
            refine lv_iinc (v := nI (i + 1)) (lv' := [(5, .int (nI (i + 1))), (4, .int (nI (rk_sum (L.take (i + 1)) (fun k => rk_if (rk_fits P k) 1)))), (0, .ref (ad 0))]) hx hb d_Md_fitting_92 hl (k := 2) rfl (nI_1 i) (by decide) rfl (fun ls hl => ?_)
            refine lv_goto (tgt := 50) hx hb d_Md_fitting_95 (by decide) ?_
            exact ih_50 _ _ _ (by omega) ⟨c3, lv_sub hl [2, 1, 0] rfl, ((g3o 11 (by decide) (by decide)).trans ((hfo 11 (by decide)).trans hx11)), ⟨⟨v3, g8, hv3⟩, ⟨b3, g9⟩, px, (g3o 10 (by decide) (by decide)).trans ((hfo 10 (by decide)).trans hx10)⟩, (fun i a8 a9 a10 a11 => (g3o i a8 a9).trans ((hfo i a9).trans (hxo i a8 a9 a10 a11))), hP, hS⟩
      · have hno : ¬ ∃ k, rk_pti x y z k := fun ⟨k, h⟩ => by
          rcases hw2 with ⟨g, _⟩ | ⟨_, g⟩
          · rw [g] at c_18
            exact absurd c_18 (by decide)
          · exact g (rk_pti_1 h).2.2
        refine lv_iconst (v := (-1)) hx hb d_Md_fitting_21 (by decide) ?_
        exact mw_iret J hr hlk hP hS d_Md_fitting_22 (⟨Or.inl ⟨hno, rfl⟩, ⟨cw, L, rfl, ho, hkp, hh, hsd⟩⟩)

set_option maxHeartbeats 4000000 in
set_option maxRecDepth 100000 in
theorem c_Md_clear (l : Launch) (D : va_G) (cI cZ cP cR cC : ClassId) (tS : Nat) (sz : Nat) (B : mw_M) (ad : Nat → Nat) (cw : Nat → va_E) (ho : m_ov B ad) (S : Nat → Bool) (rs : List rk_Ru) (dr : List rk_Pt) (L : List Nat) (hkp : m_kp cI cZ ad cw S rs dr L) (hh : rk_holds S rs L) (hsd : ∀ j, S j = true → j < 32768) :
    Met l y_Md_clear (.code y_Md_clear b_Md_clear 3 (some .int) :: gw) ({ frames := 4, cells := 0, slots := 0, locals := 98 }) (va_Pc [.ref (ad 0)] (mw_B D k_cl (k_tys cI cZ cP cR cC) (k_g tS) (mw_ov B ad cw 12) sz)) (va_Qi (fun (r : Int32) (M1 : mw_M) => sp_clear S rs r ∧ m_ks cI cZ B ad (fun _ => false) rs dr M1) (mw_E D k_cl (mw_ov B ad cw 12) sz) (mw_A (mw_ov B ad cw 12) sz)) 0 0 (mw_A (mw_ov B ad cw 12) sz) := by
  refine mw_met (by decide) rfl (Nat.le_of_ble_eq_true rfl) ?_
  intro p e s m below meth c hsz J hr hlk hnm hK hZ hP hS hA ls hl
  subst hsz
  have hx := J.1
  have hb := J.2.1
  have hts := J.2.2.2.2
  have hl : lv_has ls 3 [(0, .ref (ad 0))] := hl
  obtain ⟨h1, hrw, ⟨sp, h3, hsp⟩, ⟨it, bd, h5, h6, hru⟩, ⟨hdr4, df, h7, hdf⟩, hs8, q11, h11⟩ := id hkp
  obtain ⟨h0, ⟨rw0, h4, hrow⟩, ⟨Hd, h2, hHd⟩, hL3, hnd, hlt⟩ := id hrw
  have hr12 := hru.1
  obtain ⟨⟨vl, h8, hvl⟩, ⟨bn, h9⟩, pl, h10⟩ := id hs8
  refine lv_iconst (v := 0) hx hb d_Md_clear_0 (by decide) ?_
  refine mw_top (x' := nI ((List.range 0).filter S).length) nI_0.symm ?_
  refine lv_istore_n (lv' := [(1, .int (nI ((List.range 0).filter S).length)), (0, .ref (ad 0))]) hx hb d_Md_clear_1 rfl hl (by decide) rfl (fun ls hl => ?_)
  refine lv_iconst (v := 0) hx hb d_Md_clear_2 (by decide) ?_
  refine mw_top (x' := nI 0) nI_0.symm ?_
  refine lv_istore_n (lv' := [(2, .int (nI 0)), (1, .int (nI ((List.range 0).filter S).length)), (0, .ref (ad 0))]) hx hb d_Md_clear_3 rfl hl (by decide) rfl (fun ls hl => ?_)
  refine mw_loop (W' := fun H locs ls => W p l e _ s m _ below meth c H locs _ _ _ (F0 m 4 ls [])) 32768 (fun i H locs ls => ∃ (cx : Nat → va_E), ∃ (Sx : Nat → Bool), lv_has ls 3 [(0, .ref (ad 0)), (1, .int (nI ((List.range i).filter S).length)), (2, .int (nI i))] ∧ (cx 1 = .inl (cZ, 32768, .inl (rk_bf Sx))) ∧ (∀ i, i ≠ 1 → cx i = cw i) ∧ (∀ j, j < i → Sx j = false) ∧ (∀ j, i ≤ j → Sx j = S j) ∧ mw_P D k_cl (mw_ov B ad cx 12) (mw_A (mw_ov B ad cw 12) s.heap.size) H ∧ va_S (mw_A (mw_ov B ad cw 12) s.heap.size) s.heap H locs) ?_ 32768 0 (by omega) (by omega) _ _ _ ⟨cw, S, lv_sub hl [2, 1, 0] rfl, h1, (fun _ _ => rfl), (fun j hj => absurd hj (Nat.not_lt_zero j)), (fun _ _ => rfl), hP, hS⟩
  intro i H locs ls hi_4 hI ih_4
  obtain ⟨cx, Sx, hl, hx1, hxo, hS1, hS2, hP, hS⟩ := hI
  refine lv_iload_n hx hb d_Md_clear_4 rfl (lv_at hl 2 rfl) ?_
  refine lv_ldc (v := 32768) hx hb J.2.2.2.1 (hts _ k_377) d_Md_clear_5 ?_
  refine mw_top (x' := nI 32768) rfl ?_
  refine lv_icmp_ge (tgt := 40) hx hb d_Md_clear_7 (by decide) (fun c_7 => ?_) (fun c_7 => ?_)
  · have c_7 : 32768 ≤ i := (nI_leI (by omega) (by omega)).mp c_7
    have hie : i = 32768 := by omega
    have hSx : Sx = fun _ => false := by
      funext j
      by_cases e : j < i
      · exact hS1 j e
      · rw [hS2 j (by omega)]
        cases z : S j
        · rfl
        · have := hsd j z
          omega
    have hcnt : ((List.range i).filter S).length = (L.filter S).length := by rw [hie]; exact rk_range_filter hnd (fun j hj => (hh.2.2 j).mpr (rk_lfp_said hj)) hsd
    have hrp : ∀ r, r ∈ rs → 0 < r.1.length := fun r hr => by
      obtain ⟨k, hk, rfl⟩ := rk_mem_rth hr
      exact (hru.2 k hk).1.1
    refine lv_aload_n hx hb d_Md_clear_40 rfl (lv_at hl 0 rfl) ?_
    refine mw_afterI hP hS hA (mw_runV (As := []) (rest := []) J hK hZ hP hS hA (mw_ov_is (i := 0) ho.1 (by decide) ((hxo 0 (by decide)).trans h0)) rfl (c_Md_reckon l D cI cZ cP cR cC tS _ B ad cx ho Sx rs L.length dr.length ((hxo 0 (by decide)).trans h0) hx1 Hd ((hxo 2 (by decide)).trans h2) sp ((hxo 3 (by decide)).trans h3) rw0 ((hxo 4 (by decide)).trans h4) it bd ((hxo 5 (by decide)).trans h5) ((hxo 6 (by decide)).trans h6) hru (m_s8_s hs8 (hxo 8 (by decide)) (hxo 9 (by decide)) (hxo 10 (by decide))) (by rw [hSx]; intro j hj; cases hj) ) (cwV 0 hts (mw_gV k_432 k_434 s_Md_reckon k_8 k_435) rfl rfl rfl (by decide +kernel) ⟨Nat.le_of_ble_eq_true rfl, Nat.le_of_ble_eq_true rfl⟩) rfl hl.1 rfl (Nat.le_of_ble_eq_true rfl) d_Md_clear_41 ⟨Nat.le_of_ble_eq_true rfl, Nat.le_of_ble_eq_true rfl⟩) (fun r5 M1 H locs hw hP hS => ?_)
    obtain ⟨c2, L2, s2, rfl, h2o, h2s, h2r, h23, hcs2⟩ := hw
    obtain ⟨h20, ⟨rw2, h24, -⟩, ⟨Hd2, h22, -⟩, -⟩ := id h2r
    have hgood := (hcs2.resolve_right (fun g => rk_not_much (rk_empty_holds hrp) (by have := g.2; rw [hSx] at this; exact this))).2
    refine lv_pop hx hb d_Md_clear_44 rfl ?_
    refine lv_iload_n hx hb d_Md_clear_45 rfl (lv_at hl 1 rfl) ?_
    exact mw_iret J hr hlk hP hS d_Md_clear_46 (⟨⟨L, hh, by rw [hcnt]⟩, c2, L2, rfl, ho, ⟨by rw [(h2o 1 (by decide) (by decide) (by decide) (by decide) (by decide) (by decide) (by decide)), hx1, hSx], h2r, ⟨s2, h23, hgood.2⟩, ⟨it, bd, (h2o 5 (by decide) (by decide) (by decide) (by decide) (by decide) (by decide) (by decide)).trans ((hxo 5 (by decide)).trans h5), (h2o 6 (by decide) (by decide) (by decide) (by decide) (by decide) (by decide) (by decide)).trans ((hxo 6 (by decide)).trans h6), hru⟩, ⟨hdr4, df, (h2o 7 (by decide) (by decide) (by decide) (by decide) (by decide) (by decide) (by decide)).trans ((hxo 7 (by decide)).trans h7), hdf⟩, h2s, q11, (h2o 11 (by decide) (by decide) (by decide) (by decide) (by decide) (by decide) (by decide)).trans ((hxo 11 (by decide)).trans h11)⟩, by have := hgood.1; rw [hSx] at this; exact this, fun j hj => by cases hj⟩)
  · have c_7 : ¬ (32768 ≤ i) := fun z => c_7 ((nI_leI (by omega) (by omega)).mpr z)
    refine lv_iload_n hx hb d_Md_clear_10 rfl (lv_at hl 1 rfl) ?_
    refine lv_aload_n hx hb d_Md_clear_11 rfl (lv_at hl 0 rfl) ?_
    refine mw_get (v := .ref (ad 1)) (ci := 7) (C := R_Md) (T := T_Md) (N := 14) J i_Md hK hP (mw_ov_is (i := 0) ho.1 (by decide) ((hxo 0 (by decide)).trans h0)) rfl 0 (by decide) (hts _ k_378) (fun _ h9 => h9) rfl d_Md_clear_12 ?_
    refine lv_iload_n hx hb d_Md_clear_15 rfl (lv_at hl 2 rfl) ?_
    refine mw_bald (k := i) J hK hP 1 (mw_ov_is (i := 1) ho.1 (by decide) hx1) rfl (by omega) (by decide) d_Md_clear_16 ?_
    refine lv_if_eq (tgt := 24) hx hb d_Md_clear_17 (by decide) (fun c_17 => ?_) (fun c_17 => ?_)
    · have hs : Sx i = false := by
        cases z : Sx i
        · rfl
        · rw [if_pos z] at c_17
          exact absurd c_17 (by decide)
      rw [hS2 i (Nat.le_refl i)] at hs
      refine lv_iconst (v := 0) hx hb d_Md_clear_24 (by decide) ?_
      refine lv_iadd hx hb d_Md_clear_25 ?_
      refine mw_top (x' := nI ((List.range (i + 1)).filter S).length) (by rw [rk_range_up]; first | (rw [if_pos hs]; exact nI_1 _) | (rw [if_neg (by rw [hs]; decide)]; exact Int32.add_zero _)) ?_
      refine lv_istore_n (lv' := [(1, .int (nI ((List.range (i + 1)).filter S).length)), (0, .ref (ad 0)), (2, .int (nI i))]) hx hb d_Md_clear_26 rfl hl (by decide) rfl (fun ls hl => ?_)
      refine lv_aload_n hx hb d_Md_clear_27 rfl (lv_at hl 1 rfl) ?_
      refine mw_get (v := .ref (ad 1)) (ci := 7) (C := R_Md) (T := T_Md) (N := 14) J i_Md hK hP (mw_ov_is (i := 0) ho.1 (by decide) ((hxo 0 (by decide)).trans h0)) rfl 0 (by decide) (hts _ k_378) (fun _ h9 => h9) rfl d_Md_clear_28 ?_
      refine lv_iload_n hx hb d_Md_clear_31 rfl (lv_at hl 2 rfl) ?_
      refine lv_iconst (v := 0) hx hb d_Md_clear_32 (by decide) ?_
      refine mw_bast (k := i) (b := false) J hK hP hS 1 (by decide) (mw_ov_is (i := 1) ho.1 (by decide) hx1) rfl (by omega) (by decide) d_Md_clear_33 (fun H locs hP hS => ?_)
      rw [mw_ov_set ho.1 (by decide)] at hP
      have hP : mw_P D k_cl (mw_ov B ad (va_up cx 1 (.inl (cZ, 32768, .inl (rk_bf (va_up Sx i false))))) 12) _ H := hP
      refine lv_iinc (v := nI (i + 1)) (lv' := [(2, .int (nI (i + 1))), (1, .int (nI ((List.range (i + 1)).filter S).length)), (0, .ref (ad 0))]) hx hb d_Md_clear_34 hl (k := 2) rfl (nI_1 i) (by decide) rfl (fun ls hl => ?_)
      refine lv_goto (tgt := 4) hx hb d_Md_clear_37 (by decide) ?_
      exact ih_4 _ _ _ (by omega) ⟨(va_up cx 1 (.inl (cZ, 32768, .inl (rk_bf (va_up Sx i false))))), (va_up Sx i false), lv_sub hl [2, 1, 0] rfl, rfl, (fun z hz => (va_up_ne _ _ hz).trans (hxo z hz)), (lt_s (fun z hz => (va_up_ne _ _ (by omega)).trans (hS1 z hz)) (va_up_self _ _ _)), (fun z hz => (va_up_ne _ _ (by omega)).trans (hS2 z (by omega))), hP, hS⟩
    · have hs : Sx i = true := by
        cases z : Sx i
        · exact absurd (if_neg (by rw [z]; decide)) c_17
        · rfl
      rw [hS2 i (Nat.le_refl i)] at hs
      refine lv_iconst (v := 1) hx hb d_Md_clear_20 (by decide) ?_
      refine lv_goto (tgt := 25) hx hb d_Md_clear_21 (by decide) ?_
      refine lv_iadd hx hb d_Md_clear_25 ?_
      refine mw_top (x' := nI ((List.range (i + 1)).filter S).length) (by rw [rk_range_up]; first | (rw [if_pos hs]; exact nI_1 _) | (rw [if_neg (by rw [hs]; decide)]; exact Int32.add_zero _)) ?_
      refine lv_istore_n (lv' := [(1, .int (nI ((List.range (i + 1)).filter S).length)), (0, .ref (ad 0)), (2, .int (nI i))]) hx hb d_Md_clear_26 rfl hl (by decide) rfl (fun ls hl => ?_)
      refine lv_aload_n hx hb d_Md_clear_27 rfl (lv_at hl 1 rfl) ?_
      refine mw_get (v := .ref (ad 1)) (ci := 7) (C := R_Md) (T := T_Md) (N := 14) J i_Md hK hP (mw_ov_is (i := 0) ho.1 (by decide) ((hxo 0 (by decide)).trans h0)) rfl 0 (by decide) (hts _ k_378) (fun _ h9 => h9) rfl d_Md_clear_28 ?_
      refine lv_iload_n hx hb d_Md_clear_31 rfl (lv_at hl 2 rfl) ?_
      refine lv_iconst (v := 0) hx hb d_Md_clear_32 (by decide) ?_
      refine mw_bast (k := i) (b := false) J hK hP hS 1 (by decide) (mw_ov_is (i := 1) ho.1 (by decide) hx1) rfl (by omega) (by decide) d_Md_clear_33 (fun H locs hP hS => ?_)
      rw [mw_ov_set ho.1 (by decide)] at hP
      have hP : mw_P D k_cl (mw_ov B ad (va_up cx 1 (.inl (cZ, 32768, .inl (rk_bf (va_up Sx i false))))) 12) _ H := hP
      refine lv_iinc (v := nI (i + 1)) (lv' := [(2, .int (nI (i + 1))), (1, .int (nI ((List.range (i + 1)).filter S).length)), (0, .ref (ad 0))]) hx hb d_Md_clear_34 hl (k := 2) rfl (nI_1 i) (by decide) rfl (fun ls hl => ?_)
      refine lv_goto (tgt := 4) hx hb d_Md_clear_37 (by decide) ?_
      exact ih_4 _ _ _ (by omega) ⟨(va_up cx 1 (.inl (cZ, 32768, .inl (rk_bf (va_up Sx i false))))), (va_up Sx i false), lv_sub hl [2, 1, 0] rfl, rfl, (fun z hz => (va_up_ne _ _ hz).trans (hxo z hz)), (lt_s (fun z hz => (va_up_ne _ _ (by omega)).trans (hS1 z hz)) (va_up_self _ _ _)), (fun z hz => (va_up_ne _ _ (by omega)).trans (hS2 z (by omega))), hP, hS⟩

set_option maxHeartbeats 4000000 in
set_option maxRecDepth 100000 in
theorem c_Md_pattern (l : Launch) (D : va_G) (cI cZ cP cR cC : ClassId) (tS : Nat) (sz : Nat) (B : mw_M) (ad : Nat → Nat) (cw : Nat → va_E) (ho : m_ov B ad) (S : Nat → Bool) (rs : List rk_Ru) (dr : List rk_Pt) (L : List Nat) (hkp : m_kp cI cZ ad cw S rs dr L) (hh : rk_holds S rs L) (hsd : ∀ j, S j = true → j < 32768) (x y z : Int32) :
    Met l y_Md_pattern (.code y_Md_pattern b_Md_pattern 4 (some .int) :: gw) ({ frames := 1, cells := 0, slots := 0, locals := 20 }) (va_Pc [.ref (ad 0), .int x, .int y, .int z] (mw_B D k_cl (k_tys cI cZ cP cR cC) (k_g tS) (mw_ov B ad cw 12) sz)) (va_Qi (fun (r : Int32) (M1 : mw_M) => ∃ dr1, sp_pattern dr x y z r dr1 ∧ m_ks cI cZ B ad S rs dr1 M1) (mw_E D k_cl (mw_ov B ad cw 12) sz) (mw_A (mw_ov B ad cw 12) sz)) 0 0 (mw_A (mw_ov B ad cw 12) sz) := by
  refine mw_met (by decide) rfl (Nat.le_of_ble_eq_true rfl) ?_
  intro p e s m below meth c hsz J hr hlk hnm hK hZ hP hS hA ls hl
  subst hsz
  have hx := J.1
  have hb := J.2.1
  have hts := J.2.2.2.2
  have hl : lv_has ls 4 [(0, .ref (ad 0)), (1, .int x), (2, .int y), (3, .int z)] := hl
  obtain ⟨h1, hrw, ⟨sp, h3, hsp⟩, ⟨it, bd, h5, h6, hru⟩, ⟨hdr4, df, h7, hdf⟩, hs8, q11, h11⟩ := id hkp
  obtain ⟨h0, ⟨rw0, h4, hrow⟩, ⟨Hd, h2, hHd⟩, hL3, hnd, hlt⟩ := id hrw
  have hr12 := hru.1
  obtain ⟨⟨vl, h8, hvl⟩, ⟨bn, h9⟩, pl, h10⟩ := id hs8
  refine lv_iload_n hx hb d_Md_pattern_0 rfl (lv_at hl 1 rfl) ?_
  refine mw_afterI hP hS hA (mw_runS (As := [.int x]) (rest := []) J hK hZ hP hS hA (c_Md_isItem l D cI cZ cP cR cC tS _ (mw_ov B ad cw 12) x) (cwS 1 hts (mw_gS k_475 k_476 k_8 k_477) rfl rfl rfl (by decide +kernel) ⟨Nat.le_of_ble_eq_true rfl, Nat.le_of_ble_eq_true rfl⟩) rfl hl.1 rfl (Nat.le_of_ble_eq_true rfl) d_Md_pattern_1 ⟨Nat.le_of_ble_eq_true rfl, Nat.le_of_ble_eq_true rfl⟩) (fun r0 M1 H locs hw hP hS => ?_)
  obtain ⟨e1, hw0⟩ := hw
  subst e1
  refine lv_if_eq (tgt := 21) hx hb d_Md_pattern_4 (by decide) (fun c_4 => ?_) (fun c_4 => ?_)
  · have hno : ¬ ∃ k, rk_pti x y z k := fun ⟨k, h⟩ => by
      rcases hw0 with ⟨g, _⟩ | ⟨_, g⟩
      · rw [g] at c_4
        exact absurd c_4 (by decide)
      · exact g (rk_pti_1 h).1
    refine lv_iconst (v := (-1)) hx hb d_Md_pattern_21 (by decide) ?_
    exact mw_iret J hr hlk hP hS d_Md_pattern_22 (⟨dr, Or.inl ⟨hno, rfl, rfl⟩, ⟨cw, L, rfl, ho, hkp, hh, hsd⟩⟩)
  · have hy0 := hw0.resolve_right (fun g => c_4 g.1)
    refine lv_iload_n hx hb d_Md_pattern_7 rfl (lv_at hl 2 rfl) ?_
    refine mw_afterI hP hS hA (mw_runS (As := [.int y]) (rest := []) J hK hZ hP hS hA (c_Md_isItem l D cI cZ cP cR cC tS _ (mw_ov B ad cw 12) y) (cwS 1 hts (mw_gS k_475 k_476 k_8 k_477) rfl rfl rfl (by decide +kernel) ⟨Nat.le_of_ble_eq_true rfl, Nat.le_of_ble_eq_true rfl⟩) rfl hl.1 rfl (Nat.le_of_ble_eq_true rfl) d_Md_pattern_8 ⟨Nat.le_of_ble_eq_true rfl, Nat.le_of_ble_eq_true rfl⟩) (fun r1 M1 H locs hw hP hS => ?_)
    obtain ⟨e1, hw1⟩ := hw
    subst e1
    refine lv_if_eq (tgt := 21) hx hb d_Md_pattern_11 (by decide) (fun c_11 => ?_) (fun c_11 => ?_)
    · have hno : ¬ ∃ k, rk_pti x y z k := fun ⟨k, h⟩ => by
        rcases hw1 with ⟨g, _⟩ | ⟨_, g⟩
        · rw [g] at c_11
          exact absurd c_11 (by decide)
        · exact g (rk_pti_1 h).2.1
      refine lv_iconst (v := (-1)) hx hb d_Md_pattern_21 (by decide) ?_
      exact mw_iret J hr hlk hP hS d_Md_pattern_22 (⟨dr, Or.inl ⟨hno, rfl, rfl⟩, ⟨cw, L, rfl, ho, hkp, hh, hsd⟩⟩)
    · have hy1 := hw1.resolve_right (fun g => c_11 g.1)
      refine lv_iload_n hx hb d_Md_pattern_14 rfl (lv_at hl 3 rfl) ?_
      refine mw_afterI hP hS hA (mw_runS (As := [.int z]) (rest := []) J hK hZ hP hS hA (c_Md_isItem l D cI cZ cP cR cC tS _ (mw_ov B ad cw 12) z) (cwS 1 hts (mw_gS k_475 k_476 k_8 k_477) rfl rfl rfl (by decide +kernel) ⟨Nat.le_of_ble_eq_true rfl, Nat.le_of_ble_eq_true rfl⟩) rfl hl.1 rfl (Nat.le_of_ble_eq_true rfl) d_Md_pattern_15 ⟨Nat.le_of_ble_eq_true rfl, Nat.le_of_ble_eq_true rfl⟩) (fun r2 M1 H locs hw hP hS => ?_)
      obtain ⟨e1, hw2⟩ := hw
      subst e1
      refine lv_if_ne (tgt := 23) hx hb d_Md_pattern_18 (by decide) (fun c_18 => ?_) (fun c_18 => ?_)
      · have hy2 := hw2.resolve_right (fun g => c_18 g.1)
        obtain ⟨P, hpt⟩ := rk_pti_of hy0.2 hy1.2 hy2.2
        refine lv_aload_n hx hb d_Md_pattern_23 rfl (lv_at hl 0 rfl) ?_
        refine mw_get (v := .int (nI dr.length)) (ci := 7) (C := R_Md) (T := T_Md) (N := 14) J i_Md hK hP (mw_ov_is (i := 0) ho.1 (by decide) h0) rfl 9 (by decide) (hts _ k_387) (fun _ h9 => h9) rfl d_Md_pattern_24 ?_
        refine lv_iconst (v := 4) hx hb d_Md_pattern_27 (by decide) ?_
        refine mw_top (x' := nI 4) rfl ?_
        refine lv_icmp_ne (tgt := 34) hx hb d_Md_pattern_28 (by decide) (fun c_28 => ?_) (fun c_28 => ?_)
        · have c_28 : ¬ (dr.length = 4) := fun z => c_28 ((nI_eq (by omega) (by omega)).mpr z)
          refine lv_aload_n hx hb d_Md_pattern_34 rfl (lv_at hl 0 rfl) ?_
          refine mw_get (v := .ref (ad 7)) (ci := 7) (C := R_Md) (T := T_Md) (N := 14) J i_Md hK hP (mw_ov_is (i := 0) ho.1 (by decide) h0) rfl 8 (by decide) (hts _ k_386) (fun _ h9 => h9) rfl d_Md_pattern_35 ?_
          refine lv_iconst (v := 3) hx hb d_Md_pattern_38 (by decide) ?_
          refine mw_top (x' := nI 3) rfl ?_
          refine lv_aload_n hx hb d_Md_pattern_39 rfl (lv_at hl 0 rfl) ?_
          refine mw_get (v := .int (nI dr.length)) (ci := 7) (C := R_Md) (T := T_Md) (N := 14) J i_Md hK hP (mw_ov_is (i := 0) ho.1 (by decide) h0) rfl 9 (by decide) (hts _ k_387) (fun _ h9 => h9) rfl d_Md_pattern_40 ?_
          refine lv_imul hx hb d_Md_pattern_43 ?_
          refine mw_top (x' := nI (3 * dr.length)) (pk_mul _ _) ?_
          refine lv_iload_n hx hb d_Md_pattern_44 rfl (lv_at hl 1 rfl) ?_
          refine mw_iastN (k := (3 * dr.length)) J hK hP hS 0 (mw_ov_is (i := 7) ho.1 (by decide) h7) rfl (by omega) (by decide) d_Md_pattern_45 (fun H locs hP hS => ?_)
          rw [mw_ov_set ho.1 (by decide)] at hP
          have hP : mw_P D k_cl (mw_ov B ad (va_up cw 7 (.inl (cI, 12, .inl (upd df (3 * dr.length) x)))) 12) _ H := hP
          refine lv_aload_n hx hb d_Md_pattern_46 rfl (lv_at hl 0 rfl) ?_
          refine mw_get (v := .ref (ad 7)) (ci := 7) (C := R_Md) (T := T_Md) (N := 14) J i_Md hK hP (mw_ov_is (i := 0) ho.1 (by decide) h0) rfl 8 (by decide) (hts _ k_386) (fun _ h9 => h9) rfl d_Md_pattern_47 ?_
          refine lv_iconst (v := 3) hx hb d_Md_pattern_50 (by decide) ?_
          refine mw_top (x' := nI 3) rfl ?_
          refine lv_aload_n hx hb d_Md_pattern_51 rfl (lv_at hl 0 rfl) ?_
          refine mw_get (v := .int (nI dr.length)) (ci := 7) (C := R_Md) (T := T_Md) (N := 14) J i_Md hK hP (mw_ov_is (i := 0) ho.1 (by decide) h0) rfl 9 (by decide) (hts _ k_387) (fun _ h9 => h9) rfl d_Md_pattern_52 ?_
          refine lv_imul hx hb d_Md_pattern_55 ?_
          refine mw_top (x' := nI (3 * dr.length)) (pk_mul _ _) ?_
          refine lv_iconst (v := 1) hx hb d_Md_pattern_56 (by decide) ?_
          refine mw_top (x' := nI 1) rfl ?_
          refine lv_iadd hx hb d_Md_pattern_57 ?_
          refine mw_top (x' := nI (3 * dr.length + 1)) (nI_add _ _) ?_
          refine lv_iload_n hx hb d_Md_pattern_58 rfl (lv_at hl 2 rfl) ?_
          refine mw_iastN (k := (3 * dr.length + 1)) J hK hP hS 0 (mw_ov_is (i := 7) ho.1 (by decide) rfl) rfl (by omega) (by decide) d_Md_pattern_59 (fun H locs hP hS => ?_)
          rw [mw_ov_set ho.1 (by decide)] at hP
          have hP : mw_P D k_cl (mw_ov B ad (va_up (va_up cw 7 (.inl (cI, 12, .inl (upd df (3 * dr.length) x)))) 7 (.inl (cI, 12, .inl (upd (upd df (3 * dr.length) x) (3 * dr.length + 1) y)))) 12) _ H := hP
          refine lv_aload_n hx hb d_Md_pattern_60 rfl (lv_at hl 0 rfl) ?_
          refine mw_get (v := .ref (ad 7)) (ci := 7) (C := R_Md) (T := T_Md) (N := 14) J i_Md hK hP (mw_ov_is (i := 0) ho.1 (by decide) h0) rfl 8 (by decide) (hts _ k_386) (fun _ h9 => h9) rfl d_Md_pattern_61 ?_
          refine lv_iconst (v := 3) hx hb d_Md_pattern_64 (by decide) ?_
          refine mw_top (x' := nI 3) rfl ?_
          refine lv_aload_n hx hb d_Md_pattern_65 rfl (lv_at hl 0 rfl) ?_
          refine mw_get (v := .int (nI dr.length)) (ci := 7) (C := R_Md) (T := T_Md) (N := 14) J i_Md hK hP (mw_ov_is (i := 0) ho.1 (by decide) h0) rfl 9 (by decide) (hts _ k_387) (fun _ h9 => h9) rfl d_Md_pattern_66 ?_
          refine lv_imul hx hb d_Md_pattern_69 ?_
          refine mw_top (x' := nI (3 * dr.length)) (pk_mul _ _) ?_
          refine lv_iconst (v := 2) hx hb d_Md_pattern_70 (by decide) ?_
          refine mw_top (x' := nI 2) rfl ?_
          refine lv_iadd hx hb d_Md_pattern_71 ?_
          refine mw_top (x' := nI (3 * dr.length + 2)) (nI_add _ _) ?_
          refine lv_iload_n hx hb d_Md_pattern_72 rfl (lv_at hl 3 rfl) ?_
          refine mw_iastN (k := (3 * dr.length + 2)) J hK hP hS 0 (mw_ov_is (i := 7) ho.1 (by decide) rfl) rfl (by omega) (by decide) d_Md_pattern_73 (fun H locs hP hS => ?_)
          rw [mw_ov_set ho.1 (by decide)] at hP
          have hP : mw_P D k_cl (mw_ov B ad (va_up (va_up (va_up cw 7 (.inl (cI, 12, .inl (upd df (3 * dr.length) x)))) 7 (.inl (cI, 12, .inl (upd (upd df (3 * dr.length) x) (3 * dr.length + 1) y)))) 7 (.inl (cI, 12, .inl (upd (upd (upd df (3 * dr.length) x) (3 * dr.length + 1) y) (3 * dr.length + 2) z)))) 12) _ H := hP
          refine lv_aload_n hx hb d_Md_pattern_74 rfl (lv_at hl 0 rfl) ?_
          refine lv_dup hx hb d_Md_pattern_75 rfl ?_
          refine mw_get (v := .int (nI dr.length)) (ci := 7) (C := R_Md) (T := T_Md) (N := 14) J i_Md hK hP (mw_ov_is (i := 0) ho.1 (by decide) h0) rfl 9 (by decide) (hts _ k_387) (fun _ h9 => h9) rfl d_Md_pattern_76 ?_
          refine lv_iconst (v := 1) hx hb d_Md_pattern_79 (by decide) ?_
          refine mw_top (x' := nI 1) rfl ?_
          refine lv_iadd hx hb d_Md_pattern_80 ?_
          refine mw_top (x' := nI (dr.length + 1)) (nI_add _ _) ?_
          refine mw_put (v := .int (nI (dr.length + 1))) (ty := .int) (ci := 7) (C := R_Md) (T := T_Md) (N := 14) J i_Md t_Md o_Md n_Md hK hP hS (mw_ov_is (i := 0) ho.1 (by decide) h0) rfl 9 (by decide) (hts _ k_387) (fun _ h9 => h9) rfl rfl rfl rfl (Nat.le_of_ble_eq_true rfl) d_Md_pattern_81 (fun H locs hP hS => ?_)
          rw [mw_ov_set ho.1 (by decide)] at hP
          have hP : mw_P D k_cl (mw_ov B ad (va_up (va_up (va_up (va_up cw 7 (.inl (cI, 12, .inl (upd df (3 * dr.length) x)))) 7 (.inl (cI, 12, .inl (upd (upd df (3 * dr.length) x) (3 * dr.length + 1) y)))) 7 (.inl (cI, 12, .inl (upd (upd (upd df (3 * dr.length) x) (3 * dr.length + 1) y) (3 * dr.length + 2) z)))) 0 (.inr (7, [.ref (ad 1), .ref (ad 2), .ref (ad 3), .ref (ad 4), .int (nI L.length), .ref (ad 5), .ref (ad 6), .int (nI rs.length), .ref (ad 7), .int (nI (dr.length + 1)), .ref (ad 8), .ref (ad 9), .ref (ad 10), .ref (ad 11)]))) 12) _ H := hP
          refine lv_aload_n hx hb d_Md_pattern_84 rfl (lv_at hl 0 rfl) ?_
          refine mw_get (v := .int (nI (dr.length + 1))) (ci := 7) (C := R_Md) (T := T_Md) (N := 14) J i_Md hK hP (mw_ov_is (i := 0) ho.1 (by decide) rfl) rfl 9 (by decide) (hts _ k_387) (fun _ h9 => h9) rfl d_Md_pattern_85 ?_
          refine mw_iret J hr hlk hP hS d_Md_pattern_88 (⟨dr ++ [P], Or.inr ⟨P, hpt, Or.inr ⟨by omega, rfl, rfl⟩⟩, _, L, rfl, ho, ⟨h1, ⟨by rw [List.length_append]; rfl, hrw.2⟩, ⟨sp, h3, hsp⟩, ⟨it, bd, h5, h6, hru⟩, ⟨by rw [List.length_append]; show dr.length + 1 ≤ 4; omega, _, rfl, fun i hi => ?_⟩, m_s8_s hs8 rfl rfl rfl, q11, h11⟩, hh, hsd⟩)
          rw [List.length_append] at hi
          have hi : i < dr.length + 1 := hi
          by_cases e : i = dr.length
          · subst e
            rw [rk_dn_last]
            exact m_pt3 hpt
          · rw [rk_dn_app (by omega)]
            exact m_pt_s (hdf i (by omega)) (fun a ha => by rw [pk_un (by omega), pk_un (by omega), pk_un (by omega)])
        · have c_28 : dr.length = 4 := (nI_eq (by omega) (by omega)).mp c_28
          refine lv_bipush (v := (-3)) hx hb d_Md_pattern_31 (by decide) ?_
          exact mw_iret J hr hlk hP hS d_Md_pattern_33 (⟨dr, Or.inr ⟨P, hpt, Or.inl ⟨by omega, rfl, rfl⟩⟩, ⟨cw, L, rfl, ho, hkp, hh, hsd⟩⟩)
      · have hno : ¬ ∃ k, rk_pti x y z k := fun ⟨k, h⟩ => by
          rcases hw2 with ⟨g, _⟩ | ⟨_, g⟩
          · rw [g] at c_18
            exact absurd c_18 (by decide)
          · exact g (rk_pti_1 h).2.2
        refine lv_iconst (v := (-1)) hx hb d_Md_pattern_21 (by decide) ?_
        exact mw_iret J hr hlk hP hS d_Md_pattern_22 (⟨dr, Or.inl ⟨hno, rfl, rfl⟩, ⟨cw, L, rfl, ho, hkp, hh, hsd⟩⟩)
