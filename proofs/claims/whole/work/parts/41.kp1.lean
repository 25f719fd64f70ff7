/-! RuleKeeper.follow -/
set_option maxHeartbeats 4000000 in
set_option maxRecDepth 100000 in
theorem c_Kp_follow (l : Launch) (D : va_G) (cI cZ cP cR cC : ClassId) (tS : Nat) (sz : Nat) (B : mw_M) (ad : Nat → Nat) (cw : Nat → va_E) (pm : Nat) (L : List Nat) (ho : k_ov B ad) (hpm : B pm = some (.inr (0, [.ref (ad 4)]))) (ht : k_tr cI ad cw pm L) (ca : Nat) (hsv : ∃ cc u, k_sv cI cC B ad cw ca cc u) (hbl : ∀ d, d < 3 → k_blank cI ad cw d) (sm dn : Nat) (rs : List rk_Ru) (hc0 : cw 0 = k_k0 ad sm rs.length dn) (hmd : k_made cI cP cR B cw rs) (st0 se : Nat) (hst : st0 ≤ L.length) (hse : se ≤ L.length) (hP1 : ∀ i, i < rs.length → ∀ v, rk_case (rk_rth rs i) (· ∈ L.take st0) v → rk_inst (rk_rth rs i).2 v ∈ L) (hP2 : ∀ i, i + 1 < rs.length → ∀ v, rk_case (rk_rth rs i) (· ∈ L.take se) v → rk_inst (rk_rth rs i).2 v ∈ L) :
    Met l y_Kp_follow (.code y_Kp_follow b_Kp_follow 8 (some .boolean) :: gw) ({ frames := 8, cells := 0, slots := 0, locals := 184 }) (va_Pc [.ref (ad 0), .int (nI st0), .int (nI se)] (mw_B D k_cl (k_tys cI cZ cP cR cC) (k_g tS) (mw_ov B ad cw 21) sz)) (va_Qi (fun (rr : Int32) (M1 : mw_M) => ∃ cw1 N1, M1 = mw_ov B ad cw1 21 ∧ k_tr cI ad cw1 pm (L ++ N1) ∧ (∃ cc u, k_sv cI cC B ad cw1 ca cc u) ∧ (∀ d, d < 3 → k_blank cI ad cw1 d) ∧ (∀ i, i = 0 ∨ i = 5 ∨ i = 6 ∨ i = 7 → cw1 i = cw i) ∧ (∀ z, z ∈ N1 → rk_gen L rs z) ∧ ((rr = 1 ∧ ∀ i, i < rs.length → ∀ v, rk_case (rk_rth rs i) (· ∈ L ++ N1) v → rk_inst (rk_rth rs i).2 v ∈ L ++ N1) ∨ (rr = 0 ∧ (L ++ N1).length = 300 ∧ ∃ z, z ∉ L ++ N1 ∧ rk_gen L rs z))) (mw_E D k_cl (mw_ov B ad cw 21) sz) (mw_A (mw_ov B ad cw 21) sz)) 0 0 (mw_A (mw_ov B ad cw 21) sz) := by
  refine mw_met (by decide) rfl (Nat.le_of_ble_eq_true rfl) ?_
  intro p e s m below meth c hsz J hr hlk hnm hK hZ hP hS hA ls hl
  subst hsz
  have hx := J.1
  have hb := J.2.1
  have hts := J.2.2.2.2
  have hl : lv_has ls 8 [(0, .ref (ad 0)), (1, .int (nI st0)), (2, .int (nI se))] := hl
  have ht0 := ht
  obtain ⟨fc0, w0, -, -, -, -, -, hL300, -, -⟩ := id ht
  obtain ⟨hrs12, fm, hc6, hfm⟩ := id hmd
  refine lv_iload_n hx hb d_Kp_follow_0 rfl (lv_at hl 1 rfl) ?_
  refine lv_istore_n (lv' := [(3, .int (nI st0)), (0, .ref (ad 0)), (1, .int (nI st0)), (2, .int (nI se))]) hx hb d_Kp_follow_1 rfl hl (by decide) rfl (fun ls hl => ?_)
  refine mw_loop (W' := fun H locs ls => W p l e _ s m _ below meth c H locs _ _ _ (F0 m 2 ls [])) 300 (fun t H locs ls => ∃ (cx : Nat → va_E), ∃ (Nx : List Nat), lv_has ls 8 [(0, .ref (ad 0)), (1, .int (nI st0)), (2, .int (nI se)), (3, .int (nI t))] ∧ (k_tr cI ad cx pm (L ++ Nx)) ∧ (∃ cc u, k_sv cI cC B ad cx ca cc u) ∧ (∀ d, d < 3 → k_blank cI ad cx d) ∧ (∀ i, i = 0 ∨ i = 5 ∨ i = 6 ∨ i = 7 → cx i = cw i) ∧ (∀ z, z ∈ Nx → rk_gen L rs z) ∧ (t ≤ (L ++ Nx).length) ∧ (∀ i, i < rs.length → ∀ v, rk_case (rk_rth rs i) (· ∈ (L ++ Nx).take t) v → rk_inst (rk_rth rs i).2 v ∈ L ++ Nx) ∧ mw_P D k_cl (mw_ov B ad cx 21) (mw_A (mw_ov B ad cw 21) s.heap.size) H ∧ va_S (mw_A (mw_ov B ad cw 21) s.heap.size) s.heap H locs) ?_ 300 st0 (by omega) (by omega) _ _ _ ⟨cw, [], lv_sub hl [1, 2, 3, 0] rfl, (by rw [List.append_nil]; exact ht0), hsv, hbl, (fun _ _ => rfl), (fun z hz => absurd hz List.not_mem_nil), (by rw [List.append_nil]; exact hst), (by rw [List.append_nil]; exact hP1), hP, hS⟩
  intro t H locs ls hi_2 hI ih_2
  obtain ⟨cx, Nx, hl, ktx, ksx, hbx, hox, hgx, hat, hcl, hP, hS⟩ := hI
  obtain ⟨fx, wx, hx2, hx3, -, -, -, hx300, -, -⟩ := id ktx
  obtain ⟨ccx, ux, ksx0⟩ := id ksx
  refine lv_iload_n hx hb d_Kp_follow_2 rfl (lv_at hl 3 rfl) ?_
  refine lv_aload_n hx hb d_Kp_follow_3 rfl (lv_at hl 0 rfl) ?_
  refine mw_get (v := .ref (ad 2)) (ci := 6) (C := R_Kp) (T := T_Kp) (N := 7) J i_Kp hK hP (mw_ov_is (i := 0) ho.1 (by decide) ((hox 0 (by decide)).trans hc0)) rfl 1 (by decide) (hts _ k_169) (fun _ h9 => h9) rfl d_Kp_follow_4 ?_
  refine mw_get (v := .int (nI (L ++ Nx).length)) (ci := 1) (C := R_Tr) (T := T_Tr) (N := 3) J i_Tr hK hP (mw_ov_is (i := 2) ho.1 (by decide) hx2) rfl 2 (by decide) (hts _ k_49) (fun _ h9 => h9) rfl d_Kp_follow_7 ?_
  refine lv_icmp_ge (tgt := 112) hx hb d_Kp_follow_10 (by decide) (fun c_10 => ?_) (fun c_10 => ?_)
  · have c_10 : ((L ++ Nx).length) ≤ t := (nI_leI (by omega) (by omega)).mp c_10
    have hte : (L ++ Nx).take t = L ++ Nx := List.take_of_length_le (by omega)
    rw [hte] at hcl
    refine lv_iconst (v := 1) hx hb d_Kp_follow_112 (by decide) ?_
    exact mw_zret J hr hlk rfl hP hS d_Kp_follow_113 (⟨cx, Nx, rfl, ktx, ksx, hbx, hox, hgx, Or.inl ⟨rfl, hcl⟩⟩)
  · have c_10 : ¬ (((L ++ Nx).length) ≤ t) := fun z => c_10 ((nI_leI (by omega) (by omega)).mpr z)
    refine lv_iload_n hx hb d_Kp_follow_13 rfl (lv_at hl 3 rfl) ?_
    refine lv_sipush (v := 300) hx hb d_Kp_follow_14 (by decide) ?_
    refine mw_top (x' := nI 300) rfl ?_
    refine lv_icmp_ge (tgt := 112) hx hb d_Kp_follow_17 (by decide) (fun c_17 => ?_) (fun c_17 => ?_)
    · have c_17 : 300 ≤ t := (nI_leI (by omega) (by omega)).mp c_17
      have hte : (L ++ Nx).take t = L ++ Nx := List.take_of_length_le (by omega)
      rw [hte] at hcl
      refine lv_iconst (v := 1) hx hb d_Kp_follow_112 (by decide) ?_
      exact mw_zret J hr hlk rfl hP hS d_Kp_follow_113 (⟨cx, Nx, rfl, ktx, ksx, hbx, hox, hgx, Or.inl ⟨rfl, hcl⟩⟩)
    · have c_17 : ¬ (300 ≤ t) := fun z => c_17 ((nI_leI (by omega) (by omega)).mpr z)
      refine lv_iload_n hx hb d_Kp_follow_20 rfl (lv_at hl 3 rfl) ?_
      refine lv_iload_n hx hb d_Kp_follow_21 rfl (lv_at hl 2 rfl) ?_
      refine lv_icmp_ge (tgt := 38) hx hb d_Kp_follow_22 (by decide) (fun c_22 => ?_) (fun c_22 => ?_)
      · have c_22 : se ≤ t := (nI_leI (by omega) (by omega)).mp c_22
        refine lv_iconst (v := 0) hx hb d_Kp_follow_38 (by decide) ?_
        refine mw_top (x' := nI 0) nI_0.symm ?_
        refine lv_istore (lv' := [(4, .int (nI 0)), (0, .ref (ad 0)), (1, .int (nI st0)), (2, .int (nI se)), (3, .int (nI t))]) hx hb d_Kp_follow_39 hl (by decide) rfl (fun ls hl => ?_)
        refine lv_iload hx hb d_Kp_follow_41 (lv_at hl 0 rfl) ?_
        refine lv_istore (lv' := [(5, .int (nI 0)), (4, .int (nI 0)), (0, .ref (ad 0)), (1, .int (nI st0)), (2, .int (nI se)), (3, .int (nI t))]) hx hb d_Kp_follow_43 hl (by decide) rfl (fun ls hl => ?_)
        refine mw_loop (W' := fun H locs ls => W p l e _ s m _ below meth c H locs _ _ _ (F0 m 45 ls [])) rs.length (fun k H locs ls => ∃ (cy : Nat → va_E), ∃ (Ny : List Nat), lv_has ls 8 [(0, .ref (ad 0)), (1, .int (nI st0)), (2, .int (nI se)), (3, .int (nI t)), (5, .int (nI k))] ∧ (k_tr cI ad cy pm ((L ++ Nx) ++ Ny)) ∧ (∃ cc u, k_sv cI cC B ad cy ca cc u) ∧ (∀ d, d < 3 → k_blank cI ad cy d) ∧ (∀ i, i = 0 ∨ i = 5 ∨ i = 6 ∨ i = 7 → cy i = cw i) ∧ (∀ z, z ∈ Ny → rk_gen L rs z) ∧ (∀ j, 0 ≤ j → j < k → ∀ v, rk_case (rk_rth rs j) (· ∈ (L ++ Nx).take (t + 1)) v → rk_inst (rk_rth rs j).2 v ∈ (L ++ Nx) ++ Ny) ∧ mw_P D k_cl (mw_ov B ad cy 21) (mw_A (mw_ov B ad cw 21) s.heap.size) H ∧ va_S (mw_A (mw_ov B ad cw 21) s.heap.size) s.heap H locs) ?_ rs.length 0 (by omega) (by omega) _ _ _ ⟨cx, [], lv_sub hl [2, 3, 4, 5, 0] rfl, (by rw [List.append_nil]; exact ktx), ksx, hbx, hox, (fun z hz => absurd hz List.not_mem_nil), (fun j h1 h2 => absurd h2 (by omega)), hP, hS⟩
        intro k H locs ls hi_45 hI ih_45
        obtain ⟨cy, Ny, hl, kty, ksy, hby, hoy, hgy, hcy, hP, hS⟩ := hI
        obtain ⟨fy, wy, hy2, -⟩ := id kty
        obtain ⟨ccy, uy, ksy0⟩ := id ksy
        refine lv_iload hx hb d_Kp_follow_45 (lv_at hl 4 rfl) ?_
        refine lv_aload_n hx hb d_Kp_follow_47 rfl (lv_at hl 0 rfl) ?_
        refine mw_get (v := .int (nI rs.length)) (ci := 6) (C := R_Kp) (T := T_Kp) (N := 7) J i_Kp hK hP (mw_ov_is (i := 0) ho.1 (by decide) ((hoy 0 (by decide)).trans hc0)) rfl 5 (by decide) (hts _ k_173) (fun _ h9 => h9) rfl d_Kp_follow_48 ?_
        refine lv_icmp_ge (tgt := 106) hx hb d_Kp_follow_51 (by decide) (fun c_51 => ?_) (fun c_51 => ?_)
        · have c_51 : rs.length ≤ k := (nI_leI (by omega) (by omega)).mp c_51
          have hke : k = rs.length := by omega
          have hclN : ∀ j, j < rs.length → ∀ v, rk_case (rk_rth rs j) (· ∈ (L ++ Nx).take (t + 1)) v → rk_inst (rk_rth rs j).2 v ∈ (L ++ Nx) ++ Ny := fun j hj v hv => by
            exact hcy j (Nat.zero_le _) (by omega) v hv
          refine lv_iinc (v := nI (t + 1)) (lv' := [(3, .int (nI (t + 1))), (0, .ref (ad 0)), (1, .int (nI st0)), (2, .int (nI se)), (5, .int (nI k))]) hx hb d_Kp_follow_106 hl (k := 3) rfl (nI_1 t) (by decide) rfl (fun ls hl => ?_)
          refine lv_goto (tgt := 2) hx hb d_Kp_follow_109 (by decide) ?_
          exact ih_2 _ _ _ (by omega) ⟨cy, (Nx ++ Ny), lv_sub hl [1, 2, 3, 0] rfl, (by rw [← List.append_assoc]; exact kty), ksy, hby, hoy, (fun z hz => (List.mem_append.mp hz).elim (hgx z) (hgy z)), (by rw [← List.append_assoc, List.length_append]; omega), (by rw [← List.append_assoc, rk_take_app (by omega)]; exact hclN), hP, hS⟩
        · have c_51 : ¬ (rs.length ≤ k) := fun z => c_51 ((nI_leI (by omega) (by omega)).mpr z)
          obtain ⟨ra, hra, hrule, hok⟩ := hfm k (by omega)
          obtain ⟨hr3, bo, hd, sh, fo, fs, hr1, hr2, hr4, hrh, hfo, hfs⟩ := id hrule
          refine lv_aload_n hx hb d_Kp_follow_54 rfl (lv_at hl 0 rfl) ?_
          refine mw_get (v := .ref (ad 6)) (ci := 6) (C := R_Kp) (T := T_Kp) (N := 7) J i_Kp hK hP (mw_ov_is (i := 0) ho.1 (by decide) ((hoy 0 (by decide)).trans hc0)) rfl 3 (by decide) (hts _ k_171) (fun _ h9 => h9) rfl d_Kp_follow_55 ?_
          refine lv_iload hx hb d_Kp_follow_58 (lv_at hl 4 rfl) ?_
          refine mw_aaldN (k := k) (b := ra) J hK hP 3 (mw_ov_is (i := 6) ho.1 (by decide) ((hoy 6 (by decide)).trans hc6)) rfl (by omega) (by decide) hra d_Kp_follow_60 ?_
          refine lv_astore (lv' := [(6, .ref ra), (0, .ref (ad 0)), (1, .int (nI st0)), (2, .int (nI se)), (3, .int (nI t)), (5, .int (nI k))]) hx hb d_Kp_follow_61 hl (by decide) rfl (fun ls hl => ?_)
          refine lv_iconst (v := 0) hx hb d_Kp_follow_63 (by decide) ?_
          refine mw_top (x' := nI 0) nI_0.symm ?_
          refine lv_istore (lv' := [(7, .int (nI 0)), (6, .ref ra), (0, .ref (ad 0)), (1, .int (nI st0)), (2, .int (nI se)), (3, .int (nI t)), (5, .int (nI k))]) hx hb d_Kp_follow_64 hl (by decide) rfl (fun ls hl => ?_)
          refine mw_loop (W' := fun H locs ls => W p l e _ s m _ below meth c H locs _ _ _ (F0 m 66 ls [])) ((rk_rth rs k).1.length) (fun i H locs ls => ∃ (cz : Nat → va_E), ∃ (Nz : List Nat), lv_has ls 8 [(0, .ref (ad 0)), (1, .int (nI st0)), (2, .int (nI se)), (3, .int (nI t)), (5, .int (nI k)), (6, .ref ra), (7, .int (nI i))] ∧ (k_tr cI ad cz pm ((L ++ Nx) ++ Nz)) ∧ (∃ cc u, k_sv cI cC B ad cz ca cc u) ∧ (∀ d, d < 3 → k_blank cI ad cz d) ∧ (∀ i, i = 0 ∨ i = 5 ∨ i = 6 ∨ i = 7 → cz i = cw i) ∧ (∀ z, z ∈ Nz → rk_gen L rs z) ∧ (∀ j, 0 ≤ j → j < k → ∀ v, rk_case (rk_rth rs j) (· ∈ (L ++ Nx).take (t + 1)) v → rk_inst (rk_rth rs j).2 v ∈ (L ++ Nx) ++ Nz) ∧ (∀ j, j < i → rk_drv (rk_rth rs k) j (· ∈ (L ++ Nx).take t) (· ∈ (L ++ Nx).take (t + 1)) (· ∈ (L ++ Nx) ++ Nz)) ∧ mw_P D k_cl (mw_ov B ad cz 21) (mw_A (mw_ov B ad cw 21) s.heap.size) H ∧ va_S (mw_A (mw_ov B ad cw 21) s.heap.size) s.heap H locs) ?_ ((rk_rth rs k).1.length) 0 (by omega) (by omega) _ _ _ ⟨cy, Ny, lv_sub hl [2, 3, 4, 5, 6, 1, 0] rfl, kty, ksy, hby, hoy, hgy, hcy, (fun j hj => absurd hj (Nat.not_lt_zero j)), hP, hS⟩
          intro i H locs ls hi_66 hI ih_66
          obtain ⟨cz, Nz, hl, ktz, ksz, hbz, hoz, hgz, hcz, hdz, hP, hS⟩ := hI
          obtain ⟨fz, wz, hz2, -, -, -, -, -, -, hltz⟩ := id ktz
          obtain ⟨ccz, uz, ksz0⟩ := id ksz
          refine lv_iload hx hb d_Kp_follow_66 (lv_at hl 6 rfl) ?_
          refine lv_aload hx hb d_Kp_follow_68 (lv_at hl 5 rfl) ?_
          refine mw_get (v := .ref bo) (ci := 3) (C := R_Ru) (T := T_Ru) (N := 3) J i_Ru hK hP (mw_ov_fr ho.2 hr1) rfl 0 (by decide) (hts _ k_156) (fun _ h9 => h9) rfl d_Kp_follow_70 ?_
          refine mw_alen (v := nI ((rk_rth rs k).1.length)) J hK hP 2 (mw_ov_fr ho.2 hr2) rfl rfl d_Kp_follow_73 ?_
          refine lv_icmp_ge (tgt := 100) hx hb d_Kp_follow_74 (by decide) (fun c_74 => ?_) (fun c_74 => ?_)
          · have c_74 : ((rk_rth rs k).1.length) ≤ i := (nI_leI (by omega) (by omega)).mp c_74
            have hie : i = (rk_rth rs k).1.length := by omega
            have hrch := rk_reach (r := rk_rth rs k) (S := (· ∈ (L ++ Nx).take t)) (S1 := (· ∈ (L ++ Nx).take (t + 1))) (X := (· ∈ (L ++ Nx) ++ Nz)) (fun z hz => by rw [rk_take_succ (by omega)]; exact List.mem_append_left _ hz) (fun v hv => List.mem_append_left _ (hcl k (by omega) v hv)) (fun j hj => hdz j (by omega))
            have hczN : ∀ j, 0 ≤ j → j < k + 1 → ∀ v, rk_case (rk_rth rs j) (· ∈ (L ++ Nx).take (t + 1)) v → rk_inst (rk_rth rs j).2 v ∈ (L ++ Nx) ++ Nz := fun j h1 h2 v hv => by
              by_cases e : j = k
              · subst e
                exact hrch v hv
              · exact hcz j h1 (by omega) v hv
            refine lv_iinc (v := nI (k + 1)) (lv' := [(5, .int (nI (k + 1))), (0, .ref (ad 0)), (1, .int (nI st0)), (2, .int (nI se)), (3, .int (nI t)), (6, .ref ra), (7, .int (nI i))]) hx hb d_Kp_follow_100 hl (k := 4) rfl (nI_1 k) (by decide) rfl (fun ls hl => ?_)
            refine lv_goto (tgt := 45) hx hb d_Kp_follow_103 (by decide) ?_
            exact ih_45 _ _ _ (by omega) ⟨cz, Nz, lv_sub hl [1, 2, 3, 4, 0] rfl, ktz, ksz, hbz, hoz, hgz, hczN, hP, hS⟩
          · have c_74 : ¬ (((rk_rth rs k).1.length) ≤ i) := fun z => c_74 ((nI_leI (by omega) (by omega)).mpr z)
            refine lv_aload_n hx hb d_Kp_follow_77 rfl (lv_at hl 0 rfl) ?_
            refine mw_get (v := .ref (ad 1)) (ci := 6) (C := R_Kp) (T := T_Kp) (N := 7) J i_Kp hK hP (mw_ov_is (i := 0) ho.1 (by decide) ((hoz 0 (by decide)).trans hc0)) rfl 0 (by decide) (hts _ k_168) (fun _ h9 => h9) rfl d_Kp_follow_78 ?_
            refine lv_aload hx hb d_Kp_follow_81 (lv_at hl 5 rfl) ?_
            refine lv_iload hx hb d_Kp_follow_83 (lv_at hl 6 rfl) ?_
            refine lv_iload_n hx hb d_Kp_follow_85 rfl (lv_at hl 3 rfl) ?_
            refine mw_afterI hP hS hA (mw_runV (As := [.ref ra, .int (nI i), .int (nI t)]) (rest := []) J hK hZ hP hS hA (mw_ov_is (i := 1) ho.1 (by decide) ksz0.1) rfl (c_Sv_derive l D cI cZ cP cR cC tS _ B ad cz pm ((L ++ Nx) ++ Nz) ho hpm ktz ca ccz uz ksz0 hbz ra (rk_rth rs k) hrule hok i t (by omega) (by rw [List.length_append]; omega)) (cwV 3 hts (mw_gV k_231 k_232 k_233 k_2 k_234) rfl rfl rfl (by decide +kernel) ⟨Nat.le_of_ble_eq_true rfl, Nat.le_of_ble_eq_true rfl⟩) rfl hl.1 rfl (Nat.le_of_ble_eq_true rfl) d_Kp_follow_86 ⟨Nat.le_of_ble_eq_true rfl, Nat.le_of_ble_eq_true rfl⟩) (fun rr M1 H locs hw hP hS => ?_)
            obtain ⟨c5, N5, u5, cc5, rfl, kt5, ks5, hb5, ho50, hN5, hcase⟩ := hw
            rw [rk_take_app (a := t + 1) (by omega)] at hN5 hcase
            rw [rk_take_app (a := t) (by omega)] at hcase
            rw [List.append_assoc (L ++ Nx)] at kt5 hcase
            have ho5 : ∀ i, i = 0 ∨ i = 5 ∨ i = 6 ∨ i = 7 → c5 i = cw i := fun i hi => by rw [ho50 i hi]; exact hoz i hi
            have hga : ∀ z, z ∈ (L ++ Nx).take (t + 1) → rk_gen L rs z := fun z hz => (List.mem_append.mp (List.mem_of_mem_take hz)).elim rk_gen_in (hgx z)
            have hg5 : ∀ z, z ∈ Nz ++ N5 → rk_gen L rs z := fun z hz => (List.mem_append.mp hz).elim (hgz z) (fun h => by
              obtain ⟨v, g1, g2⟩ := hN5 z h
              rw [← g2]
              exact rk_gen_case (by omega) hga g1)
            have hsub : ∀ z, z ∈ (L ++ Nx) ++ Nz → z ∈ (L ++ Nx) ++ (Nz ++ N5) := fun z hz => by rw [← List.append_assoc]; exact List.mem_append_left _ hz
            have hc5 := fun j h1 h2 v hv => hsub _ (hcz j h1 h2 v hv)
            have hd5 : ∀ j, j < i → rk_drv (rk_rth rs k) j (· ∈ (L ++ Nx).take t) (· ∈ (L ++ Nx).take (t + 1)) (· ∈ (L ++ Nx) ++ (Nz ++ N5)) := fun j hj => rk_drv_mono (hdz j hj) hsub
            refine lv_if_ne (tgt := 94) hx hb d_Kp_follow_89 (by decide) (fun c_89 => ?_) (fun c_89 => ?_)
            · have hdn5 : rk_drv (rk_rth rs k) i (· ∈ (L ++ Nx).take t) (· ∈ (L ++ Nx).take (t + 1)) (· ∈ (L ++ Nx) ++ (Nz ++ N5)) := by
                rcases hcase with ⟨_, h⟩ | ⟨h, _⟩
                · exact h
                · exact absurd h c_89
              refine lv_iinc (v := nI (i + 1)) (lv' := [(7, .int (nI (i + 1))), (0, .ref (ad 0)), (1, .int (nI st0)), (2, .int (nI se)), (3, .int (nI t)), (5, .int (nI k)), (6, .ref ra)]) hx hb d_Kp_follow_94 hl (k := 6) rfl (nI_1 i) (by decide) rfl (fun ls hl => ?_)
              refine lv_goto (tgt := 66) hx hb d_Kp_follow_97 (by decide) ?_
              exact ih_66 _ _ _ (by omega) ⟨c5, (Nz ++ N5), lv_sub hl [1, 2, 3, 4, 5, 6, 0] rfl, kt5, ⟨_, _, ks5⟩, hb5, ho5, hg5, hc5, (lt_s hd5 hdn5), hP, hS⟩
            · have hfull : ((L ++ Nx) ++ (Nz ++ N5)).length = 300 ∧ ∃ z, z ∉ (L ++ Nx) ++ (Nz ++ N5) ∧ rk_gen L rs z := by
                rcases hcase with ⟨h, _⟩ | ⟨_, h, z, h1, v, h2, h3⟩
                · rw [h] at c_89
                  exact absurd c_89 (by decide)
                · exact ⟨h, z, h1, by rw [← h3]; exact rk_gen_case (by omega) hga h2⟩
              refine lv_iconst (v := 0) hx hb d_Kp_follow_92 (by decide) ?_
              exact mw_zret J hr hlk rfl hP hS d_Kp_follow_93 (⟨c5, Nx ++ (Nz ++ N5), rfl, by rw [← List.append_assoc]; exact kt5, ⟨_, _, ks5⟩, hb5, ho5, fun z hz => (List.mem_append.mp hz).elim (hgx z) (hg5 z), Or.inr ⟨rfl, by rw [← List.append_assoc]; exact hfull⟩⟩)
      · have c_22 : ¬ (se ≤ t) := fun z => c_22 ((nI_leI (by omega) (by omega)).mpr z)
        refine lv_aload_n hx hb d_Kp_follow_25 rfl (lv_at hl 0 rfl) ?_
        refine mw_get (v := .int (nI rs.length)) (ci := 6) (C := R_Kp) (T := T_Kp) (N := 7) J i_Kp hK hP (mw_ov_is (i := 0) ho.1 (by decide) ((hox 0 (by decide)).trans hc0)) rfl 5 (by decide) (hts _ k_173) (fun _ h9 => h9) rfl d_Kp_follow_26 ?_
        refine lv_iconst (v := 1) hx hb d_Kp_follow_29 (by decide) ?_
        refine mw_top (x' := nI 1) rfl ?_
        refine lv_isub hx hb d_Kp_follow_30 ?_
        refine lv_iconst (v := 0) hx hb d_Kp_follow_31 (by decide) ?_
        refine va_mmax hx hb (J.2.2.1.trans hl.1.symm) J.2.2.2.1 (hts _ k_228) (hts _ k_229) (hts _ k_9) (hts _ k_230) (Nat.le_of_ble_eq_true rfl) (Nat.le_of_ble_eq_true rfl) (Nat.le_of_ble_eq_true rfl) (Nat.le_of_ble_eq_true rfl) d_Kp_follow_32 ?_
        refine mw_top (x' := nI (rs.length - 1)) (rk_pred0 hrs12) ?_
        refine lv_goto (tgt := 39) hx hb d_Kp_follow_35 (by decide) ?_
        refine lv_istore (lv' := [(4, .int (nI (rs.length - 1))), (0, .ref (ad 0)), (1, .int (nI st0)), (2, .int (nI se)), (3, .int (nI t))]) hx hb d_Kp_follow_39 hl (by decide) rfl (fun ls hl => ?_)
        refine lv_iload hx hb d_Kp_follow_41 (lv_at hl 0 rfl) ?_
        refine lv_istore (lv' := [(5, .int (nI (rs.length - 1))), (4, .int (nI (rs.length - 1))), (0, .ref (ad 0)), (1, .int (nI st0)), (2, .int (nI se)), (3, .int (nI t))]) hx hb d_Kp_follow_43 hl (by decide) rfl (fun ls hl => ?_)
        refine mw_loop (W' := fun H locs ls => W p l e _ s m _ below meth c H locs _ _ _ (F0 m 45 ls [])) rs.length (fun k H locs ls => ∃ (cy : Nat → va_E), ∃ (Ny : List Nat), lv_has ls 8 [(0, .ref (ad 0)), (1, .int (nI st0)), (2, .int (nI se)), (3, .int (nI t)), (5, .int (nI k))] ∧ (k_tr cI ad cy pm ((L ++ Nx) ++ Ny)) ∧ (∃ cc u, k_sv cI cC B ad cy ca cc u) ∧ (∀ d, d < 3 → k_blank cI ad cy d) ∧ (∀ i, i = 0 ∨ i = 5 ∨ i = 6 ∨ i = 7 → cy i = cw i) ∧ (∀ z, z ∈ Ny → rk_gen L rs z) ∧ (∀ j, (rs.length - 1) ≤ j → j < k → ∀ v, rk_case (rk_rth rs j) (· ∈ (L ++ Nx).take (t + 1)) v → rk_inst (rk_rth rs j).2 v ∈ (L ++ Nx) ++ Ny) ∧ mw_P D k_cl (mw_ov B ad cy 21) (mw_A (mw_ov B ad cw 21) s.heap.size) H ∧ va_S (mw_A (mw_ov B ad cw 21) s.heap.size) s.heap H locs) ?_ rs.length (rs.length - 1) (by omega) (by omega) _ _ _ ⟨cx, [], lv_sub hl [2, 3, 4, 5, 0] rfl, (by rw [List.append_nil]; exact ktx), ksx, hbx, hox, (fun z hz => absurd hz List.not_mem_nil), (fun j h1 h2 => absurd h2 (by omega)), hP, hS⟩
        intro k H locs ls hi_45 hI ih_45
        obtain ⟨cy, Ny, hl, kty, ksy, hby, hoy, hgy, hcy, hP, hS⟩ := hI
        obtain ⟨fy, wy, hy2, -⟩ := id kty
        obtain ⟨ccy, uy, ksy0⟩ := id ksy
        refine lv_iload hx hb d_Kp_follow_45 (lv_at hl 4 rfl) ?_
        refine lv_aload_n hx hb d_Kp_follow_47 rfl (lv_at hl 0 rfl) ?_
        refine mw_get (v := .int (nI rs.length)) (ci := 6) (C := R_Kp) (T := T_Kp) (N := 7) J i_Kp hK hP (mw_ov_is (i := 0) ho.1 (by decide) ((hoy 0 (by decide)).trans hc0)) rfl 5 (by decide) (hts _ k_173) (fun _ h9 => h9) rfl d_Kp_follow_48 ?_
        refine lv_icmp_ge (tgt := 106) hx hb d_Kp_follow_51 (by decide) (fun c_51 => ?_) (fun c_51 => ?_)
        · have c_51 : rs.length ≤ k := (nI_leI (by omega) (by omega)).mp c_51
          have hke : k = rs.length := by omega
          have hclN : ∀ j, j < rs.length → ∀ v, rk_case (rk_rth rs j) (· ∈ (L ++ Nx).take (t + 1)) v → rk_inst (rk_rth rs j).2 v ∈ (L ++ Nx) ++ Ny := fun j hj v hv => by
            by_cases e : rs.length - 1 ≤ j
            · exact hcy j e (by omega) v hv
            · refine List.mem_append_left _ (List.mem_append_left _ (hP2 j (by omega) v (rk_case_mono hv (fun z hz => ?_))))
              have hz : z ∈ (L ++ Nx).take (t + 1) := hz
              rw [rk_take_app (by omega)] at hz
              have e2 : L.take se = L.take (t + 1) ++ (L.take se).drop (t + 1) := by
                have := List.take_append_drop (t + 1) (L.take se)
                rw [List.take_take, Nat.min_eq_left (by omega)] at this
                exact this.symm
              show z ∈ L.take se
              rw [e2]
              exact List.mem_append_left _ hz
          refine lv_iinc (v := nI (t + 1)) (lv' := [(3, .int (nI (t + 1))), (0, .ref (ad 0)), (1, .int (nI st0)), (2, .int (nI se)), (5, .int (nI k))]) hx hb d_Kp_follow_106 hl (k := 3) rfl (nI_1 t) (by decide) rfl (fun ls hl => ?_)
          refine lv_goto (tgt := 2) hx hb d_Kp_follow_109 (by decide) ?_
          exact ih_2 _ _ _ (by omega) ⟨cy, (Nx ++ Ny), lv_sub hl [1, 2, 3, 0] rfl, (by rw [← List.append_assoc]; exact kty), ksy, hby, hoy, (fun z hz => (List.mem_append.mp hz).elim (hgx z) (hgy z)), (by rw [← List.append_assoc, List.length_append]; omega), (by rw [← List.append_assoc, rk_take_app (by omega)]; exact hclN), hP, hS⟩
        · have c_51 : ¬ (rs.length ≤ k) := fun z => c_51 ((nI_leI (by omega) (by omega)).mpr z)
          obtain ⟨ra, hra, hrule, hok⟩ := hfm k (by omega)
          obtain ⟨hr3, bo, hd, sh, fo, fs, hr1, hr2, hr4, hrh, hfo, hfs⟩ := id hrule
          refine lv_aload_n hx hb d_Kp_follow_54 rfl (lv_at hl 0 rfl) ?_
          refine mw_get (v := .ref (ad 6)) (ci := 6) (C := R_Kp) (T := T_Kp) (N := 7) J i_Kp hK hP (mw_ov_is (i := 0) ho.1 (by decide) ((hoy 0 (by decide)).trans hc0)) rfl 3 (by decide) (hts _ k_171) (fun _ h9 => h9) rfl d_Kp_follow_55 ?_
          refine lv_iload hx hb d_Kp_follow_58 (lv_at hl 4 rfl) ?_
          refine mw_aaldN (k := k) (b := ra) J hK hP 3 (mw_ov_is (i := 6) ho.1 (by decide) ((hoy 6 (by decide)).trans hc6)) rfl (by omega) (by decide) hra d_Kp_follow_60 ?_
          refine lv_astore (lv' := [(6, .ref ra), (0, .ref (ad 0)), (1, .int (nI st0)), (2, .int (nI se)), (3, .int (nI t)), (5, .int (nI k))]) hx hb d_Kp_follow_61 hl (by decide) rfl (fun ls hl => ?_)
          refine lv_iconst (v := 0) hx hb d_Kp_follow_63 (by decide) ?_
          refine mw_top (x' := nI 0) nI_0.symm ?_
          refine lv_istore (lv' := [(7, .int (nI 0)), (6, .ref ra), (0, .ref (ad 0)), (1, .int (nI st0)), (2, .int (nI se)), (3, .int (nI t)), (5, .int (nI k))]) hx hb d_Kp_follow_64 hl (by decide) rfl (fun ls hl => ?_)
          refine mw_loop (W' := fun H locs ls => W p l e _ s m _ below meth c H locs _ _ _ (F0 m 66 ls [])) ((rk_rth rs k).1.length) (fun i H locs ls => ∃ (cz : Nat → va_E), ∃ (Nz : List Nat), lv_has ls 8 [(0, .ref (ad 0)), (1, .int (nI st0)), (2, .int (nI se)), (3, .int (nI t)), (5, .int (nI k)), (6, .ref ra), (7, .int (nI i))] ∧ (k_tr cI ad cz pm ((L ++ Nx) ++ Nz)) ∧ (∃ cc u, k_sv cI cC B ad cz ca cc u) ∧ (∀ d, d < 3 → k_blank cI ad cz d) ∧ (∀ i, i = 0 ∨ i = 5 ∨ i = 6 ∨ i = 7 → cz i = cw i) ∧ (∀ z, z ∈ Nz → rk_gen L rs z) ∧ (∀ j, (rs.length - 1) ≤ j → j < k → ∀ v, rk_case (rk_rth rs j) (· ∈ (L ++ Nx).take (t + 1)) v → rk_inst (rk_rth rs j).2 v ∈ (L ++ Nx) ++ Nz) ∧ (∀ j, j < i → rk_drv (rk_rth rs k) j (· ∈ (L ++ Nx).take t) (· ∈ (L ++ Nx).take (t + 1)) (· ∈ (L ++ Nx) ++ Nz)) ∧ mw_P D k_cl (mw_ov B ad cz 21) (mw_A (mw_ov B ad cw 21) s.heap.size) H ∧ va_S (mw_A (mw_ov B ad cw 21) s.heap.size) s.heap H locs) ?_ ((rk_rth rs k).1.length) 0 (by omega) (by omega) _ _ _ ⟨cy, Ny, lv_sub hl [2, 3, 4, 5, 6, 1, 0] rfl, kty, ksy, hby, hoy, hgy, hcy, (fun j hj => absurd hj (Nat.not_lt_zero j)), hP, hS⟩
          intro i H locs ls hi_66 hI ih_66
          obtain ⟨cz, Nz, hl, ktz, ksz, hbz, hoz, hgz, hcz, hdz, hP, hS⟩ := hI
          obtain ⟨fz, wz, hz2, -, -, -, -, -, -, hltz⟩ := id ktz
          obtain ⟨ccz, uz, ksz0⟩ := id ksz
          refine lv_iload hx hb d_Kp_follow_66 (lv_at hl 6 rfl) ?_
          refine lv_aload hx hb d_Kp_follow_68 (lv_at hl 5 rfl) ?_
          refine mw_get (v := .ref bo) (ci := 3) (C := R_Ru) (T := T_Ru) (N := 3) J i_Ru hK hP (mw_ov_fr ho.2 hr1) rfl 0 (by decide) (hts _ k_156) (fun _ h9 => h9) rfl d_Kp_follow_70 ?_
          refine mw_alen (v := nI ((rk_rth rs k).1.length)) J hK hP 2 (mw_ov_fr ho.2 hr2) rfl rfl d_Kp_follow_73 ?_
          refine lv_icmp_ge (tgt := 100) hx hb d_Kp_follow_74 (by decide) (fun c_74 => ?_) (fun c_74 => ?_)
          · have c_74 : ((rk_rth rs k).1.length) ≤ i := (nI_leI (by omega) (by omega)).mp c_74
            have hie : i = (rk_rth rs k).1.length := by omega
            have hrch := rk_reach (r := rk_rth rs k) (S := (· ∈ (L ++ Nx).take t)) (S1 := (· ∈ (L ++ Nx).take (t + 1))) (X := (· ∈ (L ++ Nx) ++ Nz)) (fun z hz => by rw [rk_take_succ (by omega)]; exact List.mem_append_left _ hz) (fun v hv => List.mem_append_left _ (hcl k (by omega) v hv)) (fun j hj => hdz j (by omega))
            have hczN : ∀ j, (rs.length - 1) ≤ j → j < k + 1 → ∀ v, rk_case (rk_rth rs j) (· ∈ (L ++ Nx).take (t + 1)) v → rk_inst (rk_rth rs j).2 v ∈ (L ++ Nx) ++ Nz := fun j h1 h2 v hv => by
              by_cases e : j = k
              · subst e
                exact hrch v hv
              · exact hcz j h1 (by omega) v hv
            refine lv_iinc (v := nI (k + 1)) (lv' := [(5, .int (nI (k + 1))), (0, .ref (ad 0)), (1, .int (nI st0)), (2, .int (nI se)), (3, .int (nI t)), (6, .ref ra), (7, .int (nI i))]) hx hb d_Kp_follow_100 hl (k := 4) rfl (nI_1 k) (by decide) rfl (fun ls hl => ?_)
            refine lv_goto (tgt := 45) hx hb d_Kp_follow_103 (by decide) ?_
            exact ih_45 _ _ _ (by omega) ⟨cz, Nz, lv_sub hl [1, 2, 3, 4, 0] rfl, ktz, ksz, hbz, hoz, hgz, hczN, hP, hS⟩
          · have c_74 : ¬ (((rk_rth rs k).1.length) ≤ i) := fun z => c_74 ((nI_leI (by omega) (by omega)).mpr z)
            refine lv_aload_n hx hb d_Kp_follow_77 rfl (lv_at hl 0 rfl) ?_
            refine mw_get (v := .ref (ad 1)) (ci := 6) (C := R_Kp) (T := T_Kp) (N := 7) J i_Kp hK hP (mw_ov_is (i := 0) ho.1 (by decide) ((hoz 0 (by decide)).trans hc0)) rfl 0 (by decide) (hts _ k_168) (fun _ h9 => h9) rfl d_Kp_follow_78 ?_
            refine lv_aload hx hb d_Kp_follow_81 (lv_at hl 5 rfl) ?_
            refine lv_iload hx hb d_Kp_follow_83 (lv_at hl 6 rfl) ?_
            refine lv_iload_n hx hb d_Kp_follow_85 rfl (lv_at hl 3 rfl) ?_
            refine mw_afterI hP hS hA (mw_runV (As := [.ref ra, .int (nI i), .int (nI t)]) (rest := []) J hK hZ hP hS hA (mw_ov_is (i := 1) ho.1 (by decide) ksz0.1) rfl (c_Sv_derive l D cI cZ cP cR cC tS _ B ad cz pm ((L ++ Nx) ++ Nz) ho hpm ktz ca ccz uz ksz0 hbz ra (rk_rth rs k) hrule hok i t (by omega) (by rw [List.length_append]; omega)) (cwV 3 hts (mw_gV k_231 k_232 k_233 k_2 k_234) rfl rfl rfl (by decide +kernel) ⟨Nat.le_of_ble_eq_true rfl, Nat.le_of_ble_eq_true rfl⟩) rfl hl.1 rfl (Nat.le_of_ble_eq_true rfl) d_Kp_follow_86 ⟨Nat.le_of_ble_eq_true rfl, Nat.le_of_ble_eq_true rfl⟩) (fun rr M1 H locs hw hP hS => ?_)
            obtain ⟨c5, N5, u5, cc5, rfl, kt5, ks5, hb5, ho50, hN5, hcase⟩ := hw
            rw [rk_take_app (a := t + 1) (by omega)] at hN5 hcase
            rw [rk_take_app (a := t) (by omega)] at hcase
            rw [List.append_assoc (L ++ Nx)] at kt5 hcase
            have ho5 : ∀ i, i = 0 ∨ i = 5 ∨ i = 6 ∨ i = 7 → c5 i = cw i := fun i hi => by rw [ho50 i hi]; exact hoz i hi
            have hga : ∀ z, z ∈ (L ++ Nx).take (t + 1) → rk_gen L rs z := fun z hz => (List.mem_append.mp (List.mem_of_mem_take hz)).elim rk_gen_in (hgx z)
            have hg5 : ∀ z, z ∈ Nz ++ N5 → rk_gen L rs z := fun z hz => (List.mem_append.mp hz).elim (hgz z) (fun h => by
              obtain ⟨v, g1, g2⟩ := hN5 z h
              rw [← g2]
              exact rk_gen_case (by omega) hga g1)
            have hsub : ∀ z, z ∈ (L ++ Nx) ++ Nz → z ∈ (L ++ Nx) ++ (Nz ++ N5) := fun z hz => by rw [← List.append_assoc]; exact List.mem_append_left _ hz
            have hc5 := fun j h1 h2 v hv => hsub _ (hcz j h1 h2 v hv)
            have hd5 : ∀ j, j < i → rk_drv (rk_rth rs k) j (· ∈ (L ++ Nx).take t) (· ∈ (L ++ Nx).take (t + 1)) (· ∈ (L ++ Nx) ++ (Nz ++ N5)) := fun j hj => rk_drv_mono (hdz j hj) hsub
            refine lv_if_ne (tgt := 94) hx hb d_Kp_follow_89 (by decide) (fun c_89 => ?_) (fun c_89 => ?_)
            · have hdn5 : rk_drv (rk_rth rs k) i (· ∈ (L ++ Nx).take t) (· ∈ (L ++ Nx).take (t + 1)) (· ∈ (L ++ Nx) ++ (Nz ++ N5)) := by
                rcases hcase with ⟨_, h⟩ | ⟨h, _⟩
                · exact h
                · exact absurd h c_89
              refine lv_iinc (v := nI (i + 1)) (lv' := [(7, .int (nI (i + 1))), (0, .ref (ad 0)), (1, .int (nI st0)), (2, .int (nI se)), (3, .int (nI t)), (5, .int (nI k)), (6, .ref ra)]) hx hb d_Kp_follow_94 hl (k := 6) rfl (nI_1 i) (by decide) rfl (fun ls hl => ?_)
              refine lv_goto (tgt := 66) hx hb d_Kp_follow_97 (by decide) ?_
              exact ih_66 _ _ _ (by omega) ⟨c5, (Nz ++ N5), lv_sub hl [1, 2, 3, 4, 5, 6, 0] rfl, kt5, ⟨_, _, ks5⟩, hb5, ho5, hg5, hc5, (lt_s hd5 hdn5), hP, hS⟩
            · have hfull : ((L ++ Nx) ++ (Nz ++ N5)).length = 300 ∧ ∃ z, z ∉ (L ++ Nx) ++ (Nz ++ N5) ∧ rk_gen L rs z := by
                rcases hcase with ⟨h, _⟩ | ⟨_, h, z, h1, v, h2, h3⟩
                · rw [h] at c_89
                  exact absurd c_89 (by decide)
                · exact ⟨h, z, h1, by rw [← h3]; exact rk_gen_case (by omega) hga h2⟩
              refine lv_iconst (v := 0) hx hb d_Kp_follow_92 (by decide) ?_
              exact mw_zret J hr hlk rfl hP hS d_Kp_follow_93 (⟨c5, Nx ++ (Nz ++ N5), rfl, by rw [← List.append_assoc]; exact kt5, ⟨_, _, ks5⟩, hb5, ho5, fun z hz => (List.mem_append.mp hz).elim (hgx z) (hg5 z), Or.inr ⟨rfl, by rw [← List.append_assoc]; exact hfull⟩⟩)
