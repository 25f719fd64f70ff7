/-! RuleKeeper: isNumber, isTriple, isItem, isPattern, codeOf, hold, holdAnew -/
set_option maxHeartbeats 4000000 in
set_option maxRecDepth 100000 in
theorem c_Kp_isNumber (l : Launch) (D : va_G) (cI cZ cP cR cC : ClassId) (tS : Nat) (sz : Nat) (M : mw_M) (x : Int32) :
    Met l y_Kp_isNumber (.code y_Kp_isNumber b_Kp_isNumber 1 (some .boolean) :: gw) ({ frames := 0, cells := 0, slots := 0, locals := 0 }) (va_Pc [.int x] (mw_B D k_cl (k_tys cI cZ cP cR cC) (k_g tS) M sz)) (va_Qi (fun (r : Int32) (M1 : mw_M) => M1 = M ∧ ((r = 1 ∧ rk_isn x) ∨ (r = 0 ∧ ¬ rk_isn x))) (mw_E D k_cl M sz) (mw_A M sz)) 0 0 (mw_A M sz) := by
  refine mw_met (by decide) rfl (Nat.le_of_ble_eq_true rfl) ?_
  intro p e s m below meth c hsz J hr hlk hnm hK hZ hP hS hA ls hl
  subst hsz
  have hx := J.1
  have hb := J.2.1
  have hts := J.2.2.2.2
  have hl : lv_has ls 1 [(0, .int x)] := hl
  refine lv_iload_n hx hb d_Kp_isNumber_0 rfl (lv_at hl 0 rfl) ?_
  refine lv_if_lt (tgt := 14) hx hb d_Kp_isNumber_1 (by decide) (fun c_1 => ?_) (fun c_1 => ?_)
  · have hn := rk_isn_lo c_1
    refine lv_iconst (v := 0) hx hb d_Kp_isNumber_14 (by decide) ?_
    exact mw_zret J hr hlk rfl hP hS d_Kp_isNumber_15 (⟨rfl, Or.inr ⟨rfl, hn⟩⟩)
  · refine lv_iload_n hx hb d_Kp_isNumber_4 rfl (lv_at hl 0 rfl) ?_
    refine lv_bipush (v := 32) hx hb d_Kp_isNumber_5 (by decide) ?_
    refine lv_icmp_ge (tgt := 14) hx hb d_Kp_isNumber_7 (by decide) (fun c_7 => ?_) (fun c_7 => ?_)
    · have hn := rk_isn_hi c_7
      refine lv_iconst (v := 0) hx hb d_Kp_isNumber_14 (by decide) ?_
      exact mw_zret J hr hlk rfl hP hS d_Kp_isNumber_15 (⟨rfl, Or.inr ⟨rfl, hn⟩⟩)
    · have hy := rk_isn_of c_1 c_7
      refine lv_iconst (v := 1) hx hb d_Kp_isNumber_10 (by decide) ?_
      refine lv_goto (tgt := 15) hx hb d_Kp_isNumber_11 (by decide) ?_
      exact mw_zret J hr hlk rfl hP hS d_Kp_isNumber_15 (⟨rfl, Or.inl ⟨rfl, hy⟩⟩)

set_option maxHeartbeats 4000000 in
set_option maxRecDepth 100000 in
theorem c_Kp_isItem (l : Launch) (D : va_G) (cI cZ cP cR cC : ClassId) (tS : Nat) (sz : Nat) (M : mw_M) (x : Int32) :
    Met l y_Kp_isItem (.code y_Kp_isItem b_Kp_isItem 1 (some .boolean) :: gw) ({ frames := 0, cells := 0, slots := 0, locals := 0 }) (va_Pc [.int x] (mw_B D k_cl (k_tys cI cZ cP cR cC) (k_g tS) M sz)) (va_Qi (fun (r : Int32) (M1 : mw_M) => M1 = M ∧ ((r = 1 ∧ rk_isi x) ∨ (r = 0 ∧ ¬ rk_isi x))) (mw_E D k_cl M sz) (mw_A M sz)) 0 0 (mw_A M sz) := by
  refine mw_met (by decide) rfl (Nat.le_of_ble_eq_true rfl) ?_
  intro p e s m below meth c hsz J hr hlk hnm hK hZ hP hS hA ls hl
  subst hsz
  have hx := J.1
  have hb := J.2.1
  have hts := J.2.2.2.2
  have hl : lv_has ls 1 [(0, .int x)] := hl
  refine lv_iload_n hx hb d_Kp_isItem_0 rfl (lv_at hl 0 rfl) ?_
  refine lv_bipush (v := (-8)) hx hb d_Kp_isItem_1 (by decide) ?_
  refine lv_icmp_lt (tgt := 16) hx hb d_Kp_isItem_3 (by decide) (fun c_3 => ?_) (fun c_3 => ?_)
  · have hn := rk_isi_lo c_3
    refine lv_iconst (v := 0) hx hb d_Kp_isItem_16 (by decide) ?_
    exact mw_zret J hr hlk rfl hP hS d_Kp_isItem_17 (⟨rfl, Or.inr ⟨rfl, hn⟩⟩)
  · refine lv_iload_n hx hb d_Kp_isItem_6 rfl (lv_at hl 0 rfl) ?_
    refine lv_bipush (v := 32) hx hb d_Kp_isItem_7 (by decide) ?_
    refine lv_icmp_ge (tgt := 16) hx hb d_Kp_isItem_9 (by decide) (fun c_9 => ?_) (fun c_9 => ?_)
    · have hn := rk_isi_hi c_9
      refine lv_iconst (v := 0) hx hb d_Kp_isItem_16 (by decide) ?_
      exact mw_zret J hr hlk rfl hP hS d_Kp_isItem_17 (⟨rfl, Or.inr ⟨rfl, hn⟩⟩)
    · have hy := rk_isi_of c_3 c_9
      refine lv_iconst (v := 1) hx hb d_Kp_isItem_12 (by decide) ?_
      refine lv_goto (tgt := 17) hx hb d_Kp_isItem_13 (by decide) ?_
      exact mw_zret J hr hlk rfl hP hS d_Kp_isItem_17 (⟨rfl, Or.inl ⟨rfl, hy⟩⟩)

set_option maxHeartbeats 4000000 in
set_option maxRecDepth 100000 in
theorem c_Kp_isTriple (l : Launch) (D : va_G) (cI cZ cP cR cC : ClassId) (tS : Nat) (sz : Nat) (M : mw_M) (x y z : Int32) :
    Met l y_Kp_isTriple (.code y_Kp_isTriple b_Kp_isTriple 3 (some .boolean) :: gw) ({ frames := 1, cells := 0, slots := 0, locals := 20 }) (va_Pc [.int x, .int y, .int z] (mw_B D k_cl (k_tys cI cZ cP cR cC) (k_g tS) M sz)) (va_Qi (fun (r : Int32) (M1 : mw_M) => M1 = M ∧ ((r = 1 ∧ ∃ k, rk_tri x y z k) ∨ (r = 0 ∧ ¬ ∃ k, rk_tri x y z k))) (mw_E D k_cl M sz) (mw_A M sz)) 0 0 (mw_A M sz) := by
  refine mw_met (by decide) rfl (Nat.le_of_ble_eq_true rfl) ?_
  intro p e s m below meth c hsz J hr hlk hnm hK hZ hP hS hA ls hl
  subst hsz
  have hx := J.1
  have hb := J.2.1
  have hts := J.2.2.2.2
  have hl : lv_has ls 3 [(0, .int x), (1, .int y), (2, .int z)] := hl
  refine lv_iload_n hx hb d_Kp_isTriple_0 rfl (lv_at hl 0 rfl) ?_
  refine mw_afterI hP hS hA (mw_runS (As := [.int x]) (rest := []) J hK hZ hP hS hA (c_Kp_isNumber l D cI cZ cP cR cC tS _ M x) (cwS 1 hts (mw_gS k_197 k_198 k_1 k_199) rfl rfl rfl (by decide +kernel) ⟨Nat.le_of_ble_eq_true rfl, Nat.le_of_ble_eq_true rfl⟩) rfl hl.1 rfl (Nat.le_of_ble_eq_true rfl) d_Kp_isTriple_1 ⟨Nat.le_of_ble_eq_true rfl, Nat.le_of_ble_eq_true rfl⟩) (fun r0 M1 H locs hw hP hS => ?_)
  obtain ⟨e1, hw0⟩ := hw
  rw [e1] at hP
  refine lv_if_eq (tgt := 25) hx hb d_Kp_isTriple_4 (by decide) (fun c_4 => ?_) (fun c_4 => ?_)
  · have hn : ¬ ∃ k, rk_tri x y z k := fun ⟨k, h⟩ => by
      rcases hw0 with ⟨g, _⟩ | ⟨_, g⟩
      · rw [g] at c_4
        exact absurd c_4 (by decide)
      · exact g (rk_tri_1 h).1
    refine lv_iconst (v := 0) hx hb d_Kp_isTriple_25 (by decide) ?_
    exact mw_zret J hr hlk rfl hP hS d_Kp_isTriple_26 (⟨rfl, Or.inr ⟨rfl, hn⟩⟩)
  · have hy0 := hw0.resolve_right (fun g => c_4 g.1)
    refine lv_iload_n hx hb d_Kp_isTriple_7 rfl (lv_at hl 1 rfl) ?_
    refine mw_afterI hP hS hA (mw_runS (As := [.int y]) (rest := []) J hK hZ hP hS hA (c_Kp_isNumber l D cI cZ cP cR cC tS _ M y) (cwS 1 hts (mw_gS k_197 k_198 k_1 k_199) rfl rfl rfl (by decide +kernel) ⟨Nat.le_of_ble_eq_true rfl, Nat.le_of_ble_eq_true rfl⟩) rfl hl.1 rfl (Nat.le_of_ble_eq_true rfl) d_Kp_isTriple_8 ⟨Nat.le_of_ble_eq_true rfl, Nat.le_of_ble_eq_true rfl⟩) (fun r1 M1 H locs hw hP hS => ?_)
    obtain ⟨e1, hw1⟩ := hw
    rw [e1] at hP
    refine lv_if_eq (tgt := 25) hx hb d_Kp_isTriple_11 (by decide) (fun c_11 => ?_) (fun c_11 => ?_)
    · have hn : ¬ ∃ k, rk_tri x y z k := fun ⟨k, h⟩ => by
        rcases hw1 with ⟨g, _⟩ | ⟨_, g⟩
        · rw [g] at c_11
          exact absurd c_11 (by decide)
        · exact g (rk_tri_1 h).2.1
      refine lv_iconst (v := 0) hx hb d_Kp_isTriple_25 (by decide) ?_
      exact mw_zret J hr hlk rfl hP hS d_Kp_isTriple_26 (⟨rfl, Or.inr ⟨rfl, hn⟩⟩)
    · have hy1 := hw1.resolve_right (fun g => c_11 g.1)
      refine lv_iload_n hx hb d_Kp_isTriple_14 rfl (lv_at hl 2 rfl) ?_
      refine mw_afterI hP hS hA (mw_runS (As := [.int z]) (rest := []) J hK hZ hP hS hA (c_Kp_isNumber l D cI cZ cP cR cC tS _ M z) (cwS 1 hts (mw_gS k_197 k_198 k_1 k_199) rfl rfl rfl (by decide +kernel) ⟨Nat.le_of_ble_eq_true rfl, Nat.le_of_ble_eq_true rfl⟩) rfl hl.1 rfl (Nat.le_of_ble_eq_true rfl) d_Kp_isTriple_15 ⟨Nat.le_of_ble_eq_true rfl, Nat.le_of_ble_eq_true rfl⟩) (fun r2 M1 H locs hw hP hS => ?_)
      obtain ⟨e1, hw2⟩ := hw
      rw [e1] at hP
      refine lv_if_eq (tgt := 25) hx hb d_Kp_isTriple_18 (by decide) (fun c_18 => ?_) (fun c_18 => ?_)
      · have hn : ¬ ∃ k, rk_tri x y z k := fun ⟨k, h⟩ => by
          rcases hw2 with ⟨g, _⟩ | ⟨_, g⟩
          · rw [g] at c_18
            exact absurd c_18 (by decide)
          · exact g (rk_tri_1 h).2.2
        refine lv_iconst (v := 0) hx hb d_Kp_isTriple_25 (by decide) ?_
        exact mw_zret J hr hlk rfl hP hS d_Kp_isTriple_26 (⟨rfl, Or.inr ⟨rfl, hn⟩⟩)
      · have hy2 := hw2.resolve_right (fun g => c_18 g.1)
        refine lv_iconst (v := 1) hx hb d_Kp_isTriple_21 (by decide) ?_
        refine lv_goto (tgt := 26) hx hb d_Kp_isTriple_22 (by decide) ?_
        exact mw_zret J hr hlk rfl hP hS d_Kp_isTriple_26 (⟨rfl, Or.inl ⟨rfl, rk_tri_of hy0.2 hy1.2 hy2.2⟩⟩)

set_option maxHeartbeats 4000000 in
set_option maxRecDepth 100000 in
theorem c_Kp_isPattern (l : Launch) (D : va_G) (cI cZ cP cR cC : ClassId) (tS : Nat) (sz : Nat) (M : mw_M) (x y z : Int32) :
    Met l y_Kp_isPattern (.code y_Kp_isPattern b_Kp_isPattern 3 (some .boolean) :: gw) ({ frames := 1, cells := 0, slots := 0, locals := 20 }) (va_Pc [.int x, .int y, .int z] (mw_B D k_cl (k_tys cI cZ cP cR cC) (k_g tS) M sz)) (va_Qi (fun (r : Int32) (M1 : mw_M) => M1 = M ∧ ((r = 1 ∧ ∃ k, rk_pti x y z k) ∨ (r = 0 ∧ ¬ ∃ k, rk_pti x y z k))) (mw_E D k_cl M sz) (mw_A M sz)) 0 0 (mw_A M sz) := by
  refine mw_met (by decide) rfl (Nat.le_of_ble_eq_true rfl) ?_
  intro p e s m below meth c hsz J hr hlk hnm hK hZ hP hS hA ls hl
  subst hsz
  have hx := J.1
  have hb := J.2.1
  have hts := J.2.2.2.2
  have hl : lv_has ls 3 [(0, .int x), (1, .int y), (2, .int z)] := hl
  refine lv_iload_n hx hb d_Kp_isPattern_0 rfl (lv_at hl 0 rfl) ?_
  refine mw_afterI hP hS hA (mw_runS (As := [.int x]) (rest := []) J hK hZ hP hS hA (c_Kp_isItem l D cI cZ cP cR cC tS _ M x) (cwS 1 hts (mw_gS k_316 k_317 k_1 k_318) rfl rfl rfl (by decide +kernel) ⟨Nat.le_of_ble_eq_true rfl, Nat.le_of_ble_eq_true rfl⟩) rfl hl.1 rfl (Nat.le_of_ble_eq_true rfl) d_Kp_isPattern_1 ⟨Nat.le_of_ble_eq_true rfl, Nat.le_of_ble_eq_true rfl⟩) (fun r0 M1 H locs hw hP hS => ?_)
  obtain ⟨e1, hw0⟩ := hw
  rw [e1] at hP
  refine lv_if_eq (tgt := 25) hx hb d_Kp_isPattern_4 (by decide) (fun c_4 => ?_) (fun c_4 => ?_)
  · have hn : ¬ ∃ k, rk_pti x y z k := fun ⟨k, h⟩ => by
      rcases hw0 with ⟨g, _⟩ | ⟨_, g⟩
      · rw [g] at c_4
        exact absurd c_4 (by decide)
      · exact g (rk_pti_1 h).1
    refine lv_iconst (v := 0) hx hb d_Kp_isPattern_25 (by decide) ?_
    exact mw_zret J hr hlk rfl hP hS d_Kp_isPattern_26 (⟨rfl, Or.inr ⟨rfl, hn⟩⟩)
  · have hy0 := hw0.resolve_right (fun g => c_4 g.1)
    refine lv_iload_n hx hb d_Kp_isPattern_7 rfl (lv_at hl 1 rfl) ?_
    refine mw_afterI hP hS hA (mw_runS (As := [.int y]) (rest := []) J hK hZ hP hS hA (c_Kp_isItem l D cI cZ cP cR cC tS _ M y) (cwS 1 hts (mw_gS k_316 k_317 k_1 k_318) rfl rfl rfl (by decide +kernel) ⟨Nat.le_of_ble_eq_true rfl, Nat.le_of_ble_eq_true rfl⟩) rfl hl.1 rfl (Nat.le_of_ble_eq_true rfl) d_Kp_isPattern_8 ⟨Nat.le_of_ble_eq_true rfl, Nat.le_of_ble_eq_true rfl⟩) (fun r1 M1 H locs hw hP hS => ?_)
    obtain ⟨e1, hw1⟩ := hw
    rw [e1] at hP
    refine lv_if_eq (tgt := 25) hx hb d_Kp_isPattern_11 (by decide) (fun c_11 => ?_) (fun c_11 => ?_)
    · have hn : ¬ ∃ k, rk_pti x y z k := fun ⟨k, h⟩ => by
        rcases hw1 with ⟨g, _⟩ | ⟨_, g⟩
        · rw [g] at c_11
          exact absurd c_11 (by decide)
        · exact g (rk_pti_1 h).2.1
      refine lv_iconst (v := 0) hx hb d_Kp_isPattern_25 (by decide) ?_
      exact mw_zret J hr hlk rfl hP hS d_Kp_isPattern_26 (⟨rfl, Or.inr ⟨rfl, hn⟩⟩)
    · have hy1 := hw1.resolve_right (fun g => c_11 g.1)
      refine lv_iload_n hx hb d_Kp_isPattern_14 rfl (lv_at hl 2 rfl) ?_
      refine mw_afterI hP hS hA (mw_runS (As := [.int z]) (rest := []) J hK hZ hP hS hA (c_Kp_isItem l D cI cZ cP cR cC tS _ M z) (cwS 1 hts (mw_gS k_316 k_317 k_1 k_318) rfl rfl rfl (by decide +kernel) ⟨Nat.le_of_ble_eq_true rfl, Nat.le_of_ble_eq_true rfl⟩) rfl hl.1 rfl (Nat.le_of_ble_eq_true rfl) d_Kp_isPattern_15 ⟨Nat.le_of_ble_eq_true rfl, Nat.le_of_ble_eq_true rfl⟩) (fun r2 M1 H locs hw hP hS => ?_)
      obtain ⟨e1, hw2⟩ := hw
      rw [e1] at hP
      refine lv_if_eq (tgt := 25) hx hb d_Kp_isPattern_18 (by decide) (fun c_18 => ?_) (fun c_18 => ?_)
      · have hn : ¬ ∃ k, rk_pti x y z k := fun ⟨k, h⟩ => by
          rcases hw2 with ⟨g, _⟩ | ⟨_, g⟩
          · rw [g] at c_18
            exact absurd c_18 (by decide)
          · exact g (rk_pti_1 h).2.2
        refine lv_iconst (v := 0) hx hb d_Kp_isPattern_25 (by decide) ?_
        exact mw_zret J hr hlk rfl hP hS d_Kp_isPattern_26 (⟨rfl, Or.inr ⟨rfl, hn⟩⟩)
      · have hy2 := hw2.resolve_right (fun g => c_18 g.1)
        refine lv_iconst (v := 1) hx hb d_Kp_isPattern_21 (by decide) ?_
        refine lv_goto (tgt := 26) hx hb d_Kp_isPattern_22 (by decide) ?_
        exact mw_zret J hr hlk rfl hP hS d_Kp_isPattern_26 (⟨rfl, Or.inl ⟨rfl, rk_pti_of hy0.2 hy1.2 hy2.2⟩⟩)

set_option maxHeartbeats 4000000 in
set_option maxRecDepth 100000 in
theorem c_Kp_codeOf (l : Launch) (D : va_G) (cI cZ cP cR cC : ClassId) (tS : Nat) (sz : Nat) (M : mw_M) (x y z : Int32) (k : Nat) (hk : rk_tri x y z k) :
    Met l y_Kp_codeOf (.code y_Kp_codeOf b_Kp_codeOf 3 (some .int) :: gw) ({ frames := 0, cells := 0, slots := 0, locals := 0 }) (va_Pc [.int x, .int y, .int z] (mw_B D k_cl (k_tys cI cZ cP cR cC) (k_g tS) M sz)) (va_Qi (fun (r : Int32) (M1 : mw_M) => M1 = M ∧ r = nI k) (mw_E D k_cl M sz) (mw_A M sz)) 0 0 (mw_A M sz) := by
  refine mw_met (by decide) rfl (Nat.le_of_ble_eq_true rfl) ?_
  intro p e s m below meth c hsz J hr hlk hnm hK hZ hP hS hA ls hl
  subst hsz
  have hx := J.1
  have hb := J.2.1
  have hts := J.2.2.2.2
  have hl : lv_has ls 3 [(0, .int x), (1, .int y), (2, .int z)] := hl
  obtain ⟨i, j, n, hi, hj, hn, rfl, rfl, rfl, rfl⟩ := hk
  have hl : lv_has ls 3 [(0, .int (nI i)), (1, .int (nI j)), (2, .int (nI n))] := hl
  refine lv_iload_n hx hb d_Kp_codeOf_0 rfl (lv_at hl 0 rfl) ?_
  refine lv_bipush (v := 32) hx hb d_Kp_codeOf_1 (by decide) ?_
  refine mw_top (x' := nI 32) rfl ?_
  refine lv_imul hx hb d_Kp_codeOf_3 ?_
  refine mw_top (x' := nI (i * 32)) (pk_mul _ _) ?_
  refine lv_iload_n hx hb d_Kp_codeOf_4 rfl (lv_at hl 1 rfl) ?_
  refine lv_iadd hx hb d_Kp_codeOf_5 ?_
  refine mw_top (x' := nI (i * 32 + j)) (nI_add _ _) ?_
  refine lv_bipush (v := 32) hx hb d_Kp_codeOf_6 (by decide) ?_
  refine mw_top (x' := nI 32) rfl ?_
  refine lv_imul hx hb d_Kp_codeOf_8 ?_
  refine mw_top (x' := nI ((i * 32 + j) * 32)) (pk_mul _ _) ?_
  refine lv_iload_n hx hb d_Kp_codeOf_9 rfl (lv_at hl 2 rfl) ?_
  refine lv_iadd hx hb d_Kp_codeOf_10 ?_
  refine mw_top (x' := nI ((i * 32 + j) * 32 + n)) (nI_add _ _) ?_
  exact mw_iret J hr hlk hP hS d_Kp_codeOf_11 (⟨rfl, by unfold rk_pk; congr 1; omega⟩)

set_option maxHeartbeats 4000000 in
set_option maxRecDepth 100000 in
theorem c_Kp_hold (l : Launch) (D : va_G) (cI cZ cP cR cC : ClassId) (tS : Nat) (sz : Nat) (B : mw_M) (ad : Nat → Nat) (cw : Nat → va_E) (pm : Nat) (L : List Nat) (ho : k_ov B ad) (hpm : B pm = some (.inr (0, [.ref (ad 4)]))) (ht : k_tr cI ad cw pm L) (ca : Nat) (hsv : ∃ cc u, k_sv cI cC B ad cw ca cc u) (hbl : ∀ d, d < 3 → k_blank cI ad cw d) (sm dn : Nat) (rs : List rk_Ru) (hc0 : cw 0 = k_k0 ad sm rs.length dn) (hmd : k_made cI cP cR B cw rs) (hclo : rk_clo rs L) (k : Nat) (hk : k < 32768) (hkL : k ∉ L) :
    Met l y_Kp_hold (.code y_Kp_hold b_Kp_hold 3 (some .boolean) :: gw) ({ frames := 9, cells := 0, slots := 0, locals := 211 }) (va_Pc [.ref (ad 0), .int (nI k)] (mw_B D k_cl (k_tys cI cZ cP cR cC) (k_g tS) (mw_ov B ad cw 21) sz)) (va_Qi (fun (rr : Int32) (M1 : mw_M) => ∃ cw1, M1 = mw_ov B ad cw1 21 ∧ (∃ cc u, k_sv cI cC B ad cw1 ca cc u) ∧ (∀ d, d < 3 → k_blank cI ad cw1 d) ∧ (∀ i, i = 0 ∨ i = 5 ∨ i = 6 ∨ i = 7 → cw1 i = cw i) ∧ ((rr = 1 ∧ ∃ N1, k_tr cI ad cw1 pm ((L ++ [k]) ++ N1) ∧ (∀ z, z ∈ N1 → rk_gen (L ++ [k]) rs z) ∧ rk_clo rs ((L ++ [k]) ++ N1)) ∨ (rr = 0 ∧ k_tr cI ad cw1 pm L ∧ rk_many (L ++ [k]) rs))) (mw_E D k_cl (mw_ov B ad cw 21) sz) (mw_A (mw_ov B ad cw 21) sz)) 0 0 (mw_A (mw_ov B ad cw 21) sz) := by
  refine mw_met (by decide) rfl (Nat.le_of_ble_eq_true rfl) ?_
  intro p e s m below meth c hsz J hr hlk hnm hK hZ hP hS hA ls hl
  subst hsz
  have hx := J.1
  have hb := J.2.1
  have hts := J.2.2.2.2
  have hl : lv_has ls 3 [(0, .ref (ad 0)), (1, .int (nI k))] := hl
  have ht0 := ht
  obtain ⟨fc, w, hc2, hc3, hc4, hfc, hW, hL3, hnd, hlt⟩ := ht
  refine lv_aload_n hx hb d_Kp_hold_0 rfl (lv_at hl 0 rfl) ?_
  refine mw_get (v := .ref (ad 2)) (ci := 6) (C := R_Kp) (T := T_Kp) (N := 7) J i_Kp hK hP (mw_ov_is (i := 0) ho.1 (by decide) hc0) rfl 1 (by decide) (hts _ k_169) (fun _ h9 => h9) rfl d_Kp_hold_1 ?_
  refine mw_get (v := .int (nI L.length)) (ci := 1) (C := R_Tr) (T := T_Tr) (N := 3) J i_Tr hK hP (mw_ov_is (i := 2) ho.1 (by decide) hc2) rfl 2 (by decide) (hts _ k_49) (fun _ h9 => h9) rfl d_Kp_hold_4 ?_
  refine lv_istore_n (lv' := [(2, .int (nI L.length)), (0, .ref (ad 0)), (1, .int (nI k))]) hx hb d_Kp_hold_7 rfl hl (by decide) rfl (fun ls hl => ?_)
  refine lv_aload_n hx hb d_Kp_hold_8 rfl (lv_at hl 1 rfl) ?_
  refine mw_get (v := .ref (ad 2)) (ci := 6) (C := R_Kp) (T := T_Kp) (N := 7) J i_Kp hK hP (mw_ov_is (i := 0) ho.1 (by decide) hc0) rfl 1 (by decide) (hts _ k_169) (fun _ h9 => h9) rfl d_Kp_hold_9 ?_
  refine lv_iload_n hx hb d_Kp_hold_12 rfl (lv_at hl 2 rfl) ?_
  refine mw_afterI hP hS hA (mw_runV (As := [.int (nI k)]) (rest := []) J hK hZ hP hS hA (mw_ov_is (i := 2) ho.1 (by decide) hc2) rfl (c_Tr_add l D cI cZ cP cR cC tS _ B ad cw pm L ho hpm ht0 k hk hkL) (cwV 1 hts (mw_gV k_216 k_217 k_218 k_3 k_219) rfl rfl rfl (by decide +kernel) ⟨Nat.le_of_ble_eq_true rfl, Nat.le_of_ble_eq_true rfl⟩) rfl hl.1 rfl (Nat.le_of_ble_eq_true rfl) d_Kp_hold_13 ⟨Nat.le_of_ble_eq_true rfl, Nat.le_of_ble_eq_true rfl⟩) (fun r1 M1 H locs hw hP hS => ?_)
  refine lv_if_eq (tgt := 30) hx hb d_Kp_hold_16 (by decide) (fun c_16 => ?_) (fun c_16 => ?_)
  · have hfl : L.length = 300 ∧ M1 = mw_ov B ad cw 21 := by
      rcases hw with ⟨_, h, _⟩ | ⟨h1, _, h2⟩
      · rw [h] at c_16
        exact absurd c_16 (by decide)
      · exact ⟨h1, h2⟩
    obtain ⟨hfl, rfl⟩ := hfl
    have hmany : rk_many (L ++ [k]) rs := rk_many_of hnd hfl (fun z hz => rk_gen_in (List.mem_append_left _ hz)) hkL (rk_gen_in (by simp))
    refine lv_aload_n hx hb d_Kp_hold_30 rfl (lv_at hl 1 rfl) ?_
    refine mw_get (v := .ref (ad 2)) (ci := 6) (C := R_Kp) (T := T_Kp) (N := 7) J i_Kp hK hP (mw_ov_is (i := 0) ho.1 (by decide) hc0) rfl 1 (by decide) (hts _ k_169) (fun _ h9 => h9) rfl d_Kp_hold_31 ?_
    refine lv_iload_n hx hb d_Kp_hold_34 rfl (lv_at hl 0 rfl) ?_
    refine mw_afterV hP hS hA (mw_runV (As := [.int (nI L.length)]) (rest := []) J hK hZ hP hS hA (mw_ov_is (i := 2) ho.1 (by decide) hc2) rfl (c_Tr_cutTo l D cI cZ cP cR cC tS _ B ad cw pm L ho hpm ht0 L.length (Nat.le_refl _)) (cwV 1 hts (mw_gV k_283 k_284 k_285 k_3 k_286) rfl rfl rfl (by decide +kernel) ⟨Nat.le_of_ble_eq_true rfl, Nat.le_of_ble_eq_true rfl⟩) rfl hl.1 rfl (Nat.le_of_ble_eq_true rfl) d_Kp_hold_35 ⟨Nat.le_of_ble_eq_true rfl, Nat.le_of_ble_eq_true rfl⟩) (fun M1 H locs hw hP hS => ?_)
    obtain ⟨c3, rfl, kt3, ho3⟩ := hw
    rw [List.take_length] at kt3
    have hsv3 : ∃ cc u, k_sv cI cC B ad c3 ca cc u := by
      obtain ⟨cc, u, a1, a2, a3⟩ := hsv
      exact ⟨cc, u, (ho3 1 (by decide) (by decide) (by decide)).trans a1, (ho3 8 (by decide) (by decide) (by decide)).trans a2, a3⟩
    have hbl3 : ∀ d, d < 3 → k_blank cI ad c3 d := fun d hd => k_blank_same (hbl d hd) (fun z hz => ho3 _ (by omega) (by omega) (by omega))
    have hox3 : ∀ i, i = 0 ∨ i = 5 ∨ i = 6 ∨ i = 7 → c3 i = cw i := fun i hi => ho3 i (by omega) (by omega) (by omega)
    refine lv_iconst (v := 0) hx hb d_Kp_hold_38 (by decide) ?_
    exact mw_zret J hr hlk rfl hP hS d_Kp_hold_39 (⟨c3, rfl, hsv3, hbl3, hox3, Or.inr ⟨rfl, kt3, hmany⟩⟩)
  · have had : ∃ c1, M1 = mw_ov B ad c1 21 ∧ k_tr cI ad c1 pm (L ++ [k]) ∧ (∀ i, i ≠ 2 → i ≠ 3 → i ≠ 4 → c1 i = cw i) := by
      rcases hw with ⟨_, _, c1, h1, h2, h3⟩ | ⟨_, h, _⟩
      · exact ⟨c1, h1, h2, h3⟩
      · exact absurd h c_16
    obtain ⟨c1, rfl, kt1, ho1⟩ := had
    have hsv1 : ∃ cc u, k_sv cI cC B ad c1 ca cc u := by
      obtain ⟨cc, u, a1, a2, a3⟩ := hsv
      exact ⟨cc, u, (ho1 1 (by decide) (by decide) (by decide)).trans a1, (ho1 8 (by decide) (by decide) (by decide)).trans a2, a3⟩
    have hbl1 : ∀ d, d < 3 → k_blank cI ad c1 d := fun d hd => k_blank_same (hbl d hd) (fun z hz => ho1 _ (by omega) (by omega) (by omega))
    have hox1 : ∀ i, i = 0 ∨ i = 5 ∨ i = 6 ∨ i = 7 → c1 i = cw i := fun i hi => ho1 i (by omega) (by omega) (by omega)
    have hmd1 : k_made cI cP cR B c1 rs := by
      obtain ⟨a1, fm, a2, a3⟩ := hmd
      exact ⟨a1, fm, (hox1 6 (by decide)).trans a2, a3⟩
    have hpre : ∀ i, i < rs.length → ∀ v, rk_case (rk_rth rs i) (· ∈ (L ++ [k]).take L.length) v → rk_inst (rk_rth rs i).2 v ∈ L ++ [k] := fun i hi v hv => by
      rw [rk_take_app (Nat.le_refl _), List.take_length] at hv
      exact List.mem_append_left _ (hclo i hi v hv)
    obtain ⟨f1, w1, h12, -⟩ := id kt1
    refine lv_aload_n hx hb d_Kp_hold_19 rfl (lv_at hl 1 rfl) ?_
    refine lv_iload_n hx hb d_Kp_hold_20 rfl (lv_at hl 0 rfl) ?_
    refine lv_iload_n hx hb d_Kp_hold_21 rfl (lv_at hl 0 rfl) ?_
    refine mw_afterI hP hS hA (mw_runV (As := [.int (nI L.length), .int (nI L.length)]) (rest := []) J hK hZ hP hS hA (mw_ov_is (i := 0) ho.1 (by decide) ((hox1 0 (by decide)).trans hc0)) rfl (c_Kp_follow l D cI cZ cP cR cC tS _ B ad c1 pm (L ++ [k]) ho hpm kt1 ca hsv1 hbl1 sm dn rs ((hox1 0 (by decide)).trans hc0) hmd1 L.length L.length (by rw [List.length_append]; omega) (by rw [List.length_append]; omega) hpre (fun i hi => hpre i (by omega))) (cwV 2 hts (mw_gV k_224 k_226 s_Kp_follow k_1 k_227) rfl rfl rfl (by decide +kernel) ⟨Nat.le_of_ble_eq_true rfl, Nat.le_of_ble_eq_true rfl⟩) rfl hl.1 rfl (Nat.le_of_ble_eq_true rfl) d_Kp_hold_22 ⟨Nat.le_of_ble_eq_true rfl, Nat.le_of_ble_eq_true rfl⟩) (fun r2 M1 H locs hw hP hS => ?_)
    obtain ⟨c2, N1, rfl, kt2, hsv2, hbl2, hox20, hg2, hcase⟩ := hw
    have hox2 : ∀ i, i = 0 ∨ i = 5 ∨ i = 6 ∨ i = 7 → c2 i = cw i := fun i hi => by rw [hox20 i hi]; exact hox1 i hi
    obtain ⟨f2, w2, h22, -, -, -, -, -, hnd2, -⟩ := id kt2
    refine lv_if_eq (tgt := 30) hx hb d_Kp_hold_25 (by decide) (fun c_25 => ?_) (fun c_25 => ?_)
    · have hno := hcase.resolve_left (fun g => by rw [g.1] at c_25; exact absurd c_25 (by decide))
      have hmany : rk_many (L ++ [k]) rs := by
        obtain ⟨_, h3, z, hz, hg⟩ := hno
        exact rk_many_of hnd2 h3 (fun y hy => (List.mem_append.mp hy).elim rk_gen_in (hg2 y)) hz hg
      refine lv_aload_n hx hb d_Kp_hold_30 rfl (lv_at hl 1 rfl) ?_
      refine mw_get (v := .ref (ad 2)) (ci := 6) (C := R_Kp) (T := T_Kp) (N := 7) J i_Kp hK hP (mw_ov_is (i := 0) ho.1 (by decide) ((hox2 0 (by decide)).trans hc0)) rfl 1 (by decide) (hts _ k_169) (fun _ h9 => h9) rfl d_Kp_hold_31 ?_
      refine lv_iload_n hx hb d_Kp_hold_34 rfl (lv_at hl 0 rfl) ?_
      refine mw_afterV hP hS hA (mw_runV (As := [.int (nI L.length)]) (rest := []) J hK hZ hP hS hA (mw_ov_is (i := 2) ho.1 (by decide) h22) rfl (c_Tr_cutTo l D cI cZ cP cR cC tS _ B ad c2 pm ((L ++ [k]) ++ N1) ho hpm kt2 L.length (by rw [List.length_append, List.length_append]; omega)) (cwV 1 hts (mw_gV k_283 k_284 k_285 k_3 k_286) rfl rfl rfl (by decide +kernel) ⟨Nat.le_of_ble_eq_true rfl, Nat.le_of_ble_eq_true rfl⟩) rfl hl.1 rfl (Nat.le_of_ble_eq_true rfl) d_Kp_hold_35 ⟨Nat.le_of_ble_eq_true rfl, Nat.le_of_ble_eq_true rfl⟩) (fun M1 H locs hw hP hS => ?_)
      obtain ⟨c3, rfl, kt3, ho3⟩ := hw
      rw [List.append_assoc, rk_take_app (Nat.le_refl _), List.take_length] at kt3
      have hsv3 : ∃ cc u, k_sv cI cC B ad c3 ca cc u := by
        obtain ⟨cc, u, a1, a2, a3⟩ := hsv2
        exact ⟨cc, u, (ho3 1 (by decide) (by decide) (by decide)).trans a1, (ho3 8 (by decide) (by decide) (by decide)).trans a2, a3⟩
      have hbl3 : ∀ d, d < 3 → k_blank cI ad c3 d := fun d hd => k_blank_same (hbl2 d hd) (fun z hz => ho3 _ (by omega) (by omega) (by omega))
      have hox3 : ∀ i, i = 0 ∨ i = 5 ∨ i = 6 ∨ i = 7 → c3 i = cw i := fun i hi => by rw [ho3 i (by omega) (by omega) (by omega)]; exact hox2 i hi
      refine lv_iconst (v := 0) hx hb d_Kp_hold_38 (by decide) ?_
      exact mw_zret J hr hlk rfl hP hS d_Kp_hold_39 (⟨c3, rfl, hsv3, hbl3, hox3, Or.inr ⟨rfl, kt3, hmany⟩⟩)
    · have hyes := hcase.resolve_right (fun g => c_25 g.1)
      refine lv_iconst (v := 1) hx hb d_Kp_hold_28 (by decide) ?_
      exact mw_zret J hr hlk rfl hP hS d_Kp_hold_29 (⟨c2, rfl, hsv2, hbl2, hox2, Or.inl ⟨rfl, N1, kt2, hg2, hyes.2⟩⟩)
