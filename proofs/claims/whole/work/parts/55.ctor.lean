/-! the constructors -/
set_option maxHeartbeats 4000000 in
set_option maxRecDepth 100000 in
theorem c_Mk_init (l : Launch) (D : va_G) (cI cZ cP cR cC : ClassId) (tS : Nat) (sz : Nat) (M : mw_M) (a : Nat) (h0 : M a = some (.inr (0, [.null]))) :
    Met l y_Mk_init (.code y_Mk_init b_Mk_init 1 none :: gw) ({ frames := 1, cells := 1, slots := 1024, locals := 12 }) (va_Pc [.ref a] (mw_B D k_cl (k_tys cI cZ cP cR cC) (k_g tS) M sz)) (va_Qv (fun (M1 : mw_M) => ∃ w, mw_gr M M1 a [w] ∧ M1 a = some (.inr (0, [.ref w])) ∧ M1 w = some (.inl (cI, 1024, .inl (fun _ => 0)))) (mw_E D k_cl M sz) (mw_A M sz)) 1 1024 (mw_A M sz) := by
  refine mw_met (by decide) rfl (Nat.le_of_ble_eq_true rfl) ?_
  intro p e s m below meth c hsz J hr hlk hnm hK hZ hP hS hA ls hl
  subst hsz
  have hx := J.1
  have hb := J.2.1
  have hts := J.2.2.2.2
  have hl : lv_has ls 1 [(0, .ref a)] := hl
  have hgr : mw_gr M M a [] := mw_gr_0 h0
  refine lv_aload_n hx hb d_Mk_init_0 rfl (lv_at hl 0 rfl) ?_
  refine W.objInit hx hb J.2.2.2.1 (hts _ k_35) (hts _ k_16) (hts _ k_17) rfl (by rw [J.2.2.1]; exact hl.1) rfl d_Mk_init_1 (Nat.le_of_ble_eq_true rfl) (Nat.le_of_ble_eq_true rfl) ?_
  refine W.eq (g2 := F0 m 4 ls []) rfl ?_
  refine lv_aload_n hx hb d_Mk_init_4 rfl (lv_at hl 0 rfl) ?_
  refine lv_sipush (v := 1024) hx hb d_Mk_init_5 (by decide) ?_
  refine mw_newi (N' := 1024) J (hts _ k_40) hK hP hS hA 0 rfl (by decide) (by decide) (by decide) (Nat.le_of_ble_eq_true rfl) (Nat.le_of_ble_eq_true rfl) d_Mk_init_8 (fun w H hwn hP hS => ?_)
  have ne_w_a : w ≠ a := fun z => by rw [z, h0] at hwn; cases hwn
  have hgr : mw_gr M (va_up M w (some (.inl (cI, 1024, .inl (fun _ => 0))))) a (w :: []) := mw_gr_new hgr hwn
  refine mw_putF (v := .ref w) (ty := .array .int) (ci := 0) (C := R_Mk) (T := T_Mk) (N := 1) J i_Mk t_Mk o_Mk n_Mk hK hP hS ((va_up_ne _ _ (Ne.symm ne_w_a)).trans h0) rfl 0 (by decide) (hts _ k_36) (fun _ h9 => h9) rfl hnm rfl rfl rfl rfl (Nat.le_of_ble_eq_true rfl) d_Mk_init_10 (fun H locs hP hS => ?_)
  have hgr : mw_gr M (va_up (va_up M w (some (.inl (cI, 1024, .inl (fun _ => 0))))) a (some (.inr (0, [.ref w])))) a (w :: []) := mw_gr_put hgr
  have hP : mw_P D k_cl (va_up (va_up M w (some (.inl (cI, 1024, .inl (fun _ => 0))))) a (some (.inr (0, [.ref w])))) _ H := hP
  exact mw_vret J hr hlk hP hS d_Mk_init_13 (⟨w, hgr, (va_up_self _ _ _), ((va_up_ne _ _ ne_w_a).trans (va_up_self _ _ _))⟩)

set_option maxHeartbeats 4000000 in
set_option maxRecDepth 100000 in
theorem c_Tr_init (l : Launch) (D : va_G) (cI cZ cP cR cC : ClassId) (tS : Nat) (sz : Nat) (M : mw_M) (a : Nat) (h0 : M a = some (.inr (1, [.null, .null, .int 0]))) :
    Met l y_Tr_init (.code y_Tr_init b_Tr_init 1 none :: gw) ({ frames := 2, cells := 3, slots := 1325, locals := 32 }) (va_Pc [.ref a] (mw_B D k_cl (k_tys cI cZ cP cR cC) (k_g tS) M sz)) (va_Qv (fun (M1 : mw_M) => ∃ co pm w, mw_gr M M1 a [pm, w, co] ∧ M1 a = some (.inr (1, [.ref co, .ref pm, .int (nI 0)])) ∧ M1 co = some (.inl (cI, 300, .inl (rk_nf (fun _ => 0)))) ∧ M1 pm = some (.inr (0, [.ref w])) ∧ M1 w = some (.inl (cI, 1024, .inl (fun _ => 0)))) (mw_E D k_cl M sz) (mw_A M sz)) 3 1325 (mw_A M sz) := by
  refine mw_met (by decide) rfl (Nat.le_of_ble_eq_true rfl) ?_
  intro p e s m below meth c hsz J hr hlk hnm hK hZ hP hS hA ls hl
  subst hsz
  have hx := J.1
  have hb := J.2.1
  have hts := J.2.2.2.2
  have hl : lv_has ls 1 [(0, .ref a)] := hl
  have hgr : mw_gr M M a [] := mw_gr_0 h0
  refine lv_aload_n hx hb d_Tr_init_0 rfl (lv_at hl 0 rfl) ?_
  refine W.objInit hx hb J.2.2.2.1 (hts _ k_29) (hts _ k_16) (hts _ k_17) rfl (by rw [J.2.2.1]; exact hl.1) rfl d_Tr_init_1 (Nat.le_of_ble_eq_true rfl) (Nat.le_of_ble_eq_true rfl) ?_
  refine W.eq (g2 := F0 m 4 ls []) rfl ?_
  refine lv_aload_n hx hb d_Tr_init_4 rfl (lv_at hl 0 rfl) ?_
  refine lv_sipush (v := 300) hx hb d_Tr_init_5 (by decide) ?_
  refine mw_newi (N' := 300) J (hts _ k_40) hK hP hS hA 0 rfl (by decide) (by decide) (by decide) (Nat.le_of_ble_eq_true rfl) (Nat.le_of_ble_eq_true rfl) d_Tr_init_8 (fun co H hcon hP hS => ?_)
  have ne_co_a : co ≠ a := fun z => by rw [z, h0] at hcon; cases hcon
  have hgr : mw_gr M (va_up M co (some (.inl (cI, 300, .inl (fun _ => 0))))) a (co :: []) := mw_gr_new hgr hcon
  rw [rk_nf_0] at hP
  have hP : mw_P D k_cl (va_up M co (some (.inl (cI, 300, .inl (rk_nf (fun _ => 0)))))) _ H := hP
  have hgr : mw_gr M (va_up M co (some (.inl (cI, 300, .inl (rk_nf (fun _ => 0)))))) a (co :: []) := by rw [← rk_nf_0]; exact hgr
  refine mw_putF (v := .ref co) (ty := .array .int) (ci := 1) (C := R_Tr) (T := T_Tr) (N := 3) J i_Tr t_Tr o_Tr n_Tr hK hP hS ((va_up_ne _ _ (Ne.symm ne_co_a)).trans h0) rfl 0 (by decide) (hts _ k_41) (fun _ h9 => h9) rfl hnm rfl rfl rfl rfl (Nat.le_of_ble_eq_true rfl) d_Tr_init_10 (fun H locs hP hS => ?_)
  have hgr : mw_gr M (va_up (va_up M co (some (.inl (cI, 300, .inl (rk_nf (fun _ => 0)))))) a (some (.inr (1, [.ref co, .null, .int 0])))) a (co :: []) := mw_gr_put hgr
  have hP : mw_P D k_cl (va_up (va_up M co (some (.inl (cI, 300, .inl (rk_nf (fun _ => 0)))))) a (some (.inr (1, [.ref co, .null, .int 0])))) _ H := hP
  refine lv_aload_n hx hb d_Tr_init_13 rfl (lv_at hl 0 rfl) ?_
  refine mw_new (ci := 0) (fs := [.null]) (C := R_Mk) (T := T_Mk) (N := 1) J i_Mk t_Mk o_Mk (hts _ k_30) (hts _ k_31) (hts _ k_4) hK hP hS hA rfl (fun j hj => by rcases (show j = 0 by omega) with rfl <;> rfl) (Nat.le_of_ble_eq_true rfl) (Nat.le_of_ble_eq_true rfl) d_Tr_init_14 (fun pm H hpmn hP hS => ?_)
  have ne_pm_a : pm ≠ a := fun z => by rw [z, (va_up_self _ _ _)] at hpmn; cases hpmn
  have ne_pm_co : pm ≠ co := fun z => by rw [z, ((va_up_ne _ _ ne_co_a).trans (va_up_self _ _ _))] at hpmn; cases hpmn
  have hgr : mw_gr M (va_up (va_up (va_up M co (some (.inl (cI, 300, .inl (rk_nf (fun _ => 0)))))) a (some (.inr (1, [.ref co, .null, .int 0])))) pm (some (.inr (0, [.null])))) a (pm :: (co :: [])) := mw_gr_new hgr hpmn
  refine lv_dup hx hb d_Tr_init_17 rfl ?_
  refine mw_afterV hP hS hA (mw_runI (As := []) (rest := [.ref pm, .ref a]) J hK hZ hP hS hA (c_Mk_init l D cI cZ cP cR cC tS _ (va_up (va_up (va_up M co (some (.inl (cI, 300, .inl (rk_nf (fun _ => 0)))))) a (some (.inr (1, [.ref co, .null, .int 0])))) pm (some (.inr (0, [.null])))) pm (va_up_self _ _ _)) (cwI 0 hts (mw_gI k_34) rfl rfl rfl (hts _ k_4) (hts _ k_32) (hts _ k_33) rfl (by decide +kernel) ⟨Nat.le_of_ble_eq_true rfl, Nat.le_of_ble_eq_true rfl⟩) rfl hl.1 rfl (Nat.le_of_ble_eq_true rfl) d_Tr_init_18 ⟨Nat.le_of_ble_eq_true rfl, Nat.le_of_ble_eq_true rfl⟩) (fun M1 H locs hw hP hS => ?_)
  obtain ⟨w, hg1, q1, q2⟩ := hw
  have hgr : mw_gr M M1 a (pm :: ([w] ++ (co :: []))) := mw_gr_sub hgr hg1
  refine mw_putF (v := .ref pm) (ty := .object "RuleKeeper$Marks") (ci := 1) (C := R_Tr) (T := T_Tr) (N := 3) J i_Tr t_Tr o_Tr n_Tr hK hP hS (hg1.1 a _ (Ne.symm ne_pm_a) ((va_up_ne _ _ (Ne.symm ne_pm_a)).trans (va_up_self _ _ _))).2 rfl 1 (by decide) (hts _ k_45) (fun _ h9 => h9) rfl hnm rfl rfl rfl rfl (Nat.le_of_ble_eq_true rfl) d_Tr_init_21 (fun H locs hP hS => ?_)
  have ne_w_a : w ≠ a := mw_ne (q2) ((hg1.1 a _ (Ne.symm ne_pm_a) ((va_up_ne _ _ (Ne.symm ne_pm_a)).trans (va_up_self _ _ _))).2) (by simp)
  have hgr : mw_gr M (va_up M1 a (some (.inr (1, [.ref co, .ref pm, .int 0])))) a (pm :: ([w] ++ (co :: []))) := mw_gr_put hgr
  have hP : mw_P D k_cl (va_up M1 a (some (.inr (1, [.ref co, .ref pm, .int 0])))) _ H := hP
  refine lv_aload_n hx hb d_Tr_init_24 rfl (lv_at hl 0 rfl) ?_
  refine lv_iconst (v := 0) hx hb d_Tr_init_25 (by decide) ?_
  refine mw_top (x' := nI 0) nI_0.symm ?_
  refine mw_put (v := .int (nI 0)) (ty := .int) (ci := 1) (C := R_Tr) (T := T_Tr) (N := 3) J i_Tr t_Tr o_Tr n_Tr hK hP hS (va_up_self _ _ _) rfl 2 (by decide) (hts _ k_46) (fun _ h9 => h9) rfl rfl rfl rfl (Nat.le_of_ble_eq_true rfl) d_Tr_init_26 (fun H locs hP hS => ?_)
  have hgr : mw_gr M (va_up (va_up M1 a (some (.inr (1, [.ref co, .ref pm, .int 0])))) a (some (.inr (1, [.ref co, .ref pm, .int (nI 0)])))) a (pm :: ([w] ++ (co :: []))) := mw_gr_put hgr
  have hP : mw_P D k_cl (va_up (va_up M1 a (some (.inr (1, [.ref co, .ref pm, .int 0])))) a (some (.inr (1, [.ref co, .ref pm, .int (nI 0)])))) _ H := hP
  exact mw_vret J hr hlk hP hS d_Tr_init_29 (⟨co, pm, w, hgr, (va_up_self _ _ _), ((va_up_ne _ _ ne_co_a).trans ((va_up_ne _ _ ne_co_a).trans (hg1.1 co _ (Ne.symm ne_pm_co) ((va_up_ne _ _ (Ne.symm ne_pm_co)).trans ((va_up_ne _ _ ne_co_a).trans (va_up_self _ _ _)))).2)), ((va_up_ne _ _ ne_pm_a).trans ((va_up_ne _ _ ne_pm_a).trans q1)), ((va_up_ne _ _ ne_w_a).trans ((va_up_ne _ _ ne_w_a).trans q2))⟩)

theorem rk_ok0 : rk_okP (0, 0, 0) := rk_j3 (by decide) (by decide) (by decide)
set_option maxHeartbeats 4000000 in
set_option maxRecDepth 100000 in
theorem c_Co_init (l : Launch) (D : va_G) (cI cZ cP cR cC : ClassId) (tS : Nat) (sz : Nat) (M : mw_M) (a : Nat) (h0 : M a = some (.inr (4, [.null, .null, .null, .null, .int 0, .int 0]))) :
    Met l y_Co_init (.code y_Co_init b_Co_init 1 none :: gw) ({ frames := 2, cells := 7, slots := 1641, locals := 40 }) (va_Pc [.ref a] (mw_B D k_cl (k_tys cI cZ cP cR cC) (k_g tS) M sz)) (va_Qv (fun (M1 : mw_M) => ∃ pr tm pl sr, mw_gr M M1 a [sr, pl, tm, pr] ∧ M1 a = some (.inr (4, [.ref pr, .ref tm, .ref pl, .ref sr, .int (nI 0), .int (nI 0)])) ∧ M1 pr = some (.inl (cI, 300, .inl (rk_nf (fun _ => 0)))) ∧ M1 tm = some (.inl (cI, 300, .inl (rk_nf (fun _ => 0)))) ∧ M1 pl = some (.inl (cI, 1024, .inl (rk_nf (fun _ => 0))))) (mw_E D k_cl M sz) (mw_A M sz)) 7 1641 (mw_A M sz) := by
  refine mw_met (by decide) rfl (Nat.le_of_ble_eq_true rfl) ?_
  intro p e s m below meth c hsz J hr hlk hnm hK hZ hP hS hA ls hl
  subst hsz
  have hx := J.1
  have hb := J.2.1
  have hts := J.2.2.2.2
  have hl : lv_has ls 1 [(0, .ref a)] := hl
  have hgr : mw_gr M M a [] := mw_gr_0 h0
  refine lv_aload_n hx hb d_Co_init_0 rfl (lv_at hl 0 rfl) ?_
  refine W.objInit hx hb J.2.2.2.1 (hts _ k_63) (hts _ k_16) (hts _ k_17) rfl (by rw [J.2.2.1]; exact hl.1) rfl d_Co_init_1 (Nat.le_of_ble_eq_true rfl) (Nat.le_of_ble_eq_true rfl) ?_
  refine W.eq (g2 := F0 m 4 ls []) rfl ?_
  refine lv_aload_n hx hb d_Co_init_4 rfl (lv_at hl 0 rfl) ?_
  refine lv_sipush (v := 300) hx hb d_Co_init_5 (by decide) ?_
  refine mw_newi (N' := 300) J (hts _ k_40) hK hP hS hA 0 rfl (by decide) (by decide) (by decide) (Nat.le_of_ble_eq_true rfl) (Nat.le_of_ble_eq_true rfl) d_Co_init_8 (fun pr H hprn hP hS => ?_)
  have ne_pr_a : pr ≠ a := fun z => by rw [z, h0] at hprn; cases hprn
  have hgr : mw_gr M (va_up M pr (some (.inl (cI, 300, .inl (fun _ => 0))))) a (pr :: []) := mw_gr_new hgr hprn
  rw [rk_nf_0] at hP
  have hP : mw_P D k_cl (va_up M pr (some (.inl (cI, 300, .inl (rk_nf (fun _ => 0)))))) _ H := hP
  have hgr : mw_gr M (va_up M pr (some (.inl (cI, 300, .inl (rk_nf (fun _ => 0)))))) a (pr :: []) := by rw [← rk_nf_0]; exact hgr
  refine mw_putF (v := .ref pr) (ty := .array .int) (ci := 4) (C := R_Co) (T := T_Co) (N := 6) J i_Co t_Co o_Co n_Co hK hP hS ((va_up_ne _ _ (Ne.symm ne_pr_a)).trans h0) rfl 0 (by decide) (hts _ k_104) (fun _ h9 => h9) rfl hnm rfl rfl rfl rfl (Nat.le_of_ble_eq_true rfl) d_Co_init_10 (fun H locs hP hS => ?_)
  have hgr : mw_gr M (va_up (va_up M pr (some (.inl (cI, 300, .inl (rk_nf (fun _ => 0)))))) a (some (.inr (4, [.ref pr, .null, .null, .null, .int 0, .int 0])))) a (pr :: []) := mw_gr_put hgr
  have hP : mw_P D k_cl (va_up (va_up M pr (some (.inl (cI, 300, .inl (rk_nf (fun _ => 0)))))) a (some (.inr (4, [.ref pr, .null, .null, .null, .int 0, .int 0])))) _ H := hP
  refine lv_aload_n hx hb d_Co_init_13 rfl (lv_at hl 0 rfl) ?_
  refine lv_sipush (v := 300) hx hb d_Co_init_14 (by decide) ?_
  refine mw_newi (N' := 300) J (hts _ k_40) hK hP hS hA 0 rfl (by decide) (by decide) (by decide) (Nat.le_of_ble_eq_true rfl) (Nat.le_of_ble_eq_true rfl) d_Co_init_17 (fun tm H htmn hP hS => ?_)
  have ne_tm_a : tm ≠ a := fun z => by rw [z, (va_up_self _ _ _)] at htmn; cases htmn
  have ne_tm_pr : tm ≠ pr := fun z => by rw [z, ((va_up_ne _ _ ne_pr_a).trans (va_up_self _ _ _))] at htmn; cases htmn
  have hgr : mw_gr M (va_up (va_up (va_up M pr (some (.inl (cI, 300, .inl (rk_nf (fun _ => 0)))))) a (some (.inr (4, [.ref pr, .null, .null, .null, .int 0, .int 0])))) tm (some (.inl (cI, 300, .inl (fun _ => 0))))) a (tm :: (pr :: [])) := mw_gr_new hgr htmn
  rw [rk_nf_0] at hP
  have hP : mw_P D k_cl (va_up (va_up (va_up M pr (some (.inl (cI, 300, .inl (rk_nf (fun _ => 0)))))) a (some (.inr (4, [.ref pr, .null, .null, .null, .int 0, .int 0])))) tm (some (.inl (cI, 300, .inl (rk_nf (fun _ => 0)))))) _ H := hP
  have hgr : mw_gr M (va_up (va_up (va_up M pr (some (.inl (cI, 300, .inl (rk_nf (fun _ => 0)))))) a (some (.inr (4, [.ref pr, .null, .null, .null, .int 0, .int 0])))) tm (some (.inl (cI, 300, .inl (rk_nf (fun _ => 0)))))) a (tm :: (pr :: [])) := by rw [← rk_nf_0]; exact hgr
  refine mw_putF (v := .ref tm) (ty := .array .int) (ci := 4) (C := R_Co) (T := T_Co) (N := 6) J i_Co t_Co o_Co n_Co hK hP hS ((va_up_ne _ _ (Ne.symm ne_tm_a)).trans (va_up_self _ _ _)) rfl 1 (by decide) (hts _ k_106) (fun _ h9 => h9) rfl hnm rfl rfl rfl rfl (Nat.le_of_ble_eq_true rfl) d_Co_init_19 (fun H locs hP hS => ?_)
  have hgr : mw_gr M (va_up (va_up (va_up (va_up M pr (some (.inl (cI, 300, .inl (rk_nf (fun _ => 0)))))) a (some (.inr (4, [.ref pr, .null, .null, .null, .int 0, .int 0])))) tm (some (.inl (cI, 300, .inl (rk_nf (fun _ => 0)))))) a (some (.inr (4, [.ref pr, .ref tm, .null, .null, .int 0, .int 0])))) a (tm :: (pr :: [])) := mw_gr_put hgr
  have hP : mw_P D k_cl (va_up (va_up (va_up (va_up M pr (some (.inl (cI, 300, .inl (rk_nf (fun _ => 0)))))) a (some (.inr (4, [.ref pr, .null, .null, .null, .int 0, .int 0])))) tm (some (.inl (cI, 300, .inl (rk_nf (fun _ => 0)))))) a (some (.inr (4, [.ref pr, .ref tm, .null, .null, .int 0, .int 0])))) _ H := hP
  refine lv_aload_n hx hb d_Co_init_22 rfl (lv_at hl 0 rfl) ?_
  refine lv_sipush (v := 1024) hx hb d_Co_init_23 (by decide) ?_
  refine mw_newi (N' := 1024) J (hts _ k_40) hK hP hS hA 0 rfl (by decide) (by decide) (by decide) (Nat.le_of_ble_eq_true rfl) (Nat.le_of_ble_eq_true rfl) d_Co_init_26 (fun pl H hpln hP hS => ?_)
  have ne_pl_a : pl ≠ a := fun z => by rw [z, (va_up_self _ _ _)] at hpln; cases hpln
  have ne_pl_pr : pl ≠ pr := fun z => by rw [z, ((va_up_ne _ _ ne_pr_a).trans ((va_up_ne _ _ (Ne.symm ne_tm_pr)).trans ((va_up_ne _ _ ne_pr_a).trans (va_up_self _ _ _))))] at hpln; cases hpln
  have ne_pl_tm : pl ≠ tm := fun z => by rw [z, ((va_up_ne _ _ ne_tm_a).trans (va_up_self _ _ _))] at hpln; cases hpln
  have hgr : mw_gr M (va_up (va_up (va_up (va_up (va_up M pr (some (.inl (cI, 300, .inl (rk_nf (fun _ => 0)))))) a (some (.inr (4, [.ref pr, .null, .null, .null, .int 0, .int 0])))) tm (some (.inl (cI, 300, .inl (rk_nf (fun _ => 0)))))) a (some (.inr (4, [.ref pr, .ref tm, .null, .null, .int 0, .int 0])))) pl (some (.inl (cI, 1024, .inl (fun _ => 0))))) a (pl :: (tm :: (pr :: []))) := mw_gr_new hgr hpln
  rw [rk_nf_0] at hP
  have hP : mw_P D k_cl (va_up (va_up (va_up (va_up (va_up M pr (some (.inl (cI, 300, .inl (rk_nf (fun _ => 0)))))) a (some (.inr (4, [.ref pr, .null, .null, .null, .int 0, .int 0])))) tm (some (.inl (cI, 300, .inl (rk_nf (fun _ => 0)))))) a (some (.inr (4, [.ref pr, .ref tm, .null, .null, .int 0, .int 0])))) pl (some (.inl (cI, 1024, .inl (rk_nf (fun _ => 0)))))) _ H := hP
  have hgr : mw_gr M (va_up (va_up (va_up (va_up (va_up M pr (some (.inl (cI, 300, .inl (rk_nf (fun _ => 0)))))) a (some (.inr (4, [.ref pr, .null, .null, .null, .int 0, .int 0])))) tm (some (.inl (cI, 300, .inl (rk_nf (fun _ => 0)))))) a (some (.inr (4, [.ref pr, .ref tm, .null, .null, .int 0, .int 0])))) pl (some (.inl (cI, 1024, .inl (rk_nf (fun _ => 0)))))) a (pl :: (tm :: (pr :: []))) := by rw [← rk_nf_0]; exact hgr
  refine mw_putF (v := .ref pl) (ty := .array .int) (ci := 4) (C := R_Co) (T := T_Co) (N := 6) J i_Co t_Co o_Co n_Co hK hP hS ((va_up_ne _ _ (Ne.symm ne_pl_a)).trans (va_up_self _ _ _)) rfl 2 (by decide) (hts _ k_108) (fun _ h9 => h9) rfl hnm rfl rfl rfl rfl (Nat.le_of_ble_eq_true rfl) d_Co_init_28 (fun H locs hP hS => ?_)
  have hgr : mw_gr M (va_up (va_up (va_up (va_up (va_up (va_up M pr (some (.inl (cI, 300, .inl (rk_nf (fun _ => 0)))))) a (some (.inr (4, [.ref pr, .null, .null, .null, .int 0, .int 0])))) tm (some (.inl (cI, 300, .inl (rk_nf (fun _ => 0)))))) a (some (.inr (4, [.ref pr, .ref tm, .null, .null, .int 0, .int 0])))) pl (some (.inl (cI, 1024, .inl (rk_nf (fun _ => 0)))))) a (some (.inr (4, [.ref pr, .ref tm, .ref pl, .null, .int 0, .int 0])))) a (pl :: (tm :: (pr :: []))) := mw_gr_put hgr
  have hP : mw_P D k_cl (va_up (va_up (va_up (va_up (va_up (va_up M pr (some (.inl (cI, 300, .inl (rk_nf (fun _ => 0)))))) a (some (.inr (4, [.ref pr, .null, .null, .null, .int 0, .int 0])))) tm (some (.inl (cI, 300, .inl (rk_nf (fun _ => 0)))))) a (some (.inr (4, [.ref pr, .ref tm, .null, .null, .int 0, .int 0])))) pl (some (.inl (cI, 1024, .inl (rk_nf (fun _ => 0)))))) a (some (.inr (4, [.ref pr, .ref tm, .ref pl, .null, .int 0, .int 0])))) _ H := hP
  refine lv_aload_n hx hb d_Co_init_31 rfl (lv_at hl 0 rfl) ?_
  refine mw_new (ci := 2) (fs := [.null, .null, .int 0, .int 0, .int 0, .int 0, .int 0, .int 0]) (C := R_Pt) (T := T_Pt) (N := 8) J i_Pt t_Pt o_Pt (hts _ k_64) (hts _ k_65) (hts _ k_6) hK hP hS hA rfl (fun j hj => by rcases (show j = 0 ∨ j = 1 ∨ j = 2 ∨ j = 3 ∨ j = 4 ∨ j = 5 ∨ j = 6 ∨ j = 7 by omega) with rfl | rfl | rfl | rfl | rfl | rfl | rfl | rfl <;> rfl) (Nat.le_of_ble_eq_true rfl) (Nat.le_of_ble_eq_true rfl) d_Co_init_32 (fun sr H hsrn hP hS => ?_)
  have ne_sr_a : sr ≠ a := fun z => by rw [z, (va_up_self _ _ _)] at hsrn; cases hsrn
  have ne_sr_pr : sr ≠ pr := fun z => by rw [z, ((va_up_ne _ _ ne_pr_a).trans ((va_up_ne _ _ (Ne.symm ne_pl_pr)).trans ((va_up_ne _ _ ne_pr_a).trans ((va_up_ne _ _ (Ne.symm ne_tm_pr)).trans ((va_up_ne _ _ ne_pr_a).trans (va_up_self _ _ _))))))] at hsrn; cases hsrn
  have ne_sr_tm : sr ≠ tm := fun z => by rw [z, ((va_up_ne _ _ ne_tm_a).trans ((va_up_ne _ _ (Ne.symm ne_pl_tm)).trans ((va_up_ne _ _ ne_tm_a).trans (va_up_self _ _ _))))] at hsrn; cases hsrn
  have ne_sr_pl : sr ≠ pl := fun z => by rw [z, ((va_up_ne _ _ ne_pl_a).trans (va_up_self _ _ _))] at hsrn; cases hsrn
  have hgr : mw_gr M (va_up (va_up (va_up (va_up (va_up (va_up (va_up M pr (some (.inl (cI, 300, .inl (rk_nf (fun _ => 0)))))) a (some (.inr (4, [.ref pr, .null, .null, .null, .int 0, .int 0])))) tm (some (.inl (cI, 300, .inl (rk_nf (fun _ => 0)))))) a (some (.inr (4, [.ref pr, .ref tm, .null, .null, .int 0, .int 0])))) pl (some (.inl (cI, 1024, .inl (rk_nf (fun _ => 0)))))) a (some (.inr (4, [.ref pr, .ref tm, .ref pl, .null, .int 0, .int 0])))) sr (some (.inr (2, [.null, .null, .int 0, .int 0, .int 0, .int 0, .int 0, .int 0])))) a (sr :: (pl :: (tm :: (pr :: [])))) := mw_gr_new hgr hsrn
  refine lv_dup hx hb d_Co_init_35 rfl ?_
  refine lv_iconst (v := 0) hx hb d_Co_init_36 (by decide) ?_
  refine mw_top (x' := (rk_iv (rk_at (0, 0, 0) 0))) rfl ?_
  refine lv_iconst (v := 0) hx hb d_Co_init_37 (by decide) ?_
  refine mw_top (x' := (rk_iv (rk_at (0, 0, 0) 1))) rfl ?_
  refine lv_iconst (v := 0) hx hb d_Co_init_38 (by decide) ?_
  refine mw_top (x' := (rk_iv (rk_at (0, 0, 0) 2))) rfl ?_
  refine mw_afterV hP hS hA (mw_runI (As := [.int (rk_iv (rk_at (0, 0, 0) 0)), .int (rk_iv (rk_at (0, 0, 0) 1)), .int (rk_iv (rk_at (0, 0, 0) 2))]) (rest := [.ref sr, .ref a]) J hK hZ hP hS hA (c_Pt_init l D cI cZ cP cR cC tS _ (va_up (va_up (va_up (va_up (va_up (va_up (va_up M pr (some (.inl (cI, 300, .inl (rk_nf (fun _ => 0)))))) a (some (.inr (4, [.ref pr, .null, .null, .null, .int 0, .int 0])))) tm (some (.inl (cI, 300, .inl (rk_nf (fun _ => 0)))))) a (some (.inr (4, [.ref pr, .ref tm, .null, .null, .int 0, .int 0])))) pl (some (.inl (cI, 1024, .inl (rk_nf (fun _ => 0)))))) a (some (.inr (4, [.ref pr, .ref tm, .ref pl, .null, .int 0, .int 0])))) sr (some (.inr (2, [.null, .null, .int 0, .int 0, .int 0, .int 0, .int 0, .int 0])))) sr (0, 0, 0) rk_ok0 (va_up_self _ _ _)) (cwI 3 hts (mw_gI k_68) rfl rfl rfl (hts _ k_6) (hts _ k_66) (hts _ k_67) rfl (by decide +kernel) ⟨Nat.le_of_ble_eq_true rfl, Nat.le_of_ble_eq_true rfl⟩) rfl hl.1 rfl (Nat.le_of_ble_eq_true rfl) d_Co_init_39 ⟨Nat.le_of_ble_eq_true rfl, Nat.le_of_ble_eq_true rfl⟩) (fun M1 H locs hw hP hS => ?_)
  obtain ⟨b9, q9, hpx, hkeep⟩ := hw
  have hw : mw_gr _ M1 sr [] ∧ True := ⟨mw_gr_pat hpx hkeep, trivial⟩
  obtain ⟨_, fb9, fq9, hpx1, -⟩ := id hpx
  obtain ⟨hg1, -⟩ := hw
  have hgr : mw_gr M M1 a (sr :: ([] ++ (pl :: (tm :: (pr :: []))))) := mw_gr_sub hgr hg1
  refine mw_put (v := .ref sr) (ty := .object "RuleKeeper$Pattern") (ci := 4) (C := R_Co) (T := T_Co) (N := 6) J i_Co t_Co o_Co n_Co hK hP hS (hg1.1 a _ (Ne.symm ne_sr_a) ((va_up_ne _ _ (Ne.symm ne_sr_a)).trans (va_up_self _ _ _))).2 rfl 3 (by decide) (hts _ k_109) (fun _ h9 => h9) rfl rfl rfl rfl (Nat.le_of_ble_eq_true rfl) d_Co_init_42 (fun H locs hP hS => ?_)
  have hgr : mw_gr M (va_up M1 a (some (.inr (4, [.ref pr, .ref tm, .ref pl, .ref sr, .int 0, .int 0])))) a (sr :: ([] ++ (pl :: (tm :: (pr :: []))))) := mw_gr_put hgr
  have hP : mw_P D k_cl (va_up M1 a (some (.inr (4, [.ref pr, .ref tm, .ref pl, .ref sr, .int 0, .int 0])))) _ H := hP
  refine lv_aload_n hx hb d_Co_init_45 rfl (lv_at hl 0 rfl) ?_
  refine lv_iconst (v := 0) hx hb d_Co_init_46 (by decide) ?_
  refine mw_top (x' := nI 0) nI_0.symm ?_
  refine mw_put (v := .int (nI 0)) (ty := .int) (ci := 4) (C := R_Co) (T := T_Co) (N := 6) J i_Co t_Co o_Co n_Co hK hP hS (va_up_self _ _ _) rfl 4 (by decide) (hts _ k_111) (fun _ h9 => h9) rfl rfl rfl rfl (Nat.le_of_ble_eq_true rfl) d_Co_init_47 (fun H locs hP hS => ?_)
  have hgr : mw_gr M (va_up (va_up M1 a (some (.inr (4, [.ref pr, .ref tm, .ref pl, .ref sr, .int 0, .int 0])))) a (some (.inr (4, [.ref pr, .ref tm, .ref pl, .ref sr, .int (nI 0), .int 0])))) a (sr :: ([] ++ (pl :: (tm :: (pr :: []))))) := mw_gr_put hgr
  have hP : mw_P D k_cl (va_up (va_up M1 a (some (.inr (4, [.ref pr, .ref tm, .ref pl, .ref sr, .int 0, .int 0])))) a (some (.inr (4, [.ref pr, .ref tm, .ref pl, .ref sr, .int (nI 0), .int 0])))) _ H := hP
  refine lv_aload_n hx hb d_Co_init_50 rfl (lv_at hl 0 rfl) ?_
  refine lv_iconst (v := 0) hx hb d_Co_init_51 (by decide) ?_
  refine mw_top (x' := nI 0) nI_0.symm ?_
  refine mw_put (v := .int (nI 0)) (ty := .int) (ci := 4) (C := R_Co) (T := T_Co) (N := 6) J i_Co t_Co o_Co n_Co hK hP hS (va_up_self _ _ _) rfl 5 (by decide) (hts _ k_113) (fun _ h9 => h9) rfl rfl rfl rfl (Nat.le_of_ble_eq_true rfl) d_Co_init_52 (fun H locs hP hS => ?_)
  have hgr : mw_gr M (va_up (va_up (va_up M1 a (some (.inr (4, [.ref pr, .ref tm, .ref pl, .ref sr, .int 0, .int 0])))) a (some (.inr (4, [.ref pr, .ref tm, .ref pl, .ref sr, .int (nI 0), .int 0])))) a (some (.inr (4, [.ref pr, .ref tm, .ref pl, .ref sr, .int (nI 0), .int (nI 0)])))) a (sr :: ([] ++ (pl :: (tm :: (pr :: []))))) := mw_gr_put hgr
  have hP : mw_P D k_cl (va_up (va_up (va_up M1 a (some (.inr (4, [.ref pr, .ref tm, .ref pl, .ref sr, .int 0, .int 0])))) a (some (.inr (4, [.ref pr, .ref tm, .ref pl, .ref sr, .int (nI 0), .int 0])))) a (some (.inr (4, [.ref pr, .ref tm, .ref pl, .ref sr, .int (nI 0), .int (nI 0)])))) _ H := hP
  exact mw_vret J hr hlk hP hS d_Co_init_55 (⟨pr, tm, pl, sr, hgr, (va_up_self _ _ _), ((va_up_ne _ _ ne_pr_a).trans ((va_up_ne _ _ ne_pr_a).trans ((va_up_ne _ _ ne_pr_a).trans (hg1.1 pr _ (Ne.symm ne_sr_pr) ((va_up_ne _ _ (Ne.symm ne_sr_pr)).trans ((va_up_ne _ _ ne_pr_a).trans ((va_up_ne _ _ (Ne.symm ne_pl_pr)).trans ((va_up_ne _ _ ne_pr_a).trans ((va_up_ne _ _ (Ne.symm ne_tm_pr)).trans ((va_up_ne _ _ ne_pr_a).trans (va_up_self _ _ _)))))))).2))), ((va_up_ne _ _ ne_tm_a).trans ((va_up_ne _ _ ne_tm_a).trans ((va_up_ne _ _ ne_tm_a).trans (hg1.1 tm _ (Ne.symm ne_sr_tm) ((va_up_ne _ _ (Ne.symm ne_sr_tm)).trans ((va_up_ne _ _ ne_tm_a).trans ((va_up_ne _ _ (Ne.symm ne_pl_tm)).trans ((va_up_ne _ _ ne_tm_a).trans (va_up_self _ _ _)))))).2))), ((va_up_ne _ _ ne_pl_a).trans ((va_up_ne _ _ ne_pl_a).trans ((va_up_ne _ _ ne_pl_a).trans (hg1.1 pl _ (Ne.symm ne_sr_pl) ((va_up_ne _ _ (Ne.symm ne_sr_pl)).trans ((va_up_ne _ _ ne_pl_a).trans (va_up_self _ _ _)))).2)))⟩)

set_option maxHeartbeats 4000000 in
set_option maxRecDepth 100000 in
theorem c_Sv_init (l : Launch) (D : va_G) (cI cZ cP cR cC : ClassId) (tS : Nat) (sz : Nat) (M : mw_M) (a : Nat) (h0 : M a = some (.inr (5, [.null, .null, .null, .int 0]))) :
    Met l y_Sv_init (.code y_Sv_init b_Sv_init 2 none :: gw) ({ frames := 3, cells := 30, slots := 6280, locals := 60 }) (va_Pc [.ref a] (mw_B D k_cl (k_tys cI cZ cP cR cC) (k_g tS) M sz)) (va_Qv (fun (M1 : mw_M) => ∃ tr co pm w va ca k0 pr0 tm0 pl0 sr0 k1 pr1 tm1 pl1 sr1 k2 pr2 tm2 pl2 sr2 fa, mw_gr M M1 a [k2, sr2, pl2, tm2, pr2, k1, sr1, pl1, tm1, pr1, k0, sr0, pl0, tm0, pr0, ca, va, tr, pm, w, co] ∧ M1 a = some (.inr (5, [.ref tr, .ref va, .ref ca, .int (nI 0)])) ∧ M1 tr = some (.inr (1, [.ref co, .ref pm, .int (nI 0)])) ∧ M1 co = some (.inl (cI, 300, .inl (rk_nf (fun _ => 0)))) ∧ M1 pm = some (.inr (0, [.ref w])) ∧ M1 w = some (.inl (cI, 1024, .inl (fun _ => 0))) ∧ M1 va = some (.inl (cI, 8, .inl (rk_nf (fun _ => 0)))) ∧ M1 ca = some (.inl (cC, 3, .inr (.inr (.inr (.inr fa))))) ∧ (fa 0 = some k0 ∧ fa 1 = some k1 ∧ fa 2 = some k2) ∧ M1 k0 = some (.inr (4, [.ref pr0, .ref tm0, .ref pl0, .ref sr0, .int (nI 0), .int (nI 0)])) ∧ M1 pr0 = some (.inl (cI, 300, .inl (rk_nf (fun _ => 0)))) ∧ M1 tm0 = some (.inl (cI, 300, .inl (rk_nf (fun _ => 0)))) ∧ M1 pl0 = some (.inl (cI, 1024, .inl (rk_nf (fun _ => 0)))) ∧ M1 k1 = some (.inr (4, [.ref pr1, .ref tm1, .ref pl1, .ref sr1, .int (nI 0), .int (nI 0)])) ∧ M1 pr1 = some (.inl (cI, 300, .inl (rk_nf (fun _ => 0)))) ∧ M1 tm1 = some (.inl (cI, 300, .inl (rk_nf (fun _ => 0)))) ∧ M1 pl1 = some (.inl (cI, 1024, .inl (rk_nf (fun _ => 0)))) ∧ M1 k2 = some (.inr (4, [.ref pr2, .ref tm2, .ref pl2, .ref sr2, .int (nI 0), .int (nI 0)])) ∧ M1 pr2 = some (.inl (cI, 300, .inl (rk_nf (fun _ => 0)))) ∧ M1 tm2 = some (.inl (cI, 300, .inl (rk_nf (fun _ => 0)))) ∧ M1 pl2 = some (.inl (cI, 1024, .inl (rk_nf (fun _ => 0))))) (mw_E D k_cl M sz) (mw_A M sz)) 30 6280 (mw_A M sz) := by
  refine mw_met (by decide) rfl (Nat.le_of_ble_eq_true rfl) ?_
  intro p e s m below meth c hsz J hr hlk hnm hK hZ hP hS hA ls hl
  subst hsz
  have hx := J.1
  have hb := J.2.1
  have hts := J.2.2.2.2
  have hl : lv_has ls 2 [(0, .ref a)] := hl
  have hgr : mw_gr M M a [] := mw_gr_0 h0
  refine lv_aload_n hx hb d_Sv_init_0 rfl (lv_at hl 0 rfl) ?_
  refine W.objInit hx hb J.2.2.2.1 (hts _ k_23) (hts _ k_16) (hts _ k_17) rfl (by rw [J.2.2.1]; exact hl.1) rfl d_Sv_init_1 (Nat.le_of_ble_eq_true rfl) (Nat.le_of_ble_eq_true rfl) ?_
  refine W.eq (g2 := F0 m 4 ls []) rfl ?_
  refine lv_aload_n hx hb d_Sv_init_4 rfl (lv_at hl 0 rfl) ?_
  refine mw_new (ci := 1) (fs := [.null, .null, .int 0]) (C := R_Tr) (T := T_Tr) (N := 3) J i_Tr t_Tr o_Tr (hts _ k_24) (hts _ k_25) (hts _ k_3) hK hP hS hA rfl (fun j hj => by rcases (show j = 0 ∨ j = 1 ∨ j = 2 by omega) with rfl | rfl | rfl <;> rfl) (Nat.le_of_ble_eq_true rfl) (Nat.le_of_ble_eq_true rfl) d_Sv_init_5 (fun tr H htrn hP hS => ?_)
  have ne_tr_a : tr ≠ a := fun z => by rw [z, h0] at htrn; cases htrn
  have hgr : mw_gr M (va_up M tr (some (.inr (1, [.null, .null, .int 0])))) a (tr :: []) := mw_gr_new hgr htrn
  refine lv_dup hx hb d_Sv_init_8 rfl ?_
  refine mw_afterV hP hS hA (mw_runI (As := []) (rest := [.ref tr, .ref a]) J hK hZ hP hS hA (c_Tr_init l D cI cZ cP cR cC tS _ (va_up M tr (some (.inr (1, [.null, .null, .int 0])))) tr (va_up_self _ _ _)) (cwI 0 hts (mw_gI k_28) rfl rfl rfl (hts _ k_3) (hts _ k_26) (hts _ k_27) rfl (by decide +kernel) ⟨Nat.le_of_ble_eq_true rfl, Nat.le_of_ble_eq_true rfl⟩) rfl hl.1 rfl (Nat.le_of_ble_eq_true rfl) d_Sv_init_9 ⟨Nat.le_of_ble_eq_true rfl, Nat.le_of_ble_eq_true rfl⟩) (fun M1 H locs hw hP hS => ?_)
  obtain ⟨co, pm, w, hg1, q1, q2, q3, q4⟩ := hw
  have hgr : mw_gr M M1 a (tr :: ([pm, w, co] ++ [])) := mw_gr_sub hgr hg1
  refine mw_putF (v := .ref tr) (ty := .object "RuleKeeper$Triples") (ci := 5) (C := R_Sv) (T := T_Sv) (N := 4) J i_Sv t_Sv o_Sv n_Sv hK hP hS (hg1.1 a _ (Ne.symm ne_tr_a) ((va_up_ne _ _ (Ne.symm ne_tr_a)).trans h0)).2 rfl 0 (by decide) (hts _ k_128) (fun _ h9 => h9) rfl hnm rfl rfl rfl rfl (Nat.le_of_ble_eq_true rfl) d_Sv_init_12 (fun H locs hP hS => ?_)
  have ne_co_a : co ≠ a := mw_ne (q2) ((hg1.1 a _ (Ne.symm ne_tr_a) ((va_up_ne _ _ (Ne.symm ne_tr_a)).trans h0)).2) (by simp)
  have ne_pm_a : pm ≠ a := mw_ne (q3) ((hg1.1 a _ (Ne.symm ne_tr_a) ((va_up_ne _ _ (Ne.symm ne_tr_a)).trans h0)).2) (by simp)
  have ne_w_a : w ≠ a := mw_ne (q4) ((hg1.1 a _ (Ne.symm ne_tr_a) ((va_up_ne _ _ (Ne.symm ne_tr_a)).trans h0)).2) (by simp)
  have hgr : mw_gr M (va_up M1 a (some (.inr (5, [.ref tr, .null, .null, .int 0])))) a (tr :: ([pm, w, co] ++ [])) := mw_gr_put hgr
  have hP : mw_P D k_cl (va_up M1 a (some (.inr (5, [.ref tr, .null, .null, .int 0])))) _ H := hP
  refine lv_aload_n hx hb d_Sv_init_15 rfl (lv_at hl 0 rfl) ?_
  refine lv_bipush (v := 8) hx hb d_Sv_init_16 (by decide) ?_
  refine mw_newi (N' := 8) J (hts _ k_40) hK hP hS hA 0 rfl (by decide) (by decide) (by decide) (Nat.le_of_ble_eq_true rfl) (Nat.le_of_ble_eq_true rfl) d_Sv_init_18 (fun va H hvan hP hS => ?_)
  have ne_va_a : va ≠ a := fun z => by rw [z, (va_up_self _ _ _)] at hvan; cases hvan
  have ne_va_tr : va ≠ tr := fun z => by rw [z, ((va_up_ne _ _ ne_tr_a).trans q1)] at hvan; cases hvan
  have ne_va_co : va ≠ co := fun z => by rw [z, ((va_up_ne _ _ ne_co_a).trans q2)] at hvan; cases hvan
  have ne_va_pm : va ≠ pm := fun z => by rw [z, ((va_up_ne _ _ ne_pm_a).trans q3)] at hvan; cases hvan
  have ne_va_w : va ≠ w := fun z => by rw [z, ((va_up_ne _ _ ne_w_a).trans q4)] at hvan; cases hvan
  have hgr : mw_gr M (va_up (va_up M1 a (some (.inr (5, [.ref tr, .null, .null, .int 0])))) va (some (.inl (cI, 8, .inl (fun _ => 0))))) a (va :: (tr :: ([pm, w, co] ++ []))) := mw_gr_new hgr hvan
  rw [rk_nf_0] at hP
  have hP : mw_P D k_cl (va_up (va_up M1 a (some (.inr (5, [.ref tr, .null, .null, .int 0])))) va (some (.inl (cI, 8, .inl (rk_nf (fun _ => 0)))))) _ H := hP
  have hgr : mw_gr M (va_up (va_up M1 a (some (.inr (5, [.ref tr, .null, .null, .int 0])))) va (some (.inl (cI, 8, .inl (rk_nf (fun _ => 0)))))) a (va :: (tr :: ([pm, w, co] ++ []))) := by rw [← rk_nf_0]; exact hgr
  refine mw_putF (v := .ref va) (ty := .array .int) (ci := 5) (C := R_Sv) (T := T_Sv) (N := 4) J i_Sv t_Sv o_Sv n_Sv hK hP hS ((va_up_ne _ _ (Ne.symm ne_va_a)).trans (va_up_self _ _ _)) rfl 1 (by decide) (hts _ k_130) (fun _ h9 => h9) rfl hnm rfl rfl rfl rfl (Nat.le_of_ble_eq_true rfl) d_Sv_init_20 (fun H locs hP hS => ?_)
  have hgr : mw_gr M (va_up (va_up (va_up M1 a (some (.inr (5, [.ref tr, .null, .null, .int 0])))) va (some (.inl (cI, 8, .inl (rk_nf (fun _ => 0)))))) a (some (.inr (5, [.ref tr, .ref va, .null, .int 0])))) a (va :: (tr :: ([pm, w, co] ++ []))) := mw_gr_put hgr
  have hP : mw_P D k_cl (va_up (va_up (va_up M1 a (some (.inr (5, [.ref tr, .null, .null, .int 0])))) va (some (.inl (cI, 8, .inl (rk_nf (fun _ => 0)))))) a (some (.inr (5, [.ref tr, .ref va, .null, .int 0])))) _ H := hP
  refine lv_aload_n hx hb d_Sv_init_23 rfl (lv_at hl 0 rfl) ?_
  refine lv_iconst (v := 3) hx hb d_Sv_init_24 (by decide) ?_
  refine mw_newq (N' := 3) J (hts _ k_57) (hZ.2.1 _ List.mem_cons_self) hK hP hS hA 4 rfl (by decide) (by decide) (by decide) (Nat.le_of_ble_eq_true rfl) (Nat.le_of_ble_eq_true rfl) d_Sv_init_25 (fun ca H hcan hP hS => ?_)
  have ne_ca_a : ca ≠ a := fun z => by rw [z, (va_up_self _ _ _)] at hcan; cases hcan
  have ne_ca_tr : ca ≠ tr := fun z => by rw [z, ((va_up_ne _ _ ne_tr_a).trans ((va_up_ne _ _ (Ne.symm ne_va_tr)).trans ((va_up_ne _ _ ne_tr_a).trans q1)))] at hcan; cases hcan
  have ne_ca_co : ca ≠ co := fun z => by rw [z, ((va_up_ne _ _ ne_co_a).trans ((va_up_ne _ _ (Ne.symm ne_va_co)).trans ((va_up_ne _ _ ne_co_a).trans q2)))] at hcan; cases hcan
  have ne_ca_pm : ca ≠ pm := fun z => by rw [z, ((va_up_ne _ _ ne_pm_a).trans ((va_up_ne _ _ (Ne.symm ne_va_pm)).trans ((va_up_ne _ _ ne_pm_a).trans q3)))] at hcan; cases hcan
  have ne_ca_w : ca ≠ w := fun z => by rw [z, ((va_up_ne _ _ ne_w_a).trans ((va_up_ne _ _ (Ne.symm ne_va_w)).trans ((va_up_ne _ _ ne_w_a).trans q4)))] at hcan; cases hcan
  have ne_ca_va : ca ≠ va := fun z => by rw [z, ((va_up_ne _ _ ne_va_a).trans (va_up_self _ _ _))] at hcan; cases hcan
  have hgr : mw_gr M (va_up (va_up (va_up (va_up M1 a (some (.inr (5, [.ref tr, .null, .null, .int 0])))) va (some (.inl (cI, 8, .inl (rk_nf (fun _ => 0)))))) a (some (.inr (5, [.ref tr, .ref va, .null, .int 0])))) ca (some (.inl (cC, 3, .inr (.inr (.inr (.inr (fun _ => none)))))))) a (ca :: (va :: (tr :: ([pm, w, co] ++ [])))) := mw_gr_new hgr hcan
  refine mw_putF (v := .ref ca) (ty := .array (.object "RuleKeeper$Column")) (ci := 5) (C := R_Sv) (T := T_Sv) (N := 4) J i_Sv t_Sv o_Sv n_Sv hK hP hS ((va_up_ne _ _ (Ne.symm ne_ca_a)).trans (va_up_self _ _ _)) rfl 2 (by decide) (hts _ k_131) (fun _ h9 => h9) rfl hnm rfl rfl rfl rfl (Nat.le_of_ble_eq_true rfl) d_Sv_init_28 (fun H locs hP hS => ?_)
  have hgr : mw_gr M (va_up (va_up (va_up (va_up (va_up M1 a (some (.inr (5, [.ref tr, .null, .null, .int 0])))) va (some (.inl (cI, 8, .inl (rk_nf (fun _ => 0)))))) a (some (.inr (5, [.ref tr, .ref va, .null, .int 0])))) ca (some (.inl (cC, 3, .inr (.inr (.inr (.inr (fun _ => none)))))))) a (some (.inr (5, [.ref tr, .ref va, .ref ca, .int 0])))) a (ca :: (va :: (tr :: ([pm, w, co] ++ [])))) := mw_gr_put hgr
  have hP : mw_P D k_cl (va_up (va_up (va_up (va_up (va_up M1 a (some (.inr (5, [.ref tr, .null, .null, .int 0])))) va (some (.inl (cI, 8, .inl (rk_nf (fun _ => 0)))))) a (some (.inr (5, [.ref tr, .ref va, .null, .int 0])))) ca (some (.inl (cC, 3, .inr (.inr (.inr (.inr (fun _ => none)))))))) a (some (.inr (5, [.ref tr, .ref va, .ref ca, .int 0])))) _ H := hP
  refine lv_aload_n hx hb d_Sv_init_31 rfl (lv_at hl 0 rfl) ?_
  refine lv_iconst (v := 0) hx hb d_Sv_init_32 (by decide) ?_
  refine mw_top (x' := nI 0) nI_0.symm ?_
  refine mw_put (v := .int (nI 0)) (ty := .int) (ci := 5) (C := R_Sv) (T := T_Sv) (N := 4) J i_Sv t_Sv o_Sv n_Sv hK hP hS (va_up_self _ _ _) rfl 3 (by decide) (hts _ k_132) (fun _ h9 => h9) rfl rfl rfl rfl (Nat.le_of_ble_eq_true rfl) d_Sv_init_33 (fun H locs hP hS => ?_)
  have hgr : mw_gr M (va_up (va_up (va_up (va_up (va_up (va_up M1 a (some (.inr (5, [.ref tr, .null, .null, .int 0])))) va (some (.inl (cI, 8, .inl (rk_nf (fun _ => 0)))))) a (some (.inr (5, [.ref tr, .ref va, .null, .int 0])))) ca (some (.inl (cC, 3, .inr (.inr (.inr (.inr (fun _ => none)))))))) a (some (.inr (5, [.ref tr, .ref va, .ref ca, .int 0])))) a (some (.inr (5, [.ref tr, .ref va, .ref ca, .int (nI 0)])))) a (ca :: (va :: (tr :: ([pm, w, co] ++ [])))) := mw_gr_put hgr
  have hP : mw_P D k_cl (va_up (va_up (va_up (va_up (va_up (va_up M1 a (some (.inr (5, [.ref tr, .null, .null, .int 0])))) va (some (.inl (cI, 8, .inl (rk_nf (fun _ => 0)))))) a (some (.inr (5, [.ref tr, .ref va, .null, .int 0])))) ca (some (.inl (cC, 3, .inr (.inr (.inr (.inr (fun _ => none)))))))) a (some (.inr (5, [.ref tr, .ref va, .ref ca, .int 0])))) a (some (.inr (5, [.ref tr, .ref va, .ref ca, .int (nI 0)])))) _ H := hP
  refine lv_iconst (v := 0) hx hb d_Sv_init_36 (by decide) ?_
  refine mw_top (x' := nI 0) nI_0.symm ?_
  refine lv_istore_n (lv' := [(1, .int (nI 0)), (0, .ref a)]) hx hb d_Sv_init_37 rfl hl (by decide) rfl (fun ls hl => ?_)
  refine lv_iload_n hx hb d_Sv_init_38 rfl (lv_at hl 0 rfl) ?_
  refine lv_iconst (v := 3) hx hb d_Sv_init_39 (by decide) ?_
  refine lv_icmp_ge (tgt := 62) hx hb d_Sv_init_40 (by decide) (fun c_40 => absurd c_40 (by decide)) (fun c_40 => ?_)
  refine lv_aload_n hx hb d_Sv_init_43 rfl (lv_at hl 1 rfl) ?_
  refine mw_get (v := .ref ca) (ci := 5) (C := R_Sv) (T := T_Sv) (N := 4) J i_Sv hK hP (va_up_self _ _ _) rfl 2 (by decide) (hts _ k_131) (fun _ h9 => h9) rfl d_Sv_init_44 ?_
  refine lv_iload_n hx hb d_Sv_init_47 rfl (lv_at hl 0 rfl) ?_
  refine mw_new (ci := 4) (fs := [.null, .null, .null, .null, .int 0, .int 0]) (C := R_Co) (T := T_Co) (N := 6) J i_Co t_Co o_Co (hts _ k_57) (hts _ k_59) (hts _ k_5) hK hP hS hA rfl (fun j hj => by rcases (show j = 0 ∨ j = 1 ∨ j = 2 ∨ j = 3 ∨ j = 4 ∨ j = 5 by omega) with rfl | rfl | rfl | rfl | rfl | rfl <;> rfl) (Nat.le_of_ble_eq_true rfl) (Nat.le_of_ble_eq_true rfl) d_Sv_init_48 (fun k0 H hk0n hP hS => ?_)
  have ne_k0_a : k0 ≠ a := fun z => by rw [z, (va_up_self _ _ _)] at hk0n; cases hk0n
  have ne_k0_tr : k0 ≠ tr := fun z => by rw [z, ((va_up_ne _ _ ne_tr_a).trans ((va_up_ne _ _ ne_tr_a).trans ((va_up_ne _ _ (Ne.symm ne_ca_tr)).trans ((va_up_ne _ _ ne_tr_a).trans ((va_up_ne _ _ (Ne.symm ne_va_tr)).trans ((va_up_ne _ _ ne_tr_a).trans q1))))))] at hk0n; cases hk0n
  have ne_k0_co : k0 ≠ co := fun z => by rw [z, ((va_up_ne _ _ ne_co_a).trans ((va_up_ne _ _ ne_co_a).trans ((va_up_ne _ _ (Ne.symm ne_ca_co)).trans ((va_up_ne _ _ ne_co_a).trans ((va_up_ne _ _ (Ne.symm ne_va_co)).trans ((va_up_ne _ _ ne_co_a).trans q2))))))] at hk0n; cases hk0n
  have ne_k0_pm : k0 ≠ pm := fun z => by rw [z, ((va_up_ne _ _ ne_pm_a).trans ((va_up_ne _ _ ne_pm_a).trans ((va_up_ne _ _ (Ne.symm ne_ca_pm)).trans ((va_up_ne _ _ ne_pm_a).trans ((va_up_ne _ _ (Ne.symm ne_va_pm)).trans ((va_up_ne _ _ ne_pm_a).trans q3))))))] at hk0n; cases hk0n
  have ne_k0_w : k0 ≠ w := fun z => by rw [z, ((va_up_ne _ _ ne_w_a).trans ((va_up_ne _ _ ne_w_a).trans ((va_up_ne _ _ (Ne.symm ne_ca_w)).trans ((va_up_ne _ _ ne_w_a).trans ((va_up_ne _ _ (Ne.symm ne_va_w)).trans ((va_up_ne _ _ ne_w_a).trans q4))))))] at hk0n; cases hk0n
  have ne_k0_va : k0 ≠ va := fun z => by rw [z, ((va_up_ne _ _ ne_va_a).trans ((va_up_ne _ _ ne_va_a).trans ((va_up_ne _ _ (Ne.symm ne_ca_va)).trans ((va_up_ne _ _ ne_va_a).trans (va_up_self _ _ _)))))] at hk0n; cases hk0n
  have ne_k0_ca : k0 ≠ ca := fun z => by rw [z, ((va_up_ne _ _ ne_ca_a).trans ((va_up_ne _ _ ne_ca_a).trans (va_up_self _ _ _)))] at hk0n; cases hk0n
  have hgr : mw_gr M (va_up (va_up (va_up (va_up (va_up (va_up (va_up M1 a (some (.inr (5, [.ref tr, .null, .null, .int 0])))) va (some (.inl (cI, 8, .inl (rk_nf (fun _ => 0)))))) a (some (.inr (5, [.ref tr, .ref va, .null, .int 0])))) ca (some (.inl (cC, 3, .inr (.inr (.inr (.inr (fun _ => none)))))))) a (some (.inr (5, [.ref tr, .ref va, .ref ca, .int 0])))) a (some (.inr (5, [.ref tr, .ref va, .ref ca, .int (nI 0)])))) k0 (some (.inr (4, [.null, .null, .null, .null, .int 0, .int 0])))) a (k0 :: (ca :: (va :: (tr :: ([pm, w, co] ++ []))))) := mw_gr_new hgr hk0n
  refine lv_dup hx hb d_Sv_init_51 rfl ?_
  refine mw_afterV hP hS hA (mw_runI (As := []) (rest := [.ref k0, .int (nI 0), .ref ca]) J hK hZ hP hS hA (c_Co_init l D cI cZ cP cR cC tS _ (va_up (va_up (va_up (va_up (va_up (va_up (va_up M1 a (some (.inr (5, [.ref tr, .null, .null, .int 0])))) va (some (.inl (cI, 8, .inl (rk_nf (fun _ => 0)))))) a (some (.inr (5, [.ref tr, .ref va, .null, .int 0])))) ca (some (.inl (cC, 3, .inr (.inr (.inr (.inr (fun _ => none)))))))) a (some (.inr (5, [.ref tr, .ref va, .ref ca, .int 0])))) a (some (.inr (5, [.ref tr, .ref va, .ref ca, .int (nI 0)])))) k0 (some (.inr (4, [.null, .null, .null, .null, .int 0, .int 0])))) k0 (va_up_self _ _ _)) (cwI 0 hts (mw_gI k_62) rfl rfl rfl (hts _ k_5) (hts _ k_60) (hts _ k_61) rfl (by decide +kernel) ⟨Nat.le_of_ble_eq_true rfl, Nat.le_of_ble_eq_true rfl⟩) rfl hl.1 rfl (Nat.le_of_ble_eq_true rfl) d_Sv_init_52 ⟨Nat.le_of_ble_eq_true rfl, Nat.le_of_ble_eq_true rfl⟩) (fun M1 H locs hw hP hS => ?_)
  obtain ⟨pr0, tm0, pl0, sr0, hg2, f0_0, f0_1, f0_2, f0_3⟩ := hw
  have hgr : mw_gr M M1 a (k0 :: ([sr0, pl0, tm0, pr0] ++ (ca :: (va :: (tr :: ([pm, w, co] ++ [])))))) := mw_gr_sub hgr hg2
  refine mw_aastN (k := 0) J hK hP hS 4 4 (hg2.1 ca _ (Ne.symm ne_k0_ca) ((va_up_ne _ _ (Ne.symm ne_k0_ca)).trans ((va_up_ne _ _ ne_ca_a).trans ((va_up_ne _ _ ne_ca_a).trans (va_up_self _ _ _))))).2 rfl f0_0 rfl (by decide) (by decide) d_Sv_init_55 (fun H locs hP hS => ?_)
  have ne_pr0_ca : pr0 ≠ ca := mw_ne (f0_1) ((hg2.1 ca _ (Ne.symm ne_k0_ca) ((va_up_ne _ _ (Ne.symm ne_k0_ca)).trans ((va_up_ne _ _ ne_ca_a).trans ((va_up_ne _ _ ne_ca_a).trans (va_up_self _ _ _))))).2) (by simp)
  have ne_tm0_ca : tm0 ≠ ca := mw_ne (f0_2) ((hg2.1 ca _ (Ne.symm ne_k0_ca) ((va_up_ne _ _ (Ne.symm ne_k0_ca)).trans ((va_up_ne _ _ ne_ca_a).trans ((va_up_ne _ _ ne_ca_a).trans (va_up_self _ _ _))))).2) (by simp)
  have ne_pl0_ca : pl0 ≠ ca := mw_ne (f0_3) ((hg2.1 ca _ (Ne.symm ne_k0_ca) ((va_up_ne _ _ (Ne.symm ne_k0_ca)).trans ((va_up_ne _ _ ne_ca_a).trans ((va_up_ne _ _ ne_ca_a).trans (va_up_self _ _ _))))).2) (by simp)
  have hgr : mw_gr M (va_up M1 ca (some (.inl (cC, 3, .inr (.inr (.inr (.inr (va_up (fun _ => none) 0 (some k0))))))))) a (k0 :: ([sr0, pl0, tm0, pr0] ++ (ca :: (va :: (tr :: ([pm, w, co] ++ [])))))) := mw_gr_upd hgr (by simp)
  have hP : mw_P D k_cl (va_up M1 ca (some (.inl (cC, 3, .inr (.inr (.inr (.inr (va_up (fun _ => none) 0 (some k0))))))))) _ H := hP
  refine lv_iinc (v := nI 1) (lv' := [(1, .int (nI 1)), (0, .ref a)]) hx hb d_Sv_init_56 hl (k := 0) rfl (rfl) (by decide) rfl (fun ls hl => ?_)
  refine lv_goto (tgt := 38) hx hb d_Sv_init_59 (by decide) ?_
  refine lv_iload_n hx hb d_Sv_init_38 rfl (lv_at hl 0 rfl) ?_
  refine lv_iconst (v := 3) hx hb d_Sv_init_39 (by decide) ?_
  refine lv_icmp_ge (tgt := 62) hx hb d_Sv_init_40 (by decide) (fun c_40 => absurd c_40 (by decide)) (fun c_40 => ?_)
  refine lv_aload_n hx hb d_Sv_init_43 rfl (lv_at hl 1 rfl) ?_
  refine mw_get (v := .ref ca) (ci := 5) (C := R_Sv) (T := T_Sv) (N := 4) J i_Sv hK hP ((va_up_ne _ _ (Ne.symm ne_ca_a)).trans (hg2.1 a _ (Ne.symm ne_k0_a) ((va_up_ne _ _ (Ne.symm ne_k0_a)).trans (va_up_self _ _ _))).2) rfl 2 (by decide) (hts _ k_131) (fun _ h9 => h9) rfl d_Sv_init_44 ?_
  refine lv_iload_n hx hb d_Sv_init_47 rfl (lv_at hl 0 rfl) ?_
  refine mw_new (ci := 4) (fs := [.null, .null, .null, .null, .int 0, .int 0]) (C := R_Co) (T := T_Co) (N := 6) J i_Co t_Co o_Co (hts _ k_57) (hts _ k_59) (hts _ k_5) hK hP hS hA rfl (fun j hj => by rcases (show j = 0 ∨ j = 1 ∨ j = 2 ∨ j = 3 ∨ j = 4 ∨ j = 5 by omega) with rfl | rfl | rfl | rfl | rfl | rfl <;> rfl) (Nat.le_of_ble_eq_true rfl) (Nat.le_of_ble_eq_true rfl) d_Sv_init_48 (fun k1 H hk1n hP hS => ?_)
  have ne_k1_a : k1 ≠ a := fun z => by rw [z, ((va_up_ne _ _ (Ne.symm ne_ca_a)).trans (hg2.1 a _ (Ne.symm ne_k0_a) ((va_up_ne _ _ (Ne.symm ne_k0_a)).trans (va_up_self _ _ _))).2)] at hk1n; cases hk1n
  have ne_k1_tr : k1 ≠ tr := fun z => by rw [z, ((va_up_ne _ _ (Ne.symm ne_ca_tr)).trans (hg2.1 tr _ (Ne.symm ne_k0_tr) ((va_up_ne _ _ (Ne.symm ne_k0_tr)).trans ((va_up_ne _ _ ne_tr_a).trans ((va_up_ne _ _ ne_tr_a).trans ((va_up_ne _ _ (Ne.symm ne_ca_tr)).trans ((va_up_ne _ _ ne_tr_a).trans ((va_up_ne _ _ (Ne.symm ne_va_tr)).trans ((va_up_ne _ _ ne_tr_a).trans q1)))))))).2)] at hk1n; cases hk1n
  have ne_k1_co : k1 ≠ co := fun z => by rw [z, ((va_up_ne _ _ (Ne.symm ne_ca_co)).trans (hg2.1 co _ (Ne.symm ne_k0_co) ((va_up_ne _ _ (Ne.symm ne_k0_co)).trans ((va_up_ne _ _ ne_co_a).trans ((va_up_ne _ _ ne_co_a).trans ((va_up_ne _ _ (Ne.symm ne_ca_co)).trans ((va_up_ne _ _ ne_co_a).trans ((va_up_ne _ _ (Ne.symm ne_va_co)).trans ((va_up_ne _ _ ne_co_a).trans q2)))))))).2)] at hk1n; cases hk1n
  have ne_k1_pm : k1 ≠ pm := fun z => by rw [z, ((va_up_ne _ _ (Ne.symm ne_ca_pm)).trans (hg2.1 pm _ (Ne.symm ne_k0_pm) ((va_up_ne _ _ (Ne.symm ne_k0_pm)).trans ((va_up_ne _ _ ne_pm_a).trans ((va_up_ne _ _ ne_pm_a).trans ((va_up_ne _ _ (Ne.symm ne_ca_pm)).trans ((va_up_ne _ _ ne_pm_a).trans ((va_up_ne _ _ (Ne.symm ne_va_pm)).trans ((va_up_ne _ _ ne_pm_a).trans q3)))))))).2)] at hk1n; cases hk1n
  have ne_k1_w : k1 ≠ w := fun z => by rw [z, ((va_up_ne _ _ (Ne.symm ne_ca_w)).trans (hg2.1 w _ (Ne.symm ne_k0_w) ((va_up_ne _ _ (Ne.symm ne_k0_w)).trans ((va_up_ne _ _ ne_w_a).trans ((va_up_ne _ _ ne_w_a).trans ((va_up_ne _ _ (Ne.symm ne_ca_w)).trans ((va_up_ne _ _ ne_w_a).trans ((va_up_ne _ _ (Ne.symm ne_va_w)).trans ((va_up_ne _ _ ne_w_a).trans q4)))))))).2)] at hk1n; cases hk1n
  have ne_k1_va : k1 ≠ va := fun z => by rw [z, ((va_up_ne _ _ (Ne.symm ne_ca_va)).trans (hg2.1 va _ (Ne.symm ne_k0_va) ((va_up_ne _ _ (Ne.symm ne_k0_va)).trans ((va_up_ne _ _ ne_va_a).trans ((va_up_ne _ _ ne_va_a).trans ((va_up_ne _ _ (Ne.symm ne_ca_va)).trans ((va_up_ne _ _ ne_va_a).trans (va_up_self _ _ _))))))).2)] at hk1n; cases hk1n
  have ne_k1_ca : k1 ≠ ca := fun z => by rw [z, (va_up_self _ _ _)] at hk1n; cases hk1n
  have ne_k1_k0 : k1 ≠ k0 := fun z => by rw [z, ((va_up_ne _ _ ne_k0_ca).trans f0_0)] at hk1n; cases hk1n
  have ne_k1_pr0 : k1 ≠ pr0 := fun z => by rw [z, ((va_up_ne _ _ ne_pr0_ca).trans f0_1)] at hk1n; cases hk1n
  have ne_k1_tm0 : k1 ≠ tm0 := fun z => by rw [z, ((va_up_ne _ _ ne_tm0_ca).trans f0_2)] at hk1n; cases hk1n
  have ne_k1_pl0 : k1 ≠ pl0 := fun z => by rw [z, ((va_up_ne _ _ ne_pl0_ca).trans f0_3)] at hk1n; cases hk1n
  have hgr : mw_gr M (va_up (va_up M1 ca (some (.inl (cC, 3, .inr (.inr (.inr (.inr (va_up (fun _ => none) 0 (some k0))))))))) k1 (some (.inr (4, [.null, .null, .null, .null, .int 0, .int 0])))) a (k1 :: (k0 :: ([sr0, pl0, tm0, pr0] ++ (ca :: (va :: (tr :: ([pm, w, co] ++ []))))))) := mw_gr_new hgr hk1n
  refine lv_dup hx hb d_Sv_init_51 rfl ?_
  refine mw_afterV hP hS hA (mw_runI (As := []) (rest := [.ref k1, .int (nI 1), .ref ca]) J hK hZ hP hS hA (c_Co_init l D cI cZ cP cR cC tS _ (va_up (va_up M1 ca (some (.inl (cC, 3, .inr (.inr (.inr (.inr (va_up (fun _ => none) 0 (some k0))))))))) k1 (some (.inr (4, [.null, .null, .null, .null, .int 0, .int 0])))) k1 (va_up_self _ _ _)) (cwI 0 hts (mw_gI k_62) rfl rfl rfl (hts _ k_5) (hts _ k_60) (hts _ k_61) rfl (by decide +kernel) ⟨Nat.le_of_ble_eq_true rfl, Nat.le_of_ble_eq_true rfl⟩) rfl hl.1 rfl (Nat.le_of_ble_eq_true rfl) d_Sv_init_52 ⟨Nat.le_of_ble_eq_true rfl, Nat.le_of_ble_eq_true rfl⟩) (fun M1 H locs hw hP hS => ?_)
  obtain ⟨pr1, tm1, pl1, sr1, hg3, f1_0, f1_1, f1_2, f1_3⟩ := hw
  have hgr : mw_gr M M1 a (k1 :: ([sr1, pl1, tm1, pr1] ++ (k0 :: ([sr0, pl0, tm0, pr0] ++ (ca :: (va :: (tr :: ([pm, w, co] ++ [])))))))) := mw_gr_sub hgr hg3
  refine mw_aastN (k := 1) J hK hP hS 4 4 (hg3.1 ca _ (Ne.symm ne_k1_ca) ((va_up_ne _ _ (Ne.symm ne_k1_ca)).trans (va_up_self _ _ _))).2 rfl f1_0 rfl (by decide) (by decide) d_Sv_init_55 (fun H locs hP hS => ?_)
  have ne_pr1_ca : pr1 ≠ ca := mw_ne (f1_1) ((hg3.1 ca _ (Ne.symm ne_k1_ca) ((va_up_ne _ _ (Ne.symm ne_k1_ca)).trans (va_up_self _ _ _))).2) (by simp)
  have ne_tm1_ca : tm1 ≠ ca := mw_ne (f1_2) ((hg3.1 ca _ (Ne.symm ne_k1_ca) ((va_up_ne _ _ (Ne.symm ne_k1_ca)).trans (va_up_self _ _ _))).2) (by simp)
  have ne_pl1_ca : pl1 ≠ ca := mw_ne (f1_3) ((hg3.1 ca _ (Ne.symm ne_k1_ca) ((va_up_ne _ _ (Ne.symm ne_k1_ca)).trans (va_up_self _ _ _))).2) (by simp)
  have hgr : mw_gr M (va_up M1 ca (some (.inl (cC, 3, .inr (.inr (.inr (.inr (va_up (va_up (fun _ => none) 0 (some k0)) 1 (some k1))))))))) a (k1 :: ([sr1, pl1, tm1, pr1] ++ (k0 :: ([sr0, pl0, tm0, pr0] ++ (ca :: (va :: (tr :: ([pm, w, co] ++ [])))))))) := mw_gr_upd hgr (by simp)
  have hP : mw_P D k_cl (va_up M1 ca (some (.inl (cC, 3, .inr (.inr (.inr (.inr (va_up (va_up (fun _ => none) 0 (some k0)) 1 (some k1))))))))) _ H := hP
  refine lv_iinc (v := nI 2) (lv' := [(1, .int (nI 2)), (0, .ref a)]) hx hb d_Sv_init_56 hl (k := 0) rfl (rfl) (by decide) rfl (fun ls hl => ?_)
  refine lv_goto (tgt := 38) hx hb d_Sv_init_59 (by decide) ?_
  refine lv_iload_n hx hb d_Sv_init_38 rfl (lv_at hl 0 rfl) ?_
  refine lv_iconst (v := 3) hx hb d_Sv_init_39 (by decide) ?_
  refine lv_icmp_ge (tgt := 62) hx hb d_Sv_init_40 (by decide) (fun c_40 => absurd c_40 (by decide)) (fun c_40 => ?_)
  refine lv_aload_n hx hb d_Sv_init_43 rfl (lv_at hl 1 rfl) ?_
  refine mw_get (v := .ref ca) (ci := 5) (C := R_Sv) (T := T_Sv) (N := 4) J i_Sv hK hP ((va_up_ne _ _ (Ne.symm ne_ca_a)).trans (hg3.1 a _ (Ne.symm ne_k1_a) ((va_up_ne _ _ (Ne.symm ne_k1_a)).trans ((va_up_ne _ _ (Ne.symm ne_ca_a)).trans (hg2.1 a _ (Ne.symm ne_k0_a) ((va_up_ne _ _ (Ne.symm ne_k0_a)).trans (va_up_self _ _ _))).2))).2) rfl 2 (by decide) (hts _ k_131) (fun _ h9 => h9) rfl d_Sv_init_44 ?_
  refine lv_iload_n hx hb d_Sv_init_47 rfl (lv_at hl 0 rfl) ?_
  refine mw_new (ci := 4) (fs := [.null, .null, .null, .null, .int 0, .int 0]) (C := R_Co) (T := T_Co) (N := 6) J i_Co t_Co o_Co (hts _ k_57) (hts _ k_59) (hts _ k_5) hK hP hS hA rfl (fun j hj => by rcases (show j = 0 ∨ j = 1 ∨ j = 2 ∨ j = 3 ∨ j = 4 ∨ j = 5 by omega) with rfl | rfl | rfl | rfl | rfl | rfl <;> rfl) (Nat.le_of_ble_eq_true rfl) (Nat.le_of_ble_eq_true rfl) d_Sv_init_48 (fun k2 H hk2n hP hS => ?_)
  have ne_k2_a : k2 ≠ a := fun z => by rw [z, ((va_up_ne _ _ (Ne.symm ne_ca_a)).trans (hg3.1 a _ (Ne.symm ne_k1_a) ((va_up_ne _ _ (Ne.symm ne_k1_a)).trans ((va_up_ne _ _ (Ne.symm ne_ca_a)).trans (hg2.1 a _ (Ne.symm ne_k0_a) ((va_up_ne _ _ (Ne.symm ne_k0_a)).trans (va_up_self _ _ _))).2))).2)] at hk2n; cases hk2n
  have ne_k2_tr : k2 ≠ tr := fun z => by rw [z, ((va_up_ne _ _ (Ne.symm ne_ca_tr)).trans (hg3.1 tr _ (Ne.symm ne_k1_tr) ((va_up_ne _ _ (Ne.symm ne_k1_tr)).trans ((va_up_ne _ _ (Ne.symm ne_ca_tr)).trans (hg2.1 tr _ (Ne.symm ne_k0_tr) ((va_up_ne _ _ (Ne.symm ne_k0_tr)).trans ((va_up_ne _ _ ne_tr_a).trans ((va_up_ne _ _ ne_tr_a).trans ((va_up_ne _ _ (Ne.symm ne_ca_tr)).trans ((va_up_ne _ _ ne_tr_a).trans ((va_up_ne _ _ (Ne.symm ne_va_tr)).trans ((va_up_ne _ _ ne_tr_a).trans q1)))))))).2))).2)] at hk2n; cases hk2n
  have ne_k2_co : k2 ≠ co := fun z => by rw [z, ((va_up_ne _ _ (Ne.symm ne_ca_co)).trans (hg3.1 co _ (Ne.symm ne_k1_co) ((va_up_ne _ _ (Ne.symm ne_k1_co)).trans ((va_up_ne _ _ (Ne.symm ne_ca_co)).trans (hg2.1 co _ (Ne.symm ne_k0_co) ((va_up_ne _ _ (Ne.symm ne_k0_co)).trans ((va_up_ne _ _ ne_co_a).trans ((va_up_ne _ _ ne_co_a).trans ((va_up_ne _ _ (Ne.symm ne_ca_co)).trans ((va_up_ne _ _ ne_co_a).trans ((va_up_ne _ _ (Ne.symm ne_va_co)).trans ((va_up_ne _ _ ne_co_a).trans q2)))))))).2))).2)] at hk2n; cases hk2n
  have ne_k2_pm : k2 ≠ pm := fun z => by rw [z, ((va_up_ne _ _ (Ne.symm ne_ca_pm)).trans (hg3.1 pm _ (Ne.symm ne_k1_pm) ((va_up_ne _ _ (Ne.symm ne_k1_pm)).trans ((va_up_ne _ _ (Ne.symm ne_ca_pm)).trans (hg2.1 pm _ (Ne.symm ne_k0_pm) ((va_up_ne _ _ (Ne.symm ne_k0_pm)).trans ((va_up_ne _ _ ne_pm_a).trans ((va_up_ne _ _ ne_pm_a).trans ((va_up_ne _ _ (Ne.symm ne_ca_pm)).trans ((va_up_ne _ _ ne_pm_a).trans ((va_up_ne _ _ (Ne.symm ne_va_pm)).trans ((va_up_ne _ _ ne_pm_a).trans q3)))))))).2))).2)] at hk2n; cases hk2n
  have ne_k2_w : k2 ≠ w := fun z => by rw [z, ((va_up_ne _ _ (Ne.symm ne_ca_w)).trans (hg3.1 w _ (Ne.symm ne_k1_w) ((va_up_ne _ _ (Ne.symm ne_k1_w)).trans ((va_up_ne _ _ (Ne.symm ne_ca_w)).trans (hg2.1 w _ (Ne.symm ne_k0_w) ((va_up_ne _ _ (Ne.symm ne_k0_w)).trans ((va_up_ne _ _ ne_w_a).trans ((va_up_ne _ _ ne_w_a).trans ((va_up_ne _ _ (Ne.symm ne_ca_w)).trans ((va_up_ne _ _ ne_w_a).trans ((va_up_ne _ _ (Ne.symm ne_va_w)).trans ((va_up_ne _ _ ne_w_a).trans q4)))))))).2))).2)] at hk2n; cases hk2n
  have ne_k2_va : k2 ≠ va := fun z => by rw [z, ((va_up_ne _ _ (Ne.symm ne_ca_va)).trans (hg3.1 va _ (Ne.symm ne_k1_va) ((va_up_ne _ _ (Ne.symm ne_k1_va)).trans ((va_up_ne _ _ (Ne.symm ne_ca_va)).trans (hg2.1 va _ (Ne.symm ne_k0_va) ((va_up_ne _ _ (Ne.symm ne_k0_va)).trans ((va_up_ne _ _ ne_va_a).trans ((va_up_ne _ _ ne_va_a).trans ((va_up_ne _ _ (Ne.symm ne_ca_va)).trans ((va_up_ne _ _ ne_va_a).trans (va_up_self _ _ _))))))).2))).2)] at hk2n; cases hk2n
  have ne_k2_ca : k2 ≠ ca := fun z => by rw [z, (va_up_self _ _ _)] at hk2n; cases hk2n
  have ne_k2_k0 : k2 ≠ k0 := fun z => by rw [z, ((va_up_ne _ _ ne_k0_ca).trans (hg3.1 k0 _ (Ne.symm ne_k1_k0) ((va_up_ne _ _ (Ne.symm ne_k1_k0)).trans ((va_up_ne _ _ ne_k0_ca).trans f0_0))).2)] at hk2n; cases hk2n
  have ne_k2_pr0 : k2 ≠ pr0 := fun z => by rw [z, ((va_up_ne _ _ ne_pr0_ca).trans (hg3.1 pr0 _ (Ne.symm ne_k1_pr0) ((va_up_ne _ _ (Ne.symm ne_k1_pr0)).trans ((va_up_ne _ _ ne_pr0_ca).trans f0_1))).2)] at hk2n; cases hk2n
  have ne_k2_tm0 : k2 ≠ tm0 := fun z => by rw [z, ((va_up_ne _ _ ne_tm0_ca).trans (hg3.1 tm0 _ (Ne.symm ne_k1_tm0) ((va_up_ne _ _ (Ne.symm ne_k1_tm0)).trans ((va_up_ne _ _ ne_tm0_ca).trans f0_2))).2)] at hk2n; cases hk2n
  have ne_k2_pl0 : k2 ≠ pl0 := fun z => by rw [z, ((va_up_ne _ _ ne_pl0_ca).trans (hg3.1 pl0 _ (Ne.symm ne_k1_pl0) ((va_up_ne _ _ (Ne.symm ne_k1_pl0)).trans ((va_up_ne _ _ ne_pl0_ca).trans f0_3))).2)] at hk2n; cases hk2n
  have ne_k2_k1 : k2 ≠ k1 := fun z => by rw [z, ((va_up_ne _ _ ne_k1_ca).trans f1_0)] at hk2n; cases hk2n
  have ne_k2_pr1 : k2 ≠ pr1 := fun z => by rw [z, ((va_up_ne _ _ ne_pr1_ca).trans f1_1)] at hk2n; cases hk2n
  have ne_k2_tm1 : k2 ≠ tm1 := fun z => by rw [z, ((va_up_ne _ _ ne_tm1_ca).trans f1_2)] at hk2n; cases hk2n
  have ne_k2_pl1 : k2 ≠ pl1 := fun z => by rw [z, ((va_up_ne _ _ ne_pl1_ca).trans f1_3)] at hk2n; cases hk2n
  have hgr : mw_gr M (va_up (va_up M1 ca (some (.inl (cC, 3, .inr (.inr (.inr (.inr (va_up (va_up (fun _ => none) 0 (some k0)) 1 (some k1))))))))) k2 (some (.inr (4, [.null, .null, .null, .null, .int 0, .int 0])))) a (k2 :: (k1 :: ([sr1, pl1, tm1, pr1] ++ (k0 :: ([sr0, pl0, tm0, pr0] ++ (ca :: (va :: (tr :: ([pm, w, co] ++ []))))))))) := mw_gr_new hgr hk2n
  refine lv_dup hx hb d_Sv_init_51 rfl ?_
  refine mw_afterV hP hS hA (mw_runI (As := []) (rest := [.ref k2, .int (nI 2), .ref ca]) J hK hZ hP hS hA (c_Co_init l D cI cZ cP cR cC tS _ (va_up (va_up M1 ca (some (.inl (cC, 3, .inr (.inr (.inr (.inr (va_up (va_up (fun _ => none) 0 (some k0)) 1 (some k1))))))))) k2 (some (.inr (4, [.null, .null, .null, .null, .int 0, .int 0])))) k2 (va_up_self _ _ _)) (cwI 0 hts (mw_gI k_62) rfl rfl rfl (hts _ k_5) (hts _ k_60) (hts _ k_61) rfl (by decide +kernel) ⟨Nat.le_of_ble_eq_true rfl, Nat.le_of_ble_eq_true rfl⟩) rfl hl.1 rfl (Nat.le_of_ble_eq_true rfl) d_Sv_init_52 ⟨Nat.le_of_ble_eq_true rfl, Nat.le_of_ble_eq_true rfl⟩) (fun M1 H locs hw hP hS => ?_)
  obtain ⟨pr2, tm2, pl2, sr2, hg4, f2_0, f2_1, f2_2, f2_3⟩ := hw
  have hgr : mw_gr M M1 a (k2 :: ([sr2, pl2, tm2, pr2] ++ (k1 :: ([sr1, pl1, tm1, pr1] ++ (k0 :: ([sr0, pl0, tm0, pr0] ++ (ca :: (va :: (tr :: ([pm, w, co] ++ [])))))))))) := mw_gr_sub hgr hg4
  refine mw_aastN (k := 2) J hK hP hS 4 4 (hg4.1 ca _ (Ne.symm ne_k2_ca) ((va_up_ne _ _ (Ne.symm ne_k2_ca)).trans (va_up_self _ _ _))).2 rfl f2_0 rfl (by decide) (by decide) d_Sv_init_55 (fun H locs hP hS => ?_)
  have ne_pr2_ca : pr2 ≠ ca := mw_ne (f2_1) ((hg4.1 ca _ (Ne.symm ne_k2_ca) ((va_up_ne _ _ (Ne.symm ne_k2_ca)).trans (va_up_self _ _ _))).2) (by simp)
  have ne_tm2_ca : tm2 ≠ ca := mw_ne (f2_2) ((hg4.1 ca _ (Ne.symm ne_k2_ca) ((va_up_ne _ _ (Ne.symm ne_k2_ca)).trans (va_up_self _ _ _))).2) (by simp)
  have ne_pl2_ca : pl2 ≠ ca := mw_ne (f2_3) ((hg4.1 ca _ (Ne.symm ne_k2_ca) ((va_up_ne _ _ (Ne.symm ne_k2_ca)).trans (va_up_self _ _ _))).2) (by simp)
  have hgr : mw_gr M (va_up M1 ca (some (.inl (cC, 3, .inr (.inr (.inr (.inr (va_up (va_up (va_up (fun _ => none) 0 (some k0)) 1 (some k1)) 2 (some k2))))))))) a (k2 :: ([sr2, pl2, tm2, pr2] ++ (k1 :: ([sr1, pl1, tm1, pr1] ++ (k0 :: ([sr0, pl0, tm0, pr0] ++ (ca :: (va :: (tr :: ([pm, w, co] ++ [])))))))))) := mw_gr_upd hgr (by simp)
  have hP : mw_P D k_cl (va_up M1 ca (some (.inl (cC, 3, .inr (.inr (.inr (.inr (va_up (va_up (va_up (fun _ => none) 0 (some k0)) 1 (some k1)) 2 (some k2))))))))) _ H := hP
  refine lv_iinc (v := nI 3) (lv' := [(1, .int (nI 3)), (0, .ref a)]) hx hb d_Sv_init_56 hl (k := 0) rfl (rfl) (by decide) rfl (fun ls hl => ?_)
  refine lv_goto (tgt := 38) hx hb d_Sv_init_59 (by decide) ?_
  refine lv_iload_n hx hb d_Sv_init_38 rfl (lv_at hl 0 rfl) ?_
  refine lv_iconst (v := 3) hx hb d_Sv_init_39 (by decide) ?_
  refine lv_icmp_ge (tgt := 62) hx hb d_Sv_init_40 (by decide) (fun c_40 => ?_) (fun c_40 => absurd (by decide) c_40)
  exact mw_vret J hr hlk hP hS d_Sv_init_62 (⟨tr, co, pm, w, va, ca, k0, pr0, tm0, pl0, sr0, k1, pr1, tm1, pl1, sr1, k2, pr2, tm2, pl2, sr2, _, hgr, ((va_up_ne _ _ (Ne.symm ne_ca_a)).trans (hg4.1 a _ (Ne.symm ne_k2_a) ((va_up_ne _ _ (Ne.symm ne_k2_a)).trans ((va_up_ne _ _ (Ne.symm ne_ca_a)).trans (hg3.1 a _ (Ne.symm ne_k1_a) ((va_up_ne _ _ (Ne.symm ne_k1_a)).trans ((va_up_ne _ _ (Ne.symm ne_ca_a)).trans (hg2.1 a _ (Ne.symm ne_k0_a) ((va_up_ne _ _ (Ne.symm ne_k0_a)).trans (va_up_self _ _ _))).2))).2))).2), ((va_up_ne _ _ (Ne.symm ne_ca_tr)).trans (hg4.1 tr _ (Ne.symm ne_k2_tr) ((va_up_ne _ _ (Ne.symm ne_k2_tr)).trans ((va_up_ne _ _ (Ne.symm ne_ca_tr)).trans (hg3.1 tr _ (Ne.symm ne_k1_tr) ((va_up_ne _ _ (Ne.symm ne_k1_tr)).trans ((va_up_ne _ _ (Ne.symm ne_ca_tr)).trans (hg2.1 tr _ (Ne.symm ne_k0_tr) ((va_up_ne _ _ (Ne.symm ne_k0_tr)).trans ((va_up_ne _ _ ne_tr_a).trans ((va_up_ne _ _ ne_tr_a).trans ((va_up_ne _ _ (Ne.symm ne_ca_tr)).trans ((va_up_ne _ _ ne_tr_a).trans ((va_up_ne _ _ (Ne.symm ne_va_tr)).trans ((va_up_ne _ _ ne_tr_a).trans q1)))))))).2))).2))).2), ((va_up_ne _ _ (Ne.symm ne_ca_co)).trans (hg4.1 co _ (Ne.symm ne_k2_co) ((va_up_ne _ _ (Ne.symm ne_k2_co)).trans ((va_up_ne _ _ (Ne.symm ne_ca_co)).trans (hg3.1 co _ (Ne.symm ne_k1_co) ((va_up_ne _ _ (Ne.symm ne_k1_co)).trans ((va_up_ne _ _ (Ne.symm ne_ca_co)).trans (hg2.1 co _ (Ne.symm ne_k0_co) ((va_up_ne _ _ (Ne.symm ne_k0_co)).trans ((va_up_ne _ _ ne_co_a).trans ((va_up_ne _ _ ne_co_a).trans ((va_up_ne _ _ (Ne.symm ne_ca_co)).trans ((va_up_ne _ _ ne_co_a).trans ((va_up_ne _ _ (Ne.symm ne_va_co)).trans ((va_up_ne _ _ ne_co_a).trans q2)))))))).2))).2))).2), ((va_up_ne _ _ (Ne.symm ne_ca_pm)).trans (hg4.1 pm _ (Ne.symm ne_k2_pm) ((va_up_ne _ _ (Ne.symm ne_k2_pm)).trans ((va_up_ne _ _ (Ne.symm ne_ca_pm)).trans (hg3.1 pm _ (Ne.symm ne_k1_pm) ((va_up_ne _ _ (Ne.symm ne_k1_pm)).trans ((va_up_ne _ _ (Ne.symm ne_ca_pm)).trans (hg2.1 pm _ (Ne.symm ne_k0_pm) ((va_up_ne _ _ (Ne.symm ne_k0_pm)).trans ((va_up_ne _ _ ne_pm_a).trans ((va_up_ne _ _ ne_pm_a).trans ((va_up_ne _ _ (Ne.symm ne_ca_pm)).trans ((va_up_ne _ _ ne_pm_a).trans ((va_up_ne _ _ (Ne.symm ne_va_pm)).trans ((va_up_ne _ _ ne_pm_a).trans q3)))))))).2))).2))).2), ((va_up_ne _ _ (Ne.symm ne_ca_w)).trans (hg4.1 w _ (Ne.symm ne_k2_w) ((va_up_ne _ _ (Ne.symm ne_k2_w)).trans ((va_up_ne _ _ (Ne.symm ne_ca_w)).trans (hg3.1 w _ (Ne.symm ne_k1_w) ((va_up_ne _ _ (Ne.symm ne_k1_w)).trans ((va_up_ne _ _ (Ne.symm ne_ca_w)).trans (hg2.1 w _ (Ne.symm ne_k0_w) ((va_up_ne _ _ (Ne.symm ne_k0_w)).trans ((va_up_ne _ _ ne_w_a).trans ((va_up_ne _ _ ne_w_a).trans ((va_up_ne _ _ (Ne.symm ne_ca_w)).trans ((va_up_ne _ _ ne_w_a).trans ((va_up_ne _ _ (Ne.symm ne_va_w)).trans ((va_up_ne _ _ ne_w_a).trans q4)))))))).2))).2))).2), ((va_up_ne _ _ (Ne.symm ne_ca_va)).trans (hg4.1 va _ (Ne.symm ne_k2_va) ((va_up_ne _ _ (Ne.symm ne_k2_va)).trans ((va_up_ne _ _ (Ne.symm ne_ca_va)).trans (hg3.1 va _ (Ne.symm ne_k1_va) ((va_up_ne _ _ (Ne.symm ne_k1_va)).trans ((va_up_ne _ _ (Ne.symm ne_ca_va)).trans (hg2.1 va _ (Ne.symm ne_k0_va) ((va_up_ne _ _ (Ne.symm ne_k0_va)).trans ((va_up_ne _ _ ne_va_a).trans ((va_up_ne _ _ ne_va_a).trans ((va_up_ne _ _ (Ne.symm ne_ca_va)).trans ((va_up_ne _ _ ne_va_a).trans (va_up_self _ _ _))))))).2))).2))).2), (va_up_self _ _ _), ⟨rfl, rfl, rfl⟩, ((va_up_ne _ _ ne_k0_ca).trans (hg4.1 k0 _ (Ne.symm ne_k2_k0) ((va_up_ne _ _ (Ne.symm ne_k2_k0)).trans ((va_up_ne _ _ ne_k0_ca).trans (hg3.1 k0 _ (Ne.symm ne_k1_k0) ((va_up_ne _ _ (Ne.symm ne_k1_k0)).trans ((va_up_ne _ _ ne_k0_ca).trans f0_0))).2))).2), ((va_up_ne _ _ ne_pr0_ca).trans (hg4.1 pr0 _ (Ne.symm ne_k2_pr0) ((va_up_ne _ _ (Ne.symm ne_k2_pr0)).trans ((va_up_ne _ _ ne_pr0_ca).trans (hg3.1 pr0 _ (Ne.symm ne_k1_pr0) ((va_up_ne _ _ (Ne.symm ne_k1_pr0)).trans ((va_up_ne _ _ ne_pr0_ca).trans f0_1))).2))).2), ((va_up_ne _ _ ne_tm0_ca).trans (hg4.1 tm0 _ (Ne.symm ne_k2_tm0) ((va_up_ne _ _ (Ne.symm ne_k2_tm0)).trans ((va_up_ne _ _ ne_tm0_ca).trans (hg3.1 tm0 _ (Ne.symm ne_k1_tm0) ((va_up_ne _ _ (Ne.symm ne_k1_tm0)).trans ((va_up_ne _ _ ne_tm0_ca).trans f0_2))).2))).2), ((va_up_ne _ _ ne_pl0_ca).trans (hg4.1 pl0 _ (Ne.symm ne_k2_pl0) ((va_up_ne _ _ (Ne.symm ne_k2_pl0)).trans ((va_up_ne _ _ ne_pl0_ca).trans (hg3.1 pl0 _ (Ne.symm ne_k1_pl0) ((va_up_ne _ _ (Ne.symm ne_k1_pl0)).trans ((va_up_ne _ _ ne_pl0_ca).trans f0_3))).2))).2), ((va_up_ne _ _ ne_k1_ca).trans (hg4.1 k1 _ (Ne.symm ne_k2_k1) ((va_up_ne _ _ (Ne.symm ne_k2_k1)).trans ((va_up_ne _ _ ne_k1_ca).trans f1_0))).2), ((va_up_ne _ _ ne_pr1_ca).trans (hg4.1 pr1 _ (Ne.symm ne_k2_pr1) ((va_up_ne _ _ (Ne.symm ne_k2_pr1)).trans ((va_up_ne _ _ ne_pr1_ca).trans f1_1))).2), ((va_up_ne _ _ ne_tm1_ca).trans (hg4.1 tm1 _ (Ne.symm ne_k2_tm1) ((va_up_ne _ _ (Ne.symm ne_k2_tm1)).trans ((va_up_ne _ _ ne_tm1_ca).trans f1_2))).2), ((va_up_ne _ _ ne_pl1_ca).trans (hg4.1 pl1 _ (Ne.symm ne_k2_pl1) ((va_up_ne _ _ (Ne.symm ne_k2_pl1)).trans ((va_up_ne _ _ ne_pl1_ca).trans f1_3))).2), ((va_up_ne _ _ ne_k2_ca).trans f2_0), ((va_up_ne _ _ ne_pr2_ca).trans f2_1), ((va_up_ne _ _ ne_tm2_ca).trans f2_2), ((va_up_ne _ _ ne_pl2_ca).trans f2_3)⟩)
