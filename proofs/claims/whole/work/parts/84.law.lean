/-! the law: its loop, its start -/
set_option maxHeartbeats 4000000 in
set_option maxRecDepth 100000 in
theorem lw_loop {p : Program} {l : Launch} {e : Env} {s : State} {m : MethodId} {below : List Frame} {meth : Method} {c : Code} {b L : Nat} {xs : Nat → Int32} {D : va_G} {cI cZ cP cR cC : ClassId} {tS : Nat} (J : CallFix p m c b_Lw_law 4 s #[Value.ref b] gw "RuleKeeperLaw") (hX : va_X b L xs s s.heap) (hbl : b < s.heap.size) (hK : va_K D k_cl (k_tys cI cZ cP cR cC) s) (hZ : mw_Z (k_g tS) (fun q => s.heap.size ≤ q) s s.heap) (hL : L ≤ 2048) (hr : meth.sig.returnType = ret) (hlocks : meth.locks = false) {kx mx : Nat} {H : Heap} {locs : List Loc} {ls : Array Slot} (hl : lv_has ls 4 [(0, .ref b), (1, .ref kx), (2, .ref mx), (3, .int (nI (4 * 0)))]) (hst : lw_st D cI cZ cP cR cC (fun q => s.heap.size ≤ q) kx mx H) (hS : va_S (fun q => s.heap.size ≤ q) s.heap H locs) : W p l e room_1 s m #[Value.ref b] below meth c H locs (60 + 4 * 0) (110000 + 17 * 0) (lw_Z below #[Value.ref b] s) (F0 m 18 ls []) := by
  refine mw_loopL (W' := fun t H locs ls => W p l e room_1 s m #[Value.ref b] below meth c H locs (60 + 4 * t) (110000 + 17 * t) (lw_Z below #[Value.ref b] s) (F0 m 18 ls [])) 512 (fun t H locs ls => lv_has ls 4 [(0, .ref b), (1, .ref kx), (2, .ref mx), (3, .int (nI (4 * t)))] ∧ lw_st D cI cZ cP cR cC (fun q => s.heap.size ≤ q) kx mx H ∧ va_S (fun q => s.heap.size ≤ q) s.heap H locs) ?_ 512 0 (by omega) (by omega) H locs ls ⟨hl, hst, hS⟩
  intro t H locs ls htm hI ih
  obtain ⟨hl, hst, hS⟩ := hI
  have hx := J.1
  have hb := J.2.1
  have hbA : ¬ (fun q : Nat => s.heap.size ≤ q) b := Nat.not_le.mpr hbl
  refine lv_iload_n hx hb d_Lw_law_18 rfl (lv_at hl 3 rfl) ?_
  refine lv_aload_n hx hb d_Lw_law_19 rfl (lv_at hl 0 rfl) ?_
  refine va_slen hx hb hX hbl hbA hS d_Lw_law_20 ?_
  refine lv_iconst (v := 4) hx hb d_Lw_law_21 (by decide) ?_
  refine lv_isub hx hb d_Lw_law_22 ?_
  refine mw_top (x' := nI L - nI 4) rfl ?_
  refine lv_icmp_gt (tgt := 458) hx hb d_Lw_law_23 (by decide) (fun _ => ?_) (fun cg => ?_)
  · refine lv_iconst (v := 1) hx hb d_Lw_law_458 (by decide) ?_
    refine va_forget (fun q hq => hS.2.2 q hq) ?_
    refine W.widen (k := 600000) (n := 7302250) (by omega) (by omega) ?_
    exact lw_ret hx hb hr hlocks d_Lw_law_459
  · have ht : 4 * t + 4 ≤ L := lw_go hL htm cg
    have kk : ∀ (H : Heap) (locs : List Loc), lw_st D cI cZ cP cR cC (fun q => s.heap.size ≤ q) kx mx H → va_S (fun q => s.heap.size ≤ q) s.heap H locs → W p l e room_1 s m #[Value.ref b] below meth c H locs (60 + 4 * (t + 1)) (110000 + 17 * (t + 1)) (lw_Z below #[Value.ref b] s) (F0 m 452 ls []) := fun H locs hst hS => by
      refine lv_iinc (v := nI (4 * (t + 1))) (lv' := [(3, .int (nI (4 * (t + 1)))), (0, .ref b), (1, .ref kx), (2, .ref mx)]) hx hb d_Lw_law_452 hl (k := 3) rfl (nI_add (4 * t) 4) (by decide) rfl (fun ls hl => ?_)
      refine lv_goto (tgt := 18) hx hb d_Lw_law_455 (by decide) ?_
      exact ih _ _ _ (by omega) ⟨lv_sub hl [1, 2, 3, 0] rfl, hst, hS⟩
    refine lv_aload_n hx hb d_Lw_law_26 rfl (lv_at hl 0 rfl) ?_
    refine lv_iload_n hx hb d_Lw_law_27 rfl (lv_at hl 3 rfl) ?_
    refine va_sld hx hb hX hbl hbA hS (vp_in_nI (by omega) (by omega)) d_Lw_law_28 ?_
    refine lv_bipush (v := 15) hx hb d_Lw_law_29 (by decide) ?_
    refine lv_iand hx hb d_Lw_law_31 ?_
    obtain ⟨j, hj, ej⟩ := pk_andE (xs (nI (4 * t)).toNatClampNeg) (m := 15) 4 (by decide)
    refine mw_top (x' := nI j) ej ?_
    rcases (show j = 0 ∨ j = 1 ∨ j = 2 ∨ j = 3 ∨ j = 4 ∨ j = 5 ∨ j = 6 ∨ j = 7 ∨ j = 8 ∨ j = 9 ∨ j = 10 ∨ j = 11 ∨ j = 12 ∨ j = 13 ∨ j = 14 ∨ j = 15 by omega) with rfl | rfl | rfl | rfl | rfl | rfl | rfl | rfl | rfl | rfl | rfl | rfl | rfl | rfl | rfl | rfl
    · refine lv_tableIn (off := 64) (tgt := 96) hx hb d_Lw_law_32 (by decide) (by decide) (by decide) (by decide) ?_
      exact lw_say J hX hbl hK hZ hL ht hl hst hS kk
    · refine lv_tableIn (off := 107) (tgt := 139) hx hb d_Lw_law_32 (by decide) (by decide) (by decide) (by decide) ?_
      exact lw_unsay J hX hbl hK hZ hL ht hl hst hS kk
    · refine lv_tableIn (off := 150) (tgt := 182) hx hb d_Lw_law_32 (by decide) (by decide) (by decide) (by decide) ?_
      exact lw_pattern J hX hbl hK hZ hL ht hl hst hS kk
    · refine lv_tableIn (off := 193) (tgt := 225) hx hb d_Lw_law_32 (by decide) (by decide) (by decide) (by decide) ?_
      exact lw_rule J hX hbl hK hZ hL ht hl hst hS kk
    · refine lv_tableIn (off := 206) (tgt := 238) hx hb d_Lw_law_32 (by decide) (by decide) (by decide) (by decide) ?_
      exact lw_unrule J hX hbl hK hZ hL ht hl hst hS kk
    · refine lv_tableIn (off := 229) (tgt := 261) hx hb d_Lw_law_32 (by decide) (by decide) (by decide) (by decide) ?_
      exact lw_rules J hX hbl hK hZ hL ht hl hst hS kk
    · refine lv_tableIn (off := 242) (tgt := 274) hx hb d_Lw_law_32 (by decide) (by decide) (by decide) (by decide) ?_
      exact lw_holds J hX hbl hK hZ hL ht hl hst hS kk
    · refine lv_tableIn (off := 285) (tgt := 317) hx hb d_Lw_law_32 (by decide) (by decide) (by decide) (by decide) ?_
      exact lw_support J hX hbl hK hZ hL ht hl hst hS kk
    · refine lv_tableIn (off := 328) (tgt := 360) hx hb d_Lw_law_32 (by decide) (by decide) (by decide) (by decide) ?_
      exact lw_size J hX hbl hK hZ hL ht hl hst hS kk
    · refine lv_tableIn (off := 341) (tgt := 373) hx hb d_Lw_law_32 (by decide) (by decide) (by decide) (by decide) ?_
      exact lw_next J hX hbl hK hZ hL ht hl hst hS kk
    · refine lv_tableIn (off := 364) (tgt := 396) hx hb d_Lw_law_32 (by decide) (by decide) (by decide) (by decide) ?_
      exact lw_fitting J hX hbl hK hZ hL ht hl hst hS kk
    · refine lv_tableIn (off := 407) (tgt := 439) hx hb d_Lw_law_32 (by decide) (by decide) (by decide) (by decide) ?_
      exact lw_clear J hX hbl hK hZ hL ht hl hst hS kk
    · refine lv_tableOut (tgt := 452) hx hb d_Lw_law_32 (by decide) (by decide) ?_
      refine W.widen (k := 60 + 4 * (t + 1)) (n := 110000 + 17 * (t + 1)) (by omega) (by omega) ?_
      exact kk _ _ hst hS
    · refine lv_tableOut (tgt := 452) hx hb d_Lw_law_32 (by decide) (by decide) ?_
      refine W.widen (k := 60 + 4 * (t + 1)) (n := 110000 + 17 * (t + 1)) (by omega) (by omega) ?_
      exact kk _ _ hst hS
    · refine lv_tableOut (tgt := 452) hx hb d_Lw_law_32 (by decide) (by decide) ?_
      refine W.widen (k := 60 + 4 * (t + 1)) (n := 110000 + 17 * (t + 1)) (by omega) (by omega) ?_
      exact kk _ _ hst hS
    · refine lv_tableOut (tgt := 452) hx hb d_Lw_law_32 (by decide) (by decide) ?_
      refine W.widen (k := 60 + 4 * (t + 1)) (n := 110000 + 17 * (t + 1)) (by omega) (by omega) ?_
      exact kk _ _ hst hS
set_option maxHeartbeats 4000000 in
set_option maxRecDepth 100000 in
/-- from the entry, for every script of at most 2048 ints, the law comes to its end with true -/
theorem whole_start {p : Program} {e : Env} {s : State} {m : MethodId} {below : List Frame} {meth : Method} {c : Code} (l : Launch) {b L : Nat} {xs : Nat → Int32} (hL : L ≤ 2048) (C0 : lw_At p s m meth c b L xs) : W p l e room_1 s m #[Value.ref b] below meth c s.heap [] 0 0 (lw_Z below #[Value.ref b] s) (entryFrame m ([Value.ref b] : List Value).toArray 4) := by
  obtain ⟨hx, hb, hr, hml, hown, hts0, hX, hbl, hlocks, hgv⟩ := id C0
  obtain ⟨D, cI, cZ, cP, cR, cC, tS, hK, hZ⟩ := lw_env hts0 hgv
  have hts : ∀ w ∈ gw, w.before #[Value.ref b] s = true := fun w hw => hts0 w (gw_in w hw)
  have J : CallFix p m c b_Lw_law 4 s #[Value.ref b] gw "RuleKeeperLaw" := ⟨hx, hb, hml, hown, hts⟩
  have hA : ∀ q : Nat, s.heap.size ≤ q → (fun q : Nat => s.heap.size ≤ q) q := fun _ h => h
  have hS : va_S (fun q : Nat => s.heap.size ≤ q) s.heap s.heap [] := va_S.rf
  have hP : mw_P D k_cl (fun _ => none) (fun q : Nat => s.heap.size ≤ q) s.heap := mw_P.none
  have hl := lv_entry ([.ref b]) (n := 4) (Nat.le_of_ble_eq_true rfl)
  rw [lg_entry_eq]
  generalize (lg_sl ([.ref b]) ++ List.replicate (4 - (lg_sl ([.ref b])).length) Slot.unset).toArray = ls at hl ⊢
  have hl : lv_has ls 4 [(0, .ref b)] := hl
  refine mw_new (ci := 6) (fs := [.null, .null, .null, .null, .null, .int 0, .int 0]) (C := R_Kp) (T := T_Kp) (N := 7) J i_Kp t_Kp o_Kp (hts _ k_10) (hts _ k_11) (hts _ k_1) hK hP hS hA rfl (fun j hj => by rcases (show j = 0 ∨ j = 1 ∨ j = 2 ∨ j = 3 ∨ j = 4 ∨ j = 5 ∨ j = 6 by omega) with rfl | rfl | rfl | rfl | rfl | rfl | rfl <;> rfl) (Nat.le_of_ble_eq_true rfl) (Nat.le_of_ble_eq_true rfl) d_Lw_law_0 (fun kx H hkxn hP hS => ?_)
  refine lv_dup hx hb d_Lw_law_3 rfl ?_
  refine mw_afterV hP hS hA (mw_runI (As := []) (rest := [.ref kx]) J hK hZ hP hS hA (c_Kp_init l D cI cZ cP cR cC tS _ (va_up (fun _ => none) kx (some (.inr (6, [.null, .null, .null, .null, .null, .int 0, .int 0])))) kx (va_up_self _ _ _)) (cwI 0 hts (mw_gI k_14) rfl rfl rfl (hts _ k_1) (hts _ k_12) (hts _ k_13) rfl (by decide +kernel) ⟨Nat.le_of_ble_eq_true rfl, Nat.le_of_ble_eq_true rfl⟩) rfl hl.1 rfl (Nat.le_of_ble_eq_true rfl) d_Lw_law_4 ⟨Nat.le_of_ble_eq_true rfl, Nat.le_of_ble_eq_true rfl⟩) (fun MK H locs hw hP hS => ?_)
  obtain ⟨ad, pm, sm, ca, hk0, hks⟩ := hw
  refine lv_astore_n (lv' := [(1, .ref kx), (0, .ref b)]) hx hb d_Lw_law_7 rfl hl (by decide) rfl (fun ls hl => ?_)
  refine mw_new (ci := 7) (fs := [.null, .null, .null, .null, .int 0, .null, .null, .int 0, .null, .int 0, .null, .null, .null, .null]) (C := R_Md) (T := T_Md) (N := 14) J i_Md t_Md o_Md (hts _ k_371) (hts _ k_372) (hts _ k_8) hK hP hS hA rfl (fun j hj => by rcases (show j = 0 ∨ j = 1 ∨ j = 2 ∨ j = 3 ∨ j = 4 ∨ j = 5 ∨ j = 6 ∨ j = 7 ∨ j = 8 ∨ j = 9 ∨ j = 10 ∨ j = 11 ∨ j = 12 ∨ j = 13 by omega) with rfl | rfl | rfl | rfl | rfl | rfl | rfl | rfl | rfl | rfl | rfl | rfl | rfl | rfl <;> rfl) (Nat.le_of_ble_eq_true rfl) (Nat.le_of_ble_eq_true rfl) d_Lw_law_8 (fun mx H hmxn hP hS => ?_)
  refine lv_dup hx hb d_Lw_law_11 rfl ?_
  have hPK : mw_P D k_cl MK (fun q : Nat => s.heap.size ≤ q) H := mw_part hP (fun q e h => by
    rw [va_up_ne _ _ (fun z => by rw [z, hmxn] at h; cases h)]
    exact h)
  have hPM : mw_P D k_cl (va_up (fun _ => none) mx (some (.inr (7, [.null, .null, .null, .null, .int 0, .null, .null, .int 0, .null, .int 0, .null, .null, .null, .null]))) : mw_M) (fun q : Nat => s.heap.size ≤ q) H := mw_part hP (fun q e h => by
    by_cases z : q = mx
    · rw [z, va_up_self] at h
      rw [z, va_up_self]
      exact h
    · rw [va_up_ne _ _ z] at h
      cases h)
  have hdis : ∀ q, (va_up (fun _ => none) mx (some (.inr (7, [.null, .null, .null, .null, .int 0, .null, .null, .int 0, .null, .int 0, .null, .null, .null, .null]))) : mw_M) q ≠ none → MK q = none := fun q h => by
    by_cases z : q = mx
    · rw [z]
      exact hmxn
    · rw [va_up_ne _ _ z] at h
      exact absurd rfl h
  refine mw_afterVF hPM hPK hdis hS hA (mw_runI (As := []) (rest := [.ref mx]) J hK hZ hPM hS hA (c_Md_init l D cI cZ cP cR cC tS _ (va_up (fun _ => none) mx (some (.inr (7, [.null, .null, .null, .null, .int 0, .null, .null, .int 0, .null, .int 0, .null, .null, .null, .null]))) : mw_M) mx (va_up_self _ _ _)) (cwI 0 hts (mw_gI k_375) rfl rfl rfl (hts _ k_8) (hts _ k_373) (hts _ k_374) rfl (by decide +kernel) ⟨Nat.le_of_ble_eq_true rfl, Nat.le_of_ble_eq_true rfl⟩) rfl hl.1 rfl (Nat.le_of_ble_eq_true rfl) d_Lw_law_12 ⟨Nat.le_of_ble_eq_true rfl, Nat.le_of_ble_eq_true rfl⟩) (fun MM H locs hw hPM hPK hdis hS => ?_)
  obtain ⟨Bm, am, hm0, -, hms⟩ := hw
  refine lv_astore_n (lv' := [(2, .ref mx), (1, .ref kx), (0, .ref b)]) hx hb d_Lw_law_15 rfl hl (by decide) rfl (fun ls hl => ?_)
  refine lv_iconst (v := 0) hx hb d_Lw_law_16 (by decide) ?_
  refine mw_top (x' := nI (4 * 0)) (by decide) ?_
  refine lv_istore_n (lv' := [(3, .int (nI (4 * 0))), (2, .ref mx), (1, .ref kx), (0, .ref b)]) hx hb d_Lw_law_17 rfl hl (by decide) rfl (fun ls hl => ?_)
  refine W.widen (k := 60 + 4 * 0) (n := 110000 + 17 * 0) (Nat.le_of_ble_eq_true rfl) (Nat.le_of_ble_eq_true rfl) ?_
  exact lw_loop J hX hbl hK hZ hL hr hlocks (lv_sub hl [3, 2, 1, 0] rfl) ⟨MK, MM, _, Bm, ad, am, pm, sm, ca, fun _ => false, [], [], hk0, hm0, hPK, hPM, lw_dis hdis, hks, hms⟩ hS
