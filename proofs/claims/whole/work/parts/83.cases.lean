/-! the law: its twelve calls -/
set_option maxHeartbeats 4000000 in
set_option maxRecDepth 100000 in
theorem lw_say {p : Program} {l : Launch} {e : Env} {s : State} {m : MethodId} {below : List Frame} {meth : Method} {c : Code} {b L : Nat} {xs : Nat → Int32} {D : va_G} {cI cZ cP cR cC : ClassId} {tS : Nat} {Q : State → Prop} (J : CallFix p m c b_Lw_law 4 s #[Value.ref b] gw "RuleKeeperLaw") (hX : va_X b L xs s s.heap) (hbl : b < s.heap.size) (hK : va_K D k_cl (k_tys cI cZ cP cR cC) s) (hZ : mw_Z (k_g tS) (fun q => s.heap.size ≤ q) s s.heap) (hL : L ≤ 2048) {H : Heap} {locs : List Loc} {ls : Array Slot} {kx mx t : Nat} (ht : 4 * t + 4 ≤ L) (hl : lv_has ls 4 [(0, .ref b), (1, .ref kx), (2, .ref mx), (3, .int (nI (4 * t)))]) (hst : lw_st D cI cZ cP cR cC (fun q => s.heap.size ≤ q) kx mx H) (hS : va_S (fun q => s.heap.size ≤ q) s.heap H locs)
    (kk : ∀ (H : Heap) (locs : List Loc), lw_st D cI cZ cP cR cC (fun q => s.heap.size ≤ q) kx mx H → va_S (fun q => s.heap.size ≤ q) s.heap H locs → W p l e room_1 s m #[Value.ref b] below meth c H locs (60 + 4 * (t + 1)) (110000 + 17 * (t + 1)) Q (F0 m 452 ls [])) : W p l e room_1 s m #[Value.ref b] below meth c H locs (60 + 4 * t) (110000 + 17 * t) Q (F0 m 96 ls []) := by
  have hx := J.1
  have hb := J.2.1
  have hts := J.2.2.2.2
  have hA : ∀ q : Nat, s.heap.size ≤ q → (fun q : Nat => s.heap.size ≤ q) q := fun _ h => h
  have hbA : ¬ (fun q : Nat => s.heap.size ≤ q) b := Nat.not_le.mpr hbl
  obtain ⟨MK, MM, B0, Bm, ad, am, pm, sm, ca, said, rs, dr, rfl, rfl, hPK, hPM, hdis, hks, hms⟩ := hst
  obtain ⟨B, cw, LK, rfl, -, ho, hfz, hkp, hh, hsd⟩ := hks
  refine lv_aload_n hx hb d_Lw_law_96 rfl (lv_at hl 1 rfl) ?_
  refine lv_aload_n hx hb d_Lw_law_97 rfl (lv_at hl 0 rfl) ?_
  refine lv_iload_n hx hb d_Lw_law_98 rfl (lv_at hl 3 rfl) ?_
  refine lv_iconst (v := 1) hx hb d_Lw_law_99 (by decide) ?_
  refine lv_iadd hx hb d_Lw_law_100 ?_
  refine mw_top (x' := nI (4 * t + 1)) (nI_add (4 * t) 1) ?_
  refine va_sld hx hb hX hbl hbA hS (vp_in_nI (by omega) (by omega)) d_Lw_law_101 ?_
  refine mw_top (x' := xs (4 * t + 1)) (by rw [nI_clamp (by omega)]) ?_
  refine lv_aload_n hx hb d_Lw_law_102 rfl (lv_at hl 0 rfl) ?_
  refine lv_iload_n hx hb d_Lw_law_103 rfl (lv_at hl 3 rfl) ?_
  refine lv_iconst (v := 2) hx hb d_Lw_law_104 (by decide) ?_
  refine lv_iadd hx hb d_Lw_law_105 ?_
  refine mw_top (x' := nI (4 * t + 2)) (nI_add (4 * t) 2) ?_
  refine va_sld hx hb hX hbl hbA hS (vp_in_nI (by omega) (by omega)) d_Lw_law_106 ?_
  refine mw_top (x' := xs (4 * t + 2)) (by rw [nI_clamp (by omega)]) ?_
  refine lv_aload_n hx hb d_Lw_law_107 rfl (lv_at hl 0 rfl) ?_
  refine lv_iload_n hx hb d_Lw_law_108 rfl (lv_at hl 3 rfl) ?_
  refine lv_iconst (v := 3) hx hb d_Lw_law_109 (by decide) ?_
  refine lv_iadd hx hb d_Lw_law_110 ?_
  refine mw_top (x' := nI (4 * t + 3)) (nI_add (4 * t) 3) ?_
  refine va_sld hx hb hX hbl hbA hS (vp_in_nI (by omega) (by omega)) d_Lw_law_111 ?_
  refine mw_top (x' := xs (4 * t + 3)) (by rw [nI_clamp (by omega)]) ?_
  refine mw_afterIF hPK hPM hdis hS hA (mw_runV (As := [.int (xs (4 * t + 1)), .int (xs (4 * t + 2)), .int (xs (4 * t + 3))]) (rest := []) J hK hZ hPK hS hA (mw_ov_is (i := 0) ho.1 (by decide) hkp.1) rfl (c_Kp_say l D cI cZ cP cR cC tS _ B ad cw pm sm ca said rs dr LK ho hfz hkp hh hsd (xs (4 * t + 1)) (xs (4 * t + 2)) (xs (4 * t + 3))) (cwV 3 hts (mw_gV k_190 k_191 k_192 k_1 k_193) rfl rfl rfl (by decide +kernel) ⟨Nat.le_of_ble_eq_true rfl, Nat.le_of_ble_eq_true rfl⟩) rfl hl.1 rfl (Nat.le_of_ble_eq_true rfl) d_Lw_law_112 ⟨by show 60 + 4 * t + 0 ≤ 600000; omega, by show 110000 + 17 * t + 0 ≤ 7302250; omega⟩) (fun r1 MK1 H locs hw hPK hPM hdis hS => ?_)
  obtain ⟨s1, hp1, hk1⟩ := hw
  obtain ⟨cm, LM, rfl, hom, hkm, hhm, hsdm⟩ := hms
  refine lv_aload_n hx hb d_Lw_law_115 rfl (lv_at hl 2 rfl) ?_
  refine lv_aload_n hx hb d_Lw_law_116 rfl (lv_at hl 0 rfl) ?_
  refine lv_iload_n hx hb d_Lw_law_117 rfl (lv_at hl 3 rfl) ?_
  refine lv_iconst (v := 1) hx hb d_Lw_law_118 (by decide) ?_
  refine lv_iadd hx hb d_Lw_law_119 ?_
  refine mw_top (x' := nI (4 * t + 1)) (nI_add (4 * t) 1) ?_
  refine va_sld hx hb hX hbl hbA hS (vp_in_nI (by omega) (by omega)) d_Lw_law_120 ?_
  refine mw_top (x' := xs (4 * t + 1)) (by rw [nI_clamp (by omega)]) ?_
  refine lv_aload_n hx hb d_Lw_law_121 rfl (lv_at hl 0 rfl) ?_
  refine lv_iload_n hx hb d_Lw_law_122 rfl (lv_at hl 3 rfl) ?_
  refine lv_iconst (v := 2) hx hb d_Lw_law_123 (by decide) ?_
  refine lv_iadd hx hb d_Lw_law_124 ?_
  refine mw_top (x' := nI (4 * t + 2)) (nI_add (4 * t) 2) ?_
  refine va_sld hx hb hX hbl hbA hS (vp_in_nI (by omega) (by omega)) d_Lw_law_125 ?_
  refine mw_top (x' := xs (4 * t + 2)) (by rw [nI_clamp (by omega)]) ?_
  refine lv_aload_n hx hb d_Lw_law_126 rfl (lv_at hl 0 rfl) ?_
  refine lv_iload_n hx hb d_Lw_law_127 rfl (lv_at hl 3 rfl) ?_
  refine lv_iconst (v := 3) hx hb d_Lw_law_128 (by decide) ?_
  refine lv_iadd hx hb d_Lw_law_129 ?_
  refine mw_top (x' := nI (4 * t + 3)) (nI_add (4 * t) 3) ?_
  refine va_sld hx hb hX hbl hbA hS (vp_in_nI (by omega) (by omega)) d_Lw_law_130 ?_
  refine mw_top (x' := xs (4 * t + 3)) (by rw [nI_clamp (by omega)]) ?_
  refine mw_afterIF hPM hPK (lw_dis hdis) hS hA (mw_runV (As := [.int (xs (4 * t + 1)), .int (xs (4 * t + 2)), .int (xs (4 * t + 3))]) (rest := [.int r1]) J hK hZ hPM hS hA (mw_ov_is (i := 0) hom.1 (by decide) hkm.2.1.1) rfl (c_Md_say l D cI cZ cP cR cC tS _ Bm am cm hom said rs dr LM hkm hhm hsdm (xs (4 * t + 1)) (xs (4 * t + 2)) (xs (4 * t + 3))) (cwV 3 hts (mw_gV k_422 k_423 k_424 k_8 k_425) rfl rfl rfl (by decide +kernel) ⟨Nat.le_of_ble_eq_true rfl, Nat.le_of_ble_eq_true rfl⟩) rfl hl.1 rfl (Nat.le_of_ble_eq_true rfl) d_Lw_law_131 ⟨by show 60 + 4 * t + 0 + 0 ≤ 600000; omega, by show 110000 + 17 * t + 0 + 0 ≤ 7302250; omega⟩) (fun r2 MM1 H locs hw hPM hPK hdis hS => ?_)
  obtain ⟨s2, hp2, hk2⟩ := hw
  obtain ⟨he, rfl⟩ := sp_say_u hp1 hp2
  refine lv_icmp_eq (tgt := 452) hx hb d_Lw_law_134 (by decide) (fun _ => ?_) (fun z => absurd he z)
  refine W.widen (k := 60 + 4 * (t + 1)) (n := 110000 + 17 * (t + 1)) (by omega) (by omega) ?_
  exact kk _ _ ⟨_, _, _, _, ad, am, pm, sm, ca, s1, rs, dr, rfl, rfl, hPK, hPM, lw_dis hdis, hk1, hk2⟩ hS
set_option maxHeartbeats 4000000 in
set_option maxRecDepth 100000 in
theorem lw_unsay {p : Program} {l : Launch} {e : Env} {s : State} {m : MethodId} {below : List Frame} {meth : Method} {c : Code} {b L : Nat} {xs : Nat → Int32} {D : va_G} {cI cZ cP cR cC : ClassId} {tS : Nat} {Q : State → Prop} (J : CallFix p m c b_Lw_law 4 s #[Value.ref b] gw "RuleKeeperLaw") (hX : va_X b L xs s s.heap) (hbl : b < s.heap.size) (hK : va_K D k_cl (k_tys cI cZ cP cR cC) s) (hZ : mw_Z (k_g tS) (fun q => s.heap.size ≤ q) s s.heap) (hL : L ≤ 2048) {H : Heap} {locs : List Loc} {ls : Array Slot} {kx mx t : Nat} (ht : 4 * t + 4 ≤ L) (hl : lv_has ls 4 [(0, .ref b), (1, .ref kx), (2, .ref mx), (3, .int (nI (4 * t)))]) (hst : lw_st D cI cZ cP cR cC (fun q => s.heap.size ≤ q) kx mx H) (hS : va_S (fun q => s.heap.size ≤ q) s.heap H locs)
    (kk : ∀ (H : Heap) (locs : List Loc), lw_st D cI cZ cP cR cC (fun q => s.heap.size ≤ q) kx mx H → va_S (fun q => s.heap.size ≤ q) s.heap H locs → W p l e room_1 s m #[Value.ref b] below meth c H locs (60 + 4 * (t + 1)) (110000 + 17 * (t + 1)) Q (F0 m 452 ls [])) : W p l e room_1 s m #[Value.ref b] below meth c H locs (60 + 4 * t) (110000 + 17 * t) Q (F0 m 139 ls []) := by
  have hx := J.1
  have hb := J.2.1
  have hts := J.2.2.2.2
  have hA : ∀ q : Nat, s.heap.size ≤ q → (fun q : Nat => s.heap.size ≤ q) q := fun _ h => h
  have hbA : ¬ (fun q : Nat => s.heap.size ≤ q) b := Nat.not_le.mpr hbl
  obtain ⟨MK, MM, B0, Bm, ad, am, pm, sm, ca, said, rs, dr, rfl, rfl, hPK, hPM, hdis, hks, hms⟩ := hst
  obtain ⟨B, cw, LK, rfl, -, ho, hfz, hkp, hh, hsd⟩ := hks
  refine lv_aload_n hx hb d_Lw_law_139 rfl (lv_at hl 1 rfl) ?_
  refine lv_aload_n hx hb d_Lw_law_140 rfl (lv_at hl 0 rfl) ?_
  refine lv_iload_n hx hb d_Lw_law_141 rfl (lv_at hl 3 rfl) ?_
  refine lv_iconst (v := 1) hx hb d_Lw_law_142 (by decide) ?_
  refine lv_iadd hx hb d_Lw_law_143 ?_
  refine mw_top (x' := nI (4 * t + 1)) (nI_add (4 * t) 1) ?_
  refine va_sld hx hb hX hbl hbA hS (vp_in_nI (by omega) (by omega)) d_Lw_law_144 ?_
  refine mw_top (x' := xs (4 * t + 1)) (by rw [nI_clamp (by omega)]) ?_
  refine lv_aload_n hx hb d_Lw_law_145 rfl (lv_at hl 0 rfl) ?_
  refine lv_iload_n hx hb d_Lw_law_146 rfl (lv_at hl 3 rfl) ?_
  refine lv_iconst (v := 2) hx hb d_Lw_law_147 (by decide) ?_
  refine lv_iadd hx hb d_Lw_law_148 ?_
  refine mw_top (x' := nI (4 * t + 2)) (nI_add (4 * t) 2) ?_
  refine va_sld hx hb hX hbl hbA hS (vp_in_nI (by omega) (by omega)) d_Lw_law_149 ?_
  refine mw_top (x' := xs (4 * t + 2)) (by rw [nI_clamp (by omega)]) ?_
  refine lv_aload_n hx hb d_Lw_law_150 rfl (lv_at hl 0 rfl) ?_
  refine lv_iload_n hx hb d_Lw_law_151 rfl (lv_at hl 3 rfl) ?_
  refine lv_iconst (v := 3) hx hb d_Lw_law_152 (by decide) ?_
  refine lv_iadd hx hb d_Lw_law_153 ?_
  refine mw_top (x' := nI (4 * t + 3)) (nI_add (4 * t) 3) ?_
  refine va_sld hx hb hX hbl hbA hS (vp_in_nI (by omega) (by omega)) d_Lw_law_154 ?_
  refine mw_top (x' := xs (4 * t + 3)) (by rw [nI_clamp (by omega)]) ?_
  refine mw_afterIF hPK hPM hdis hS hA (mw_runV (As := [.int (xs (4 * t + 1)), .int (xs (4 * t + 2)), .int (xs (4 * t + 3))]) (rest := []) J hK hZ hPK hS hA (mw_ov_is (i := 0) ho.1 (by decide) hkp.1) rfl (c_Kp_unsay l D cI cZ cP cR cC tS _ B ad cw pm sm ca said rs dr LK ho hfz hkp hh hsd (xs (4 * t + 1)) (xs (4 * t + 2)) (xs (4 * t + 3))) (cwV 3 hts (mw_gV k_296 k_297 k_298 k_1 k_299) rfl rfl rfl (by decide +kernel) ⟨Nat.le_of_ble_eq_true rfl, Nat.le_of_ble_eq_true rfl⟩) rfl hl.1 rfl (Nat.le_of_ble_eq_true rfl) d_Lw_law_155 ⟨by show 60 + 4 * t + 0 ≤ 600000; omega, by show 110000 + 17 * t + 0 ≤ 7302250; omega⟩) (fun r1 MK1 H locs hw hPK hPM hdis hS => ?_)
  obtain ⟨s1, hp1, hk1⟩ := hw
  obtain ⟨cm, LM, rfl, hom, hkm, hhm, hsdm⟩ := hms
  refine lv_aload_n hx hb d_Lw_law_158 rfl (lv_at hl 2 rfl) ?_
  refine lv_aload_n hx hb d_Lw_law_159 rfl (lv_at hl 0 rfl) ?_
  refine lv_iload_n hx hb d_Lw_law_160 rfl (lv_at hl 3 rfl) ?_
  refine lv_iconst (v := 1) hx hb d_Lw_law_161 (by decide) ?_
  refine lv_iadd hx hb d_Lw_law_162 ?_
  refine mw_top (x' := nI (4 * t + 1)) (nI_add (4 * t) 1) ?_
  refine va_sld hx hb hX hbl hbA hS (vp_in_nI (by omega) (by omega)) d_Lw_law_163 ?_
  refine mw_top (x' := xs (4 * t + 1)) (by rw [nI_clamp (by omega)]) ?_
  refine lv_aload_n hx hb d_Lw_law_164 rfl (lv_at hl 0 rfl) ?_
  refine lv_iload_n hx hb d_Lw_law_165 rfl (lv_at hl 3 rfl) ?_
  refine lv_iconst (v := 2) hx hb d_Lw_law_166 (by decide) ?_
  refine lv_iadd hx hb d_Lw_law_167 ?_
  refine mw_top (x' := nI (4 * t + 2)) (nI_add (4 * t) 2) ?_
  refine va_sld hx hb hX hbl hbA hS (vp_in_nI (by omega) (by omega)) d_Lw_law_168 ?_
  refine mw_top (x' := xs (4 * t + 2)) (by rw [nI_clamp (by omega)]) ?_
  refine lv_aload_n hx hb d_Lw_law_169 rfl (lv_at hl 0 rfl) ?_
  refine lv_iload_n hx hb d_Lw_law_170 rfl (lv_at hl 3 rfl) ?_
  refine lv_iconst (v := 3) hx hb d_Lw_law_171 (by decide) ?_
  refine lv_iadd hx hb d_Lw_law_172 ?_
  refine mw_top (x' := nI (4 * t + 3)) (nI_add (4 * t) 3) ?_
  refine va_sld hx hb hX hbl hbA hS (vp_in_nI (by omega) (by omega)) d_Lw_law_173 ?_
  refine mw_top (x' := xs (4 * t + 3)) (by rw [nI_clamp (by omega)]) ?_
  refine mw_afterIF hPM hPK (lw_dis hdis) hS hA (mw_runV (As := [.int (xs (4 * t + 1)), .int (xs (4 * t + 2)), .int (xs (4 * t + 3))]) (rest := [.int r1]) J hK hZ hPM hS hA (mw_ov_is (i := 0) hom.1 (by decide) hkm.2.1.1) rfl (c_Md_unsay l D cI cZ cP cR cC tS _ Bm am cm hom said rs dr LM hkm hhm hsdm (xs (4 * t + 1)) (xs (4 * t + 2)) (xs (4 * t + 3))) (cwV 3 hts (mw_gV k_467 k_468 k_469 k_8 k_470) rfl rfl rfl (by decide +kernel) ⟨Nat.le_of_ble_eq_true rfl, Nat.le_of_ble_eq_true rfl⟩) rfl hl.1 rfl (Nat.le_of_ble_eq_true rfl) d_Lw_law_174 ⟨by show 60 + 4 * t + 0 + 0 ≤ 600000; omega, by show 110000 + 17 * t + 0 + 0 ≤ 7302250; omega⟩) (fun r2 MM1 H locs hw hPM hPK hdis hS => ?_)
  obtain ⟨s2, hp2, hk2⟩ := hw
  obtain ⟨he, rfl⟩ := sp_unsay_u hp1 hp2
  refine lv_icmp_eq (tgt := 452) hx hb d_Lw_law_177 (by decide) (fun _ => ?_) (fun z => absurd he z)
  refine W.widen (k := 60 + 4 * (t + 1)) (n := 110000 + 17 * (t + 1)) (by omega) (by omega) ?_
  exact kk _ _ ⟨_, _, _, _, ad, am, pm, sm, ca, s1, rs, dr, rfl, rfl, hPK, hPM, lw_dis hdis, hk1, hk2⟩ hS
set_option maxHeartbeats 4000000 in
set_option maxRecDepth 100000 in
theorem lw_pattern {p : Program} {l : Launch} {e : Env} {s : State} {m : MethodId} {below : List Frame} {meth : Method} {c : Code} {b L : Nat} {xs : Nat → Int32} {D : va_G} {cI cZ cP cR cC : ClassId} {tS : Nat} {Q : State → Prop} (J : CallFix p m c b_Lw_law 4 s #[Value.ref b] gw "RuleKeeperLaw") (hX : va_X b L xs s s.heap) (hbl : b < s.heap.size) (hK : va_K D k_cl (k_tys cI cZ cP cR cC) s) (hZ : mw_Z (k_g tS) (fun q => s.heap.size ≤ q) s s.heap) (hL : L ≤ 2048) {H : Heap} {locs : List Loc} {ls : Array Slot} {kx mx t : Nat} (ht : 4 * t + 4 ≤ L) (hl : lv_has ls 4 [(0, .ref b), (1, .ref kx), (2, .ref mx), (3, .int (nI (4 * t)))]) (hst : lw_st D cI cZ cP cR cC (fun q => s.heap.size ≤ q) kx mx H) (hS : va_S (fun q => s.heap.size ≤ q) s.heap H locs)
    (kk : ∀ (H : Heap) (locs : List Loc), lw_st D cI cZ cP cR cC (fun q => s.heap.size ≤ q) kx mx H → va_S (fun q => s.heap.size ≤ q) s.heap H locs → W p l e room_1 s m #[Value.ref b] below meth c H locs (60 + 4 * (t + 1)) (110000 + 17 * (t + 1)) Q (F0 m 452 ls [])) : W p l e room_1 s m #[Value.ref b] below meth c H locs (60 + 4 * t) (110000 + 17 * t) Q (F0 m 182 ls []) := by
  have hx := J.1
  have hb := J.2.1
  have hts := J.2.2.2.2
  have hA : ∀ q : Nat, s.heap.size ≤ q → (fun q : Nat => s.heap.size ≤ q) q := fun _ h => h
  have hbA : ¬ (fun q : Nat => s.heap.size ≤ q) b := Nat.not_le.mpr hbl
  obtain ⟨MK, MM, B0, Bm, ad, am, pm, sm, ca, said, rs, dr, rfl, rfl, hPK, hPM, hdis, hks, hms⟩ := hst
  obtain ⟨B, cw, LK, rfl, -, ho, hfz, hkp, hh, hsd⟩ := hks
  refine lv_aload_n hx hb d_Lw_law_182 rfl (lv_at hl 1 rfl) ?_
  refine lv_aload_n hx hb d_Lw_law_183 rfl (lv_at hl 0 rfl) ?_
  refine lv_iload_n hx hb d_Lw_law_184 rfl (lv_at hl 3 rfl) ?_
  refine lv_iconst (v := 1) hx hb d_Lw_law_185 (by decide) ?_
  refine lv_iadd hx hb d_Lw_law_186 ?_
  refine mw_top (x' := nI (4 * t + 1)) (nI_add (4 * t) 1) ?_
  refine va_sld hx hb hX hbl hbA hS (vp_in_nI (by omega) (by omega)) d_Lw_law_187 ?_
  refine mw_top (x' := xs (4 * t + 1)) (by rw [nI_clamp (by omega)]) ?_
  refine lv_aload_n hx hb d_Lw_law_188 rfl (lv_at hl 0 rfl) ?_
  refine lv_iload_n hx hb d_Lw_law_189 rfl (lv_at hl 3 rfl) ?_
  refine lv_iconst (v := 2) hx hb d_Lw_law_190 (by decide) ?_
  refine lv_iadd hx hb d_Lw_law_191 ?_
  refine mw_top (x' := nI (4 * t + 2)) (nI_add (4 * t) 2) ?_
  refine va_sld hx hb hX hbl hbA hS (vp_in_nI (by omega) (by omega)) d_Lw_law_192 ?_
  refine mw_top (x' := xs (4 * t + 2)) (by rw [nI_clamp (by omega)]) ?_
  refine lv_aload_n hx hb d_Lw_law_193 rfl (lv_at hl 0 rfl) ?_
  refine lv_iload_n hx hb d_Lw_law_194 rfl (lv_at hl 3 rfl) ?_
  refine lv_iconst (v := 3) hx hb d_Lw_law_195 (by decide) ?_
  refine lv_iadd hx hb d_Lw_law_196 ?_
  refine mw_top (x' := nI (4 * t + 3)) (nI_add (4 * t) 3) ?_
  refine va_sld hx hb hX hbl hbA hS (vp_in_nI (by omega) (by omega)) d_Lw_law_197 ?_
  refine mw_top (x' := xs (4 * t + 3)) (by rw [nI_clamp (by omega)]) ?_
  refine mw_afterIF hPK hPM hdis hS hA (mw_runV (As := [.int (xs (4 * t + 1)), .int (xs (4 * t + 2)), .int (xs (4 * t + 3))]) (rest := []) J hK hZ hPK hS hA (mw_ov_is (i := 0) ho.1 (by decide) hkp.1) rfl (c_Kp_pattern l D cI cZ cP cR cC tS _ B ad cw pm sm ca said rs dr LK ho hfz hkp hh hsd (xs (4 * t + 1)) (xs (4 * t + 2)) (xs (4 * t + 3))) (cwV 3 hts (mw_gV k_309 k_310 k_311 k_1 k_312) rfl rfl rfl (by decide +kernel) ⟨Nat.le_of_ble_eq_true rfl, Nat.le_of_ble_eq_true rfl⟩) rfl hl.1 rfl (Nat.le_of_ble_eq_true rfl) d_Lw_law_198 ⟨by show 60 + 4 * t + 4 ≤ 600000; omega, by show 110000 + 17 * t + 17 ≤ 7302250; omega⟩) (fun r1 MK1 H locs hw hPK hPM hdis hS => ?_)
  obtain ⟨d1, hp1, hk1⟩ := hw
  obtain ⟨cm, LM, rfl, hom, hkm, hhm, hsdm⟩ := hms
  refine lv_aload_n hx hb d_Lw_law_201 rfl (lv_at hl 2 rfl) ?_
  refine lv_aload_n hx hb d_Lw_law_202 rfl (lv_at hl 0 rfl) ?_
  refine lv_iload_n hx hb d_Lw_law_203 rfl (lv_at hl 3 rfl) ?_
  refine lv_iconst (v := 1) hx hb d_Lw_law_204 (by decide) ?_
  refine lv_iadd hx hb d_Lw_law_205 ?_
  refine mw_top (x' := nI (4 * t + 1)) (nI_add (4 * t) 1) ?_
  refine va_sld hx hb hX hbl hbA hS (vp_in_nI (by omega) (by omega)) d_Lw_law_206 ?_
  refine mw_top (x' := xs (4 * t + 1)) (by rw [nI_clamp (by omega)]) ?_
  refine lv_aload_n hx hb d_Lw_law_207 rfl (lv_at hl 0 rfl) ?_
  refine lv_iload_n hx hb d_Lw_law_208 rfl (lv_at hl 3 rfl) ?_
  refine lv_iconst (v := 2) hx hb d_Lw_law_209 (by decide) ?_
  refine lv_iadd hx hb d_Lw_law_210 ?_
  refine mw_top (x' := nI (4 * t + 2)) (nI_add (4 * t) 2) ?_
  refine va_sld hx hb hX hbl hbA hS (vp_in_nI (by omega) (by omega)) d_Lw_law_211 ?_
  refine mw_top (x' := xs (4 * t + 2)) (by rw [nI_clamp (by omega)]) ?_
  refine lv_aload_n hx hb d_Lw_law_212 rfl (lv_at hl 0 rfl) ?_
  refine lv_iload_n hx hb d_Lw_law_213 rfl (lv_at hl 3 rfl) ?_
  refine lv_iconst (v := 3) hx hb d_Lw_law_214 (by decide) ?_
  refine lv_iadd hx hb d_Lw_law_215 ?_
  refine mw_top (x' := nI (4 * t + 3)) (nI_add (4 * t) 3) ?_
  refine va_sld hx hb hX hbl hbA hS (vp_in_nI (by omega) (by omega)) d_Lw_law_216 ?_
  refine mw_top (x' := xs (4 * t + 3)) (by rw [nI_clamp (by omega)]) ?_
  refine mw_afterIF hPM hPK (lw_dis hdis) hS hA (mw_runV (As := [.int (xs (4 * t + 1)), .int (xs (4 * t + 2)), .int (xs (4 * t + 3))]) (rest := [.int r1]) J hK hZ hPM hS hA (mw_ov_is (i := 0) hom.1 (by decide) hkm.2.1.1) rfl (c_Md_pattern l D cI cZ cP cR cC tS _ Bm am cm hom said rs dr LM hkm hhm hsdm (xs (4 * t + 1)) (xs (4 * t + 2)) (xs (4 * t + 3))) (cwV 3 hts (mw_gV k_471 k_472 k_473 k_8 k_474) rfl rfl rfl (by decide +kernel) ⟨Nat.le_of_ble_eq_true rfl, Nat.le_of_ble_eq_true rfl⟩) rfl hl.1 rfl (Nat.le_of_ble_eq_true rfl) d_Lw_law_217 ⟨by show 60 + 4 * t + 4 + 0 ≤ 600000; omega, by show 110000 + 17 * t + 17 + 0 ≤ 7302250; omega⟩) (fun r2 MM1 H locs hw hPM hPK hdis hS => ?_)
  obtain ⟨d2, hp2, hk2⟩ := hw
  obtain ⟨he, rfl⟩ := sp_pattern_u hp1 hp2
  refine lv_icmp_eq (tgt := 452) hx hb d_Lw_law_220 (by decide) (fun _ => ?_) (fun z => absurd he z)
  refine W.widen (k := 60 + 4 * (t + 1)) (n := 110000 + 17 * (t + 1)) (by omega) (by omega) ?_
  exact kk _ _ ⟨_, _, _, _, ad, am, pm, sm, ca, said, rs, d1, rfl, rfl, hPK, hPM, lw_dis hdis, hk1, hk2⟩ hS
set_option maxHeartbeats 4000000 in
set_option maxRecDepth 100000 in
theorem lw_rule {p : Program} {l : Launch} {e : Env} {s : State} {m : MethodId} {below : List Frame} {meth : Method} {c : Code} {b L : Nat} {xs : Nat → Int32} {D : va_G} {cI cZ cP cR cC : ClassId} {tS : Nat} {Q : State → Prop} (J : CallFix p m c b_Lw_law 4 s #[Value.ref b] gw "RuleKeeperLaw") (hX : va_X b L xs s s.heap) (hbl : b < s.heap.size) (hK : va_K D k_cl (k_tys cI cZ cP cR cC) s) (hZ : mw_Z (k_g tS) (fun q => s.heap.size ≤ q) s s.heap) (hL : L ≤ 2048) {H : Heap} {locs : List Loc} {ls : Array Slot} {kx mx t : Nat} (ht : 4 * t + 4 ≤ L) (hl : lv_has ls 4 [(0, .ref b), (1, .ref kx), (2, .ref mx), (3, .int (nI (4 * t)))]) (hst : lw_st D cI cZ cP cR cC (fun q => s.heap.size ≤ q) kx mx H) (hS : va_S (fun q => s.heap.size ≤ q) s.heap H locs)
    (kk : ∀ (H : Heap) (locs : List Loc), lw_st D cI cZ cP cR cC (fun q => s.heap.size ≤ q) kx mx H → va_S (fun q => s.heap.size ≤ q) s.heap H locs → W p l e room_1 s m #[Value.ref b] below meth c H locs (60 + 4 * (t + 1)) (110000 + 17 * (t + 1)) Q (F0 m 452 ls [])) : W p l e room_1 s m #[Value.ref b] below meth c H locs (60 + 4 * t) (110000 + 17 * t) Q (F0 m 225 ls []) := by
  have hx := J.1
  have hb := J.2.1
  have hts := J.2.2.2.2
  have hA : ∀ q : Nat, s.heap.size ≤ q → (fun q : Nat => s.heap.size ≤ q) q := fun _ h => h
  have hbA : ¬ (fun q : Nat => s.heap.size ≤ q) b := Nat.not_le.mpr hbl
  obtain ⟨MK, MM, B0, Bm, ad, am, pm, sm, ca, said, rs, dr, rfl, rfl, hPK, hPM, hdis, hks, hms⟩ := hst
  obtain ⟨B, cw, LK, rfl, -, ho, hfz, hkp, hh, hsd⟩ := hks
  refine lv_aload_n hx hb d_Lw_law_225 rfl (lv_at hl 1 rfl) ?_
  refine mw_afterIF hPK hPM hdis hS hA (mw_runV (As := []) (rest := []) J hK hZ hPK hS hA (mw_ov_is (i := 0) ho.1 (by decide) hkp.1) rfl (c_Kp_rule l D cI cZ cP cR cC tS _ B ad cw pm sm ca said rs dr LK ho hfz hkp hh hsd ) (cwV 0 hts (mw_gV k_319 k_320 k_321 k_1 k_322) rfl rfl rfl (by decide +kernel) ⟨Nat.le_of_ble_eq_true rfl, Nat.le_of_ble_eq_true rfl⟩) rfl hl.1 rfl (Nat.le_of_ble_eq_true rfl) d_Lw_law_226 ⟨by show 60 + 4 * t + 3 ≤ 600000; omega, by show 110000 + 17 * t + 9 ≤ 7302250; omega⟩) (fun r1 MK1 H locs hw hPK hPM hdis hS => ?_)
  obtain ⟨rs1, d1, hp1, hk1⟩ := hw
  obtain ⟨cm, LM, rfl, hom, hkm, hhm, hsdm⟩ := hms
  refine lv_aload_n hx hb d_Lw_law_229 rfl (lv_at hl 2 rfl) ?_
  refine mw_afterIF hPM hPK (lw_dis hdis) hS hA (mw_runV (As := []) (rest := [.int r1]) J hK hZ hPM hS hA (mw_ov_is (i := 0) hom.1 (by decide) hkm.2.1.1) rfl (c_Md_rule l D cI cZ cP cR cC tS _ Bm am cm hom said rs dr LM hkm hhm hsdm ) (cwV 0 hts (mw_gV k_478 k_479 k_480 k_8 k_481) rfl rfl rfl (by decide +kernel) ⟨Nat.le_of_ble_eq_true rfl, Nat.le_of_ble_eq_true rfl⟩) rfl hl.1 rfl (Nat.le_of_ble_eq_true rfl) d_Lw_law_230 ⟨by show 60 + 4 * t + 3 + 0 ≤ 600000; omega, by show 110000 + 17 * t + 9 + 0 ≤ 7302250; omega⟩) (fun r2 MM1 H locs hw hPM hPK hdis hS => ?_)
  obtain ⟨rs2, d2, hp2, hk2⟩ := hw
  obtain ⟨he, rfl, rfl⟩ := sp_rule_u hp1 hp2
  refine lv_icmp_eq (tgt := 452) hx hb d_Lw_law_233 (by decide) (fun _ => ?_) (fun z => absurd he z)
  refine W.widen (k := 60 + 4 * (t + 1)) (n := 110000 + 17 * (t + 1)) (by omega) (by omega) ?_
  exact kk _ _ ⟨_, _, _, _, ad, am, pm, sm, ca, said, rs1, d1, rfl, rfl, hPK, hPM, lw_dis hdis, hk1, hk2⟩ hS
set_option maxHeartbeats 4000000 in
set_option maxRecDepth 100000 in
theorem lw_unrule {p : Program} {l : Launch} {e : Env} {s : State} {m : MethodId} {below : List Frame} {meth : Method} {c : Code} {b L : Nat} {xs : Nat → Int32} {D : va_G} {cI cZ cP cR cC : ClassId} {tS : Nat} {Q : State → Prop} (J : CallFix p m c b_Lw_law 4 s #[Value.ref b] gw "RuleKeeperLaw") (hX : va_X b L xs s s.heap) (hbl : b < s.heap.size) (hK : va_K D k_cl (k_tys cI cZ cP cR cC) s) (hZ : mw_Z (k_g tS) (fun q => s.heap.size ≤ q) s s.heap) (hL : L ≤ 2048) {H : Heap} {locs : List Loc} {ls : Array Slot} {kx mx t : Nat} (ht : 4 * t + 4 ≤ L) (hl : lv_has ls 4 [(0, .ref b), (1, .ref kx), (2, .ref mx), (3, .int (nI (4 * t)))]) (hst : lw_st D cI cZ cP cR cC (fun q => s.heap.size ≤ q) kx mx H) (hS : va_S (fun q => s.heap.size ≤ q) s.heap H locs)
    (kk : ∀ (H : Heap) (locs : List Loc), lw_st D cI cZ cP cR cC (fun q => s.heap.size ≤ q) kx mx H → va_S (fun q => s.heap.size ≤ q) s.heap H locs → W p l e room_1 s m #[Value.ref b] below meth c H locs (60 + 4 * (t + 1)) (110000 + 17 * (t + 1)) Q (F0 m 452 ls [])) : W p l e room_1 s m #[Value.ref b] below meth c H locs (60 + 4 * t) (110000 + 17 * t) Q (F0 m 238 ls []) := by
  have hx := J.1
  have hb := J.2.1
  have hts := J.2.2.2.2
  have hA : ∀ q : Nat, s.heap.size ≤ q → (fun q : Nat => s.heap.size ≤ q) q := fun _ h => h
  have hbA : ¬ (fun q : Nat => s.heap.size ≤ q) b := Nat.not_le.mpr hbl
  obtain ⟨MK, MM, B0, Bm, ad, am, pm, sm, ca, said, rs, dr, rfl, rfl, hPK, hPM, hdis, hks, hms⟩ := hst
  obtain ⟨B, cw, LK, rfl, -, ho, hfz, hkp, hh, hsd⟩ := hks
  refine lv_aload_n hx hb d_Lw_law_238 rfl (lv_at hl 1 rfl) ?_
  refine lv_aload_n hx hb d_Lw_law_239 rfl (lv_at hl 0 rfl) ?_
  refine lv_iload_n hx hb d_Lw_law_240 rfl (lv_at hl 3 rfl) ?_
  refine lv_iconst (v := 1) hx hb d_Lw_law_241 (by decide) ?_
  refine lv_iadd hx hb d_Lw_law_242 ?_
  refine mw_top (x' := nI (4 * t + 1)) (nI_add (4 * t) 1) ?_
  refine va_sld hx hb hX hbl hbA hS (vp_in_nI (by omega) (by omega)) d_Lw_law_243 ?_
  refine mw_top (x' := xs (4 * t + 1)) (by rw [nI_clamp (by omega)]) ?_
  refine mw_afterIF hPK hPM hdis hS hA (mw_runV (As := [.int (xs (4 * t + 1))]) (rest := []) J hK hZ hPK hS hA (mw_ov_is (i := 0) ho.1 (by decide) hkp.1) rfl (c_Kp_unrule l D cI cZ cP cR cC tS _ B ad cw pm sm ca said rs dr LK ho hfz hkp hh hsd (xs (4 * t + 1))) (cwV 1 hts (mw_gV k_331 k_332 k_333 k_1 k_334) rfl rfl rfl (by decide +kernel) ⟨Nat.le_of_ble_eq_true rfl, Nat.le_of_ble_eq_true rfl⟩) rfl hl.1 rfl (Nat.le_of_ble_eq_true rfl) d_Lw_law_244 ⟨by show 60 + 4 * t + 0 ≤ 600000; omega, by show 110000 + 17 * t + 0 ≤ 7302250; omega⟩) (fun r1 MK1 H locs hw hPK hPM hdis hS => ?_)
  obtain ⟨rs1, hp1, hk1⟩ := hw
  obtain ⟨cm, LM, rfl, hom, hkm, hhm, hsdm⟩ := hms
  refine lv_aload_n hx hb d_Lw_law_247 rfl (lv_at hl 2 rfl) ?_
  refine lv_aload_n hx hb d_Lw_law_248 rfl (lv_at hl 0 rfl) ?_
  refine lv_iload_n hx hb d_Lw_law_249 rfl (lv_at hl 3 rfl) ?_
  refine lv_iconst (v := 1) hx hb d_Lw_law_250 (by decide) ?_
  refine lv_iadd hx hb d_Lw_law_251 ?_
  refine mw_top (x' := nI (4 * t + 1)) (nI_add (4 * t) 1) ?_
  refine va_sld hx hb hX hbl hbA hS (vp_in_nI (by omega) (by omega)) d_Lw_law_252 ?_
  refine mw_top (x' := xs (4 * t + 1)) (by rw [nI_clamp (by omega)]) ?_
  refine mw_afterIF hPM hPK (lw_dis hdis) hS hA (mw_runV (As := [.int (xs (4 * t + 1))]) (rest := [.int r1]) J hK hZ hPM hS hA (mw_ov_is (i := 0) hom.1 (by decide) hkm.2.1.1) rfl (c_Md_unrule l D cI cZ cP cR cC tS _ Bm am cm hom said rs dr LM hkm hhm hsdm (xs (4 * t + 1))) (cwV 1 hts (mw_gV k_486 k_487 k_488 k_8 k_489) rfl rfl rfl (by decide +kernel) ⟨Nat.le_of_ble_eq_true rfl, Nat.le_of_ble_eq_true rfl⟩) rfl hl.1 rfl (Nat.le_of_ble_eq_true rfl) d_Lw_law_253 ⟨by show 60 + 4 * t + 0 + 0 ≤ 600000; omega, by show 110000 + 17 * t + 0 + 0 ≤ 7302250; omega⟩) (fun r2 MM1 H locs hw hPM hPK hdis hS => ?_)
  obtain ⟨rs2, hp2, hk2⟩ := hw
  obtain ⟨he, rfl⟩ := sp_unrule_u hkp.2.2.2.2.2.1.1 hp1 hp2
  refine lv_icmp_eq (tgt := 452) hx hb d_Lw_law_256 (by decide) (fun _ => ?_) (fun z => absurd he z)
  refine W.widen (k := 60 + 4 * (t + 1)) (n := 110000 + 17 * (t + 1)) (by omega) (by omega) ?_
  exact kk _ _ ⟨_, _, _, _, ad, am, pm, sm, ca, said, rs1, dr, rfl, rfl, hPK, hPM, lw_dis hdis, hk1, hk2⟩ hS
set_option maxHeartbeats 4000000 in
set_option maxRecDepth 100000 in
theorem lw_rules {p : Program} {l : Launch} {e : Env} {s : State} {m : MethodId} {below : List Frame} {meth : Method} {c : Code} {b L : Nat} {xs : Nat → Int32} {D : va_G} {cI cZ cP cR cC : ClassId} {tS : Nat} {Q : State → Prop} (J : CallFix p m c b_Lw_law 4 s #[Value.ref b] gw "RuleKeeperLaw") (hX : va_X b L xs s s.heap) (hbl : b < s.heap.size) (hK : va_K D k_cl (k_tys cI cZ cP cR cC) s) (hZ : mw_Z (k_g tS) (fun q => s.heap.size ≤ q) s s.heap) (hL : L ≤ 2048) {H : Heap} {locs : List Loc} {ls : Array Slot} {kx mx t : Nat} (ht : 4 * t + 4 ≤ L) (hl : lv_has ls 4 [(0, .ref b), (1, .ref kx), (2, .ref mx), (3, .int (nI (4 * t)))]) (hst : lw_st D cI cZ cP cR cC (fun q => s.heap.size ≤ q) kx mx H) (hS : va_S (fun q => s.heap.size ≤ q) s.heap H locs)
    (kk : ∀ (H : Heap) (locs : List Loc), lw_st D cI cZ cP cR cC (fun q => s.heap.size ≤ q) kx mx H → va_S (fun q => s.heap.size ≤ q) s.heap H locs → W p l e room_1 s m #[Value.ref b] below meth c H locs (60 + 4 * (t + 1)) (110000 + 17 * (t + 1)) Q (F0 m 452 ls [])) : W p l e room_1 s m #[Value.ref b] below meth c H locs (60 + 4 * t) (110000 + 17 * t) Q (F0 m 261 ls []) := by
  have hx := J.1
  have hb := J.2.1
  have hts := J.2.2.2.2
  have hA : ∀ q : Nat, s.heap.size ≤ q → (fun q : Nat => s.heap.size ≤ q) q := fun _ h => h
  have hbA : ¬ (fun q : Nat => s.heap.size ≤ q) b := Nat.not_le.mpr hbl
  obtain ⟨MK, MM, B0, Bm, ad, am, pm, sm, ca, said, rs, dr, rfl, rfl, hPK, hPM, hdis, hks, hms⟩ := hst
  obtain ⟨B, cw, LK, rfl, -, ho, hfz, hkp, hh, hsd⟩ := hks
  refine lv_aload_n hx hb d_Lw_law_261 rfl (lv_at hl 1 rfl) ?_
  refine mw_afterIF hPK hPM hdis hS hA (mw_runV (As := []) (rest := []) J hK hZ hPK hS hA (mw_ov_is (i := 0) ho.1 (by decide) hkp.1) rfl (c_Kp_rules l D cI cZ cP cR cC tS _ B ad cw pm sm ca said rs dr LK ho hfz hkp hh hsd ) (cwV 0 hts (mw_gV k_335 k_336 k_337 k_1 k_338) rfl rfl rfl (by decide +kernel) ⟨Nat.le_of_ble_eq_true rfl, Nat.le_of_ble_eq_true rfl⟩) rfl hl.1 rfl (Nat.le_of_ble_eq_true rfl) d_Lw_law_262 ⟨by show 60 + 4 * t + 0 ≤ 600000; omega, by show 110000 + 17 * t + 0 ≤ 7302250; omega⟩) (fun r1 MK1 H locs hw hPK hPM hdis hS => ?_)
  obtain ⟨hp1, hk1⟩ := hw
  obtain ⟨cm, LM, rfl, hom, hkm, hhm, hsdm⟩ := hms
  refine lv_aload_n hx hb d_Lw_law_265 rfl (lv_at hl 2 rfl) ?_
  refine mw_afterIF hPM hPK (lw_dis hdis) hS hA (mw_runV (As := []) (rest := [.int r1]) J hK hZ hPM hS hA (mw_ov_is (i := 0) hom.1 (by decide) hkm.2.1.1) rfl (c_Md_rules l D cI cZ cP cR cC tS _ Bm am cm hom said rs dr LM hkm hhm hsdm ) (cwV 0 hts (mw_gV k_490 k_491 k_492 k_8 k_493) rfl rfl rfl (by decide +kernel) ⟨Nat.le_of_ble_eq_true rfl, Nat.le_of_ble_eq_true rfl⟩) rfl hl.1 rfl (Nat.le_of_ble_eq_true rfl) d_Lw_law_266 ⟨by show 60 + 4 * t + 0 + 0 ≤ 600000; omega, by show 110000 + 17 * t + 0 + 0 ≤ 7302250; omega⟩) (fun r2 MM1 H locs hw hPM hPK hdis hS => ?_)
  obtain ⟨hp2, hk2⟩ := hw
  have he : r1 = r2 := hp1.trans hp2.symm
  refine lv_icmp_eq (tgt := 452) hx hb d_Lw_law_269 (by decide) (fun _ => ?_) (fun z => absurd he z)
  refine W.widen (k := 60 + 4 * (t + 1)) (n := 110000 + 17 * (t + 1)) (by omega) (by omega) ?_
  exact kk _ _ ⟨_, _, _, _, ad, am, pm, sm, ca, said, rs, dr, rfl, rfl, hPK, hPM, lw_dis hdis, hk1, hk2⟩ hS
set_option maxHeartbeats 4000000 in
set_option maxRecDepth 100000 in
theorem lw_holds {p : Program} {l : Launch} {e : Env} {s : State} {m : MethodId} {below : List Frame} {meth : Method} {c : Code} {b L : Nat} {xs : Nat → Int32} {D : va_G} {cI cZ cP cR cC : ClassId} {tS : Nat} {Q : State → Prop} (J : CallFix p m c b_Lw_law 4 s #[Value.ref b] gw "RuleKeeperLaw") (hX : va_X b L xs s s.heap) (hbl : b < s.heap.size) (hK : va_K D k_cl (k_tys cI cZ cP cR cC) s) (hZ : mw_Z (k_g tS) (fun q => s.heap.size ≤ q) s s.heap) (hL : L ≤ 2048) {H : Heap} {locs : List Loc} {ls : Array Slot} {kx mx t : Nat} (ht : 4 * t + 4 ≤ L) (hl : lv_has ls 4 [(0, .ref b), (1, .ref kx), (2, .ref mx), (3, .int (nI (4 * t)))]) (hst : lw_st D cI cZ cP cR cC (fun q => s.heap.size ≤ q) kx mx H) (hS : va_S (fun q => s.heap.size ≤ q) s.heap H locs)
    (kk : ∀ (H : Heap) (locs : List Loc), lw_st D cI cZ cP cR cC (fun q => s.heap.size ≤ q) kx mx H → va_S (fun q => s.heap.size ≤ q) s.heap H locs → W p l e room_1 s m #[Value.ref b] below meth c H locs (60 + 4 * (t + 1)) (110000 + 17 * (t + 1)) Q (F0 m 452 ls [])) : W p l e room_1 s m #[Value.ref b] below meth c H locs (60 + 4 * t) (110000 + 17 * t) Q (F0 m 274 ls []) := by
  have hx := J.1
  have hb := J.2.1
  have hts := J.2.2.2.2
  have hA : ∀ q : Nat, s.heap.size ≤ q → (fun q : Nat => s.heap.size ≤ q) q := fun _ h => h
  have hbA : ¬ (fun q : Nat => s.heap.size ≤ q) b := Nat.not_le.mpr hbl
  obtain ⟨MK, MM, B0, Bm, ad, am, pm, sm, ca, said, rs, dr, rfl, rfl, hPK, hPM, hdis, hks, hms⟩ := hst
  obtain ⟨B, cw, LK, rfl, -, ho, hfz, hkp, hh, hsd⟩ := hks
  refine lv_aload_n hx hb d_Lw_law_274 rfl (lv_at hl 1 rfl) ?_
  refine lv_aload_n hx hb d_Lw_law_275 rfl (lv_at hl 0 rfl) ?_
  refine lv_iload_n hx hb d_Lw_law_276 rfl (lv_at hl 3 rfl) ?_
  refine lv_iconst (v := 1) hx hb d_Lw_law_277 (by decide) ?_
  refine lv_iadd hx hb d_Lw_law_278 ?_
  refine mw_top (x' := nI (4 * t + 1)) (nI_add (4 * t) 1) ?_
  refine va_sld hx hb hX hbl hbA hS (vp_in_nI (by omega) (by omega)) d_Lw_law_279 ?_
  refine mw_top (x' := xs (4 * t + 1)) (by rw [nI_clamp (by omega)]) ?_
  refine lv_aload_n hx hb d_Lw_law_280 rfl (lv_at hl 0 rfl) ?_
  refine lv_iload_n hx hb d_Lw_law_281 rfl (lv_at hl 3 rfl) ?_
  refine lv_iconst (v := 2) hx hb d_Lw_law_282 (by decide) ?_
  refine lv_iadd hx hb d_Lw_law_283 ?_
  refine mw_top (x' := nI (4 * t + 2)) (nI_add (4 * t) 2) ?_
  refine va_sld hx hb hX hbl hbA hS (vp_in_nI (by omega) (by omega)) d_Lw_law_284 ?_
  refine mw_top (x' := xs (4 * t + 2)) (by rw [nI_clamp (by omega)]) ?_
  refine lv_aload_n hx hb d_Lw_law_285 rfl (lv_at hl 0 rfl) ?_
  refine lv_iload_n hx hb d_Lw_law_286 rfl (lv_at hl 3 rfl) ?_
  refine lv_iconst (v := 3) hx hb d_Lw_law_287 (by decide) ?_
  refine lv_iadd hx hb d_Lw_law_288 ?_
  refine mw_top (x' := nI (4 * t + 3)) (nI_add (4 * t) 3) ?_
  refine va_sld hx hb hX hbl hbA hS (vp_in_nI (by omega) (by omega)) d_Lw_law_289 ?_
  refine mw_top (x' := xs (4 * t + 3)) (by rw [nI_clamp (by omega)]) ?_
  refine mw_afterIF hPK hPM hdis hS hA (mw_runV (As := [.int (xs (4 * t + 1)), .int (xs (4 * t + 2)), .int (xs (4 * t + 3))]) (rest := []) J hK hZ hPK hS hA (mw_ov_is (i := 0) ho.1 (by decide) hkp.1) rfl (c_Kp_holds l D cI cZ cP cR cC tS _ B ad cw pm sm ca said rs dr LK ho hfz hkp hh hsd (xs (4 * t + 1)) (xs (4 * t + 2)) (xs (4 * t + 3))) (cwV 3 hts (mw_gV k_339 k_340 k_341 k_1 k_342) rfl rfl rfl (by decide +kernel) ⟨Nat.le_of_ble_eq_true rfl, Nat.le_of_ble_eq_true rfl⟩) rfl hl.1 rfl (Nat.le_of_ble_eq_true rfl) d_Lw_law_290 ⟨by show 60 + 4 * t + 0 ≤ 600000; omega, by show 110000 + 17 * t + 0 ≤ 7302250; omega⟩) (fun r1 MK1 H locs hw hPK hPM hdis hS => ?_)
  obtain ⟨hp1, hk1⟩ := hw
  obtain ⟨cm, LM, rfl, hom, hkm, hhm, hsdm⟩ := hms
  refine lv_aload_n hx hb d_Lw_law_293 rfl (lv_at hl 2 rfl) ?_
  refine lv_aload_n hx hb d_Lw_law_294 rfl (lv_at hl 0 rfl) ?_
  refine lv_iload_n hx hb d_Lw_law_295 rfl (lv_at hl 3 rfl) ?_
  refine lv_iconst (v := 1) hx hb d_Lw_law_296 (by decide) ?_
  refine lv_iadd hx hb d_Lw_law_297 ?_
  refine mw_top (x' := nI (4 * t + 1)) (nI_add (4 * t) 1) ?_
  refine va_sld hx hb hX hbl hbA hS (vp_in_nI (by omega) (by omega)) d_Lw_law_298 ?_
  refine mw_top (x' := xs (4 * t + 1)) (by rw [nI_clamp (by omega)]) ?_
  refine lv_aload_n hx hb d_Lw_law_299 rfl (lv_at hl 0 rfl) ?_
  refine lv_iload_n hx hb d_Lw_law_300 rfl (lv_at hl 3 rfl) ?_
  refine lv_iconst (v := 2) hx hb d_Lw_law_301 (by decide) ?_
  refine lv_iadd hx hb d_Lw_law_302 ?_
  refine mw_top (x' := nI (4 * t + 2)) (nI_add (4 * t) 2) ?_
  refine va_sld hx hb hX hbl hbA hS (vp_in_nI (by omega) (by omega)) d_Lw_law_303 ?_
  refine mw_top (x' := xs (4 * t + 2)) (by rw [nI_clamp (by omega)]) ?_
  refine lv_aload_n hx hb d_Lw_law_304 rfl (lv_at hl 0 rfl) ?_
  refine lv_iload_n hx hb d_Lw_law_305 rfl (lv_at hl 3 rfl) ?_
  refine lv_iconst (v := 3) hx hb d_Lw_law_306 (by decide) ?_
  refine lv_iadd hx hb d_Lw_law_307 ?_
  refine mw_top (x' := nI (4 * t + 3)) (nI_add (4 * t) 3) ?_
  refine va_sld hx hb hX hbl hbA hS (vp_in_nI (by omega) (by omega)) d_Lw_law_308 ?_
  refine mw_top (x' := xs (4 * t + 3)) (by rw [nI_clamp (by omega)]) ?_
  refine mw_afterIF hPM hPK (lw_dis hdis) hS hA (mw_runV (As := [.int (xs (4 * t + 1)), .int (xs (4 * t + 2)), .int (xs (4 * t + 3))]) (rest := [.int r1]) J hK hZ hPM hS hA (mw_ov_is (i := 0) hom.1 (by decide) hkm.2.1.1) rfl (c_Md_holds l D cI cZ cP cR cC tS _ Bm am cm hom said rs dr LM hkm hhm hsdm (xs (4 * t + 1)) (xs (4 * t + 2)) (xs (4 * t + 3))) (cwV 3 hts (mw_gV k_494 k_495 k_496 k_8 k_497) rfl rfl rfl (by decide +kernel) ⟨Nat.le_of_ble_eq_true rfl, Nat.le_of_ble_eq_true rfl⟩) rfl hl.1 rfl (Nat.le_of_ble_eq_true rfl) d_Lw_law_309 ⟨by show 60 + 4 * t + 0 + 0 ≤ 600000; omega, by show 110000 + 17 * t + 0 + 0 ≤ 7302250; omega⟩) (fun r2 MM1 H locs hw hPM hPK hdis hS => ?_)
  obtain ⟨hp2, hk2⟩ := hw
  have he := sp_holds_u hp1 hp2
  refine lv_icmp_eq (tgt := 452) hx hb d_Lw_law_312 (by decide) (fun _ => ?_) (fun z => absurd he z)
  refine W.widen (k := 60 + 4 * (t + 1)) (n := 110000 + 17 * (t + 1)) (by omega) (by omega) ?_
  exact kk _ _ ⟨_, _, _, _, ad, am, pm, sm, ca, said, rs, dr, rfl, rfl, hPK, hPM, lw_dis hdis, hk1, hk2⟩ hS
set_option maxHeartbeats 4000000 in
set_option maxRecDepth 100000 in
theorem lw_support {p : Program} {l : Launch} {e : Env} {s : State} {m : MethodId} {below : List Frame} {meth : Method} {c : Code} {b L : Nat} {xs : Nat → Int32} {D : va_G} {cI cZ cP cR cC : ClassId} {tS : Nat} {Q : State → Prop} (J : CallFix p m c b_Lw_law 4 s #[Value.ref b] gw "RuleKeeperLaw") (hX : va_X b L xs s s.heap) (hbl : b < s.heap.size) (hK : va_K D k_cl (k_tys cI cZ cP cR cC) s) (hZ : mw_Z (k_g tS) (fun q => s.heap.size ≤ q) s s.heap) (hL : L ≤ 2048) {H : Heap} {locs : List Loc} {ls : Array Slot} {kx mx t : Nat} (ht : 4 * t + 4 ≤ L) (hl : lv_has ls 4 [(0, .ref b), (1, .ref kx), (2, .ref mx), (3, .int (nI (4 * t)))]) (hst : lw_st D cI cZ cP cR cC (fun q => s.heap.size ≤ q) kx mx H) (hS : va_S (fun q => s.heap.size ≤ q) s.heap H locs)
    (kk : ∀ (H : Heap) (locs : List Loc), lw_st D cI cZ cP cR cC (fun q => s.heap.size ≤ q) kx mx H → va_S (fun q => s.heap.size ≤ q) s.heap H locs → W p l e room_1 s m #[Value.ref b] below meth c H locs (60 + 4 * (t + 1)) (110000 + 17 * (t + 1)) Q (F0 m 452 ls [])) : W p l e room_1 s m #[Value.ref b] below meth c H locs (60 + 4 * t) (110000 + 17 * t) Q (F0 m 317 ls []) := by
  have hx := J.1
  have hb := J.2.1
  have hts := J.2.2.2.2
  have hA : ∀ q : Nat, s.heap.size ≤ q → (fun q : Nat => s.heap.size ≤ q) q := fun _ h => h
  have hbA : ¬ (fun q : Nat => s.heap.size ≤ q) b := Nat.not_le.mpr hbl
  obtain ⟨MK, MM, B0, Bm, ad, am, pm, sm, ca, said, rs, dr, rfl, rfl, hPK, hPM, hdis, hks, hms⟩ := hst
  obtain ⟨B, cw, LK, rfl, -, ho, hfz, hkp, hh, hsd⟩ := hks
  refine lv_aload_n hx hb d_Lw_law_317 rfl (lv_at hl 1 rfl) ?_
  refine lv_aload_n hx hb d_Lw_law_318 rfl (lv_at hl 0 rfl) ?_
  refine lv_iload_n hx hb d_Lw_law_319 rfl (lv_at hl 3 rfl) ?_
  refine lv_iconst (v := 1) hx hb d_Lw_law_320 (by decide) ?_
  refine lv_iadd hx hb d_Lw_law_321 ?_
  refine mw_top (x' := nI (4 * t + 1)) (nI_add (4 * t) 1) ?_
  refine va_sld hx hb hX hbl hbA hS (vp_in_nI (by omega) (by omega)) d_Lw_law_322 ?_
  refine mw_top (x' := xs (4 * t + 1)) (by rw [nI_clamp (by omega)]) ?_
  refine lv_aload_n hx hb d_Lw_law_323 rfl (lv_at hl 0 rfl) ?_
  refine lv_iload_n hx hb d_Lw_law_324 rfl (lv_at hl 3 rfl) ?_
  refine lv_iconst (v := 2) hx hb d_Lw_law_325 (by decide) ?_
  refine lv_iadd hx hb d_Lw_law_326 ?_
  refine mw_top (x' := nI (4 * t + 2)) (nI_add (4 * t) 2) ?_
  refine va_sld hx hb hX hbl hbA hS (vp_in_nI (by omega) (by omega)) d_Lw_law_327 ?_
  refine mw_top (x' := xs (4 * t + 2)) (by rw [nI_clamp (by omega)]) ?_
  refine lv_aload_n hx hb d_Lw_law_328 rfl (lv_at hl 0 rfl) ?_
  refine lv_iload_n hx hb d_Lw_law_329 rfl (lv_at hl 3 rfl) ?_
  refine lv_iconst (v := 3) hx hb d_Lw_law_330 (by decide) ?_
  refine lv_iadd hx hb d_Lw_law_331 ?_
  refine mw_top (x' := nI (4 * t + 3)) (nI_add (4 * t) 3) ?_
  refine va_sld hx hb hX hbl hbA hS (vp_in_nI (by omega) (by omega)) d_Lw_law_332 ?_
  refine mw_top (x' := xs (4 * t + 3)) (by rw [nI_clamp (by omega)]) ?_
  refine mw_afterIF hPK hPM hdis hS hA (mw_runV (As := [.int (xs (4 * t + 1)), .int (xs (4 * t + 2)), .int (xs (4 * t + 3))]) (rest := []) J hK hZ hPK hS hA (mw_ov_is (i := 0) ho.1 (by decide) hkp.1) rfl (c_Kp_support l D cI cZ cP cR cC tS _ B ad cw pm sm ca said rs dr LK ho hfz hkp hh hsd (xs (4 * t + 1)) (xs (4 * t + 2)) (xs (4 * t + 3))) (cwV 3 hts (mw_gV k_343 k_344 k_345 k_1 k_346) rfl rfl rfl (by decide +kernel) ⟨Nat.le_of_ble_eq_true rfl, Nat.le_of_ble_eq_true rfl⟩) rfl hl.1 rfl (Nat.le_of_ble_eq_true rfl) d_Lw_law_333 ⟨by show 60 + 4 * t + 0 ≤ 600000; omega, by show 110000 + 17 * t + 0 ≤ 7302250; omega⟩) (fun r1 MK1 H locs hw hPK hPM hdis hS => ?_)
  obtain ⟨hp1, hk1⟩ := hw
  obtain ⟨cm, LM, rfl, hom, hkm, hhm, hsdm⟩ := hms
  refine lv_aload_n hx hb d_Lw_law_336 rfl (lv_at hl 2 rfl) ?_
  refine lv_aload_n hx hb d_Lw_law_337 rfl (lv_at hl 0 rfl) ?_
  refine lv_iload_n hx hb d_Lw_law_338 rfl (lv_at hl 3 rfl) ?_
  refine lv_iconst (v := 1) hx hb d_Lw_law_339 (by decide) ?_
  refine lv_iadd hx hb d_Lw_law_340 ?_
  refine mw_top (x' := nI (4 * t + 1)) (nI_add (4 * t) 1) ?_
  refine va_sld hx hb hX hbl hbA hS (vp_in_nI (by omega) (by omega)) d_Lw_law_341 ?_
  refine mw_top (x' := xs (4 * t + 1)) (by rw [nI_clamp (by omega)]) ?_
  refine lv_aload_n hx hb d_Lw_law_342 rfl (lv_at hl 0 rfl) ?_
  refine lv_iload_n hx hb d_Lw_law_343 rfl (lv_at hl 3 rfl) ?_
  refine lv_iconst (v := 2) hx hb d_Lw_law_344 (by decide) ?_
  refine lv_iadd hx hb d_Lw_law_345 ?_
  refine mw_top (x' := nI (4 * t + 2)) (nI_add (4 * t) 2) ?_
  refine va_sld hx hb hX hbl hbA hS (vp_in_nI (by omega) (by omega)) d_Lw_law_346 ?_
  refine mw_top (x' := xs (4 * t + 2)) (by rw [nI_clamp (by omega)]) ?_
  refine lv_aload_n hx hb d_Lw_law_347 rfl (lv_at hl 0 rfl) ?_
  refine lv_iload_n hx hb d_Lw_law_348 rfl (lv_at hl 3 rfl) ?_
  refine lv_iconst (v := 3) hx hb d_Lw_law_349 (by decide) ?_
  refine lv_iadd hx hb d_Lw_law_350 ?_
  refine mw_top (x' := nI (4 * t + 3)) (nI_add (4 * t) 3) ?_
  refine va_sld hx hb hX hbl hbA hS (vp_in_nI (by omega) (by omega)) d_Lw_law_351 ?_
  refine mw_top (x' := xs (4 * t + 3)) (by rw [nI_clamp (by omega)]) ?_
  refine mw_afterIF hPM hPK (lw_dis hdis) hS hA (mw_runV (As := [.int (xs (4 * t + 1)), .int (xs (4 * t + 2)), .int (xs (4 * t + 3))]) (rest := [.int r1]) J hK hZ hPM hS hA (mw_ov_is (i := 0) hom.1 (by decide) hkm.2.1.1) rfl (c_Md_support l D cI cZ cP cR cC tS _ Bm am cm hom said rs dr LM hkm hhm hsdm (xs (4 * t + 1)) (xs (4 * t + 2)) (xs (4 * t + 3))) (cwV 3 hts (mw_gV k_498 k_499 k_500 k_8 k_501) rfl rfl rfl (by decide +kernel) ⟨Nat.le_of_ble_eq_true rfl, Nat.le_of_ble_eq_true rfl⟩) rfl hl.1 rfl (Nat.le_of_ble_eq_true rfl) d_Lw_law_352 ⟨by show 60 + 4 * t + 0 + 0 ≤ 600000; omega, by show 110000 + 17 * t + 0 + 0 ≤ 7302250; omega⟩) (fun r2 MM1 H locs hw hPM hPK hdis hS => ?_)
  obtain ⟨hp2, hk2⟩ := hw
  have he := sp_support_u hp1 hp2
  refine lv_icmp_eq (tgt := 452) hx hb d_Lw_law_355 (by decide) (fun _ => ?_) (fun z => absurd he z)
  refine W.widen (k := 60 + 4 * (t + 1)) (n := 110000 + 17 * (t + 1)) (by omega) (by omega) ?_
  exact kk _ _ ⟨_, _, _, _, ad, am, pm, sm, ca, said, rs, dr, rfl, rfl, hPK, hPM, lw_dis hdis, hk1, hk2⟩ hS
set_option maxHeartbeats 4000000 in
set_option maxRecDepth 100000 in
theorem lw_size {p : Program} {l : Launch} {e : Env} {s : State} {m : MethodId} {below : List Frame} {meth : Method} {c : Code} {b L : Nat} {xs : Nat → Int32} {D : va_G} {cI cZ cP cR cC : ClassId} {tS : Nat} {Q : State → Prop} (J : CallFix p m c b_Lw_law 4 s #[Value.ref b] gw "RuleKeeperLaw") (hX : va_X b L xs s s.heap) (hbl : b < s.heap.size) (hK : va_K D k_cl (k_tys cI cZ cP cR cC) s) (hZ : mw_Z (k_g tS) (fun q => s.heap.size ≤ q) s s.heap) (hL : L ≤ 2048) {H : Heap} {locs : List Loc} {ls : Array Slot} {kx mx t : Nat} (ht : 4 * t + 4 ≤ L) (hl : lv_has ls 4 [(0, .ref b), (1, .ref kx), (2, .ref mx), (3, .int (nI (4 * t)))]) (hst : lw_st D cI cZ cP cR cC (fun q => s.heap.size ≤ q) kx mx H) (hS : va_S (fun q => s.heap.size ≤ q) s.heap H locs)
    (kk : ∀ (H : Heap) (locs : List Loc), lw_st D cI cZ cP cR cC (fun q => s.heap.size ≤ q) kx mx H → va_S (fun q => s.heap.size ≤ q) s.heap H locs → W p l e room_1 s m #[Value.ref b] below meth c H locs (60 + 4 * (t + 1)) (110000 + 17 * (t + 1)) Q (F0 m 452 ls [])) : W p l e room_1 s m #[Value.ref b] below meth c H locs (60 + 4 * t) (110000 + 17 * t) Q (F0 m 360 ls []) := by
  have hx := J.1
  have hb := J.2.1
  have hts := J.2.2.2.2
  have hA : ∀ q : Nat, s.heap.size ≤ q → (fun q : Nat => s.heap.size ≤ q) q := fun _ h => h
  have hbA : ¬ (fun q : Nat => s.heap.size ≤ q) b := Nat.not_le.mpr hbl
  obtain ⟨MK, MM, B0, Bm, ad, am, pm, sm, ca, said, rs, dr, rfl, rfl, hPK, hPM, hdis, hks, hms⟩ := hst
  obtain ⟨B, cw, LK, rfl, -, ho, hfz, hkp, hh, hsd⟩ := hks
  refine lv_aload_n hx hb d_Lw_law_360 rfl (lv_at hl 1 rfl) ?_
  refine mw_afterIF hPK hPM hdis hS hA (mw_runV (As := []) (rest := []) J hK hZ hPK hS hA (mw_ov_is (i := 0) ho.1 (by decide) hkp.1) rfl (c_Kp_size l D cI cZ cP cR cC tS _ B ad cw pm sm ca said rs dr LK ho hfz hkp hh hsd ) (cwV 0 hts (mw_gV k_354 k_355 k_356 k_1 k_357) rfl rfl rfl (by decide +kernel) ⟨Nat.le_of_ble_eq_true rfl, Nat.le_of_ble_eq_true rfl⟩) rfl hl.1 rfl (Nat.le_of_ble_eq_true rfl) d_Lw_law_361 ⟨by show 60 + 4 * t + 0 ≤ 600000; omega, by show 110000 + 17 * t + 0 ≤ 7302250; omega⟩) (fun r1 MK1 H locs hw hPK hPM hdis hS => ?_)
  obtain ⟨hp1, hk1⟩ := hw
  obtain ⟨cm, LM, rfl, hom, hkm, hhm, hsdm⟩ := hms
  refine lv_aload_n hx hb d_Lw_law_364 rfl (lv_at hl 2 rfl) ?_
  refine mw_afterIF hPM hPK (lw_dis hdis) hS hA (mw_runV (As := []) (rest := [.int r1]) J hK hZ hPM hS hA (mw_ov_is (i := 0) hom.1 (by decide) hkm.2.1.1) rfl (c_Md_size l D cI cZ cP cR cC tS _ Bm am cm hom said rs dr LM hkm hhm hsdm ) (cwV 0 hts (mw_gV k_502 k_503 k_504 k_8 k_505) rfl rfl rfl (by decide +kernel) ⟨Nat.le_of_ble_eq_true rfl, Nat.le_of_ble_eq_true rfl⟩) rfl hl.1 rfl (Nat.le_of_ble_eq_true rfl) d_Lw_law_365 ⟨by show 60 + 4 * t + 0 + 0 ≤ 600000; omega, by show 110000 + 17 * t + 0 + 0 ≤ 7302250; omega⟩) (fun r2 MM1 H locs hw hPM hPK hdis hS => ?_)
  obtain ⟨hp2, hk2⟩ := hw
  have he := sp_size_u hp1 hp2
  refine lv_icmp_eq (tgt := 452) hx hb d_Lw_law_368 (by decide) (fun _ => ?_) (fun z => absurd he z)
  refine W.widen (k := 60 + 4 * (t + 1)) (n := 110000 + 17 * (t + 1)) (by omega) (by omega) ?_
  exact kk _ _ ⟨_, _, _, _, ad, am, pm, sm, ca, said, rs, dr, rfl, rfl, hPK, hPM, lw_dis hdis, hk1, hk2⟩ hS
set_option maxHeartbeats 4000000 in
set_option maxRecDepth 100000 in
theorem lw_next {p : Program} {l : Launch} {e : Env} {s : State} {m : MethodId} {below : List Frame} {meth : Method} {c : Code} {b L : Nat} {xs : Nat → Int32} {D : va_G} {cI cZ cP cR cC : ClassId} {tS : Nat} {Q : State → Prop} (J : CallFix p m c b_Lw_law 4 s #[Value.ref b] gw "RuleKeeperLaw") (hX : va_X b L xs s s.heap) (hbl : b < s.heap.size) (hK : va_K D k_cl (k_tys cI cZ cP cR cC) s) (hZ : mw_Z (k_g tS) (fun q => s.heap.size ≤ q) s s.heap) (hL : L ≤ 2048) {H : Heap} {locs : List Loc} {ls : Array Slot} {kx mx t : Nat} (ht : 4 * t + 4 ≤ L) (hl : lv_has ls 4 [(0, .ref b), (1, .ref kx), (2, .ref mx), (3, .int (nI (4 * t)))]) (hst : lw_st D cI cZ cP cR cC (fun q => s.heap.size ≤ q) kx mx H) (hS : va_S (fun q => s.heap.size ≤ q) s.heap H locs)
    (kk : ∀ (H : Heap) (locs : List Loc), lw_st D cI cZ cP cR cC (fun q => s.heap.size ≤ q) kx mx H → va_S (fun q => s.heap.size ≤ q) s.heap H locs → W p l e room_1 s m #[Value.ref b] below meth c H locs (60 + 4 * (t + 1)) (110000 + 17 * (t + 1)) Q (F0 m 452 ls [])) : W p l e room_1 s m #[Value.ref b] below meth c H locs (60 + 4 * t) (110000 + 17 * t) Q (F0 m 373 ls []) := by
  have hx := J.1
  have hb := J.2.1
  have hts := J.2.2.2.2
  have hA : ∀ q : Nat, s.heap.size ≤ q → (fun q : Nat => s.heap.size ≤ q) q := fun _ h => h
  have hbA : ¬ (fun q : Nat => s.heap.size ≤ q) b := Nat.not_le.mpr hbl
  obtain ⟨MK, MM, B0, Bm, ad, am, pm, sm, ca, said, rs, dr, rfl, rfl, hPK, hPM, hdis, hks, hms⟩ := hst
  obtain ⟨B, cw, LK, rfl, -, ho, hfz, hkp, hh, hsd⟩ := hks
  refine lv_aload_n hx hb d_Lw_law_373 rfl (lv_at hl 1 rfl) ?_
  refine lv_aload_n hx hb d_Lw_law_374 rfl (lv_at hl 0 rfl) ?_
  refine lv_iload_n hx hb d_Lw_law_375 rfl (lv_at hl 3 rfl) ?_
  refine lv_iconst (v := 1) hx hb d_Lw_law_376 (by decide) ?_
  refine lv_iadd hx hb d_Lw_law_377 ?_
  refine mw_top (x' := nI (4 * t + 1)) (nI_add (4 * t) 1) ?_
  refine va_sld hx hb hX hbl hbA hS (vp_in_nI (by omega) (by omega)) d_Lw_law_378 ?_
  refine mw_top (x' := xs (4 * t + 1)) (by rw [nI_clamp (by omega)]) ?_
  refine mw_afterIF hPK hPM hdis hS hA (mw_runV (As := [.int (xs (4 * t + 1))]) (rest := []) J hK hZ hPK hS hA (mw_ov_is (i := 0) ho.1 (by decide) hkp.1) rfl (c_Kp_next l D cI cZ cP cR cC tS _ B ad cw pm sm ca said rs dr LK ho hfz hkp hh hsd (xs (4 * t + 1))) (cwV 1 hts (mw_gV k_358 k_359 k_360 k_1 k_361) rfl rfl rfl (by decide +kernel) ⟨Nat.le_of_ble_eq_true rfl, Nat.le_of_ble_eq_true rfl⟩) rfl hl.1 rfl (Nat.le_of_ble_eq_true rfl) d_Lw_law_379 ⟨by show 60 + 4 * t + 0 ≤ 600000; omega, by show 110000 + 17 * t + 0 ≤ 7302250; omega⟩) (fun r1 MK1 H locs hw hPK hPM hdis hS => ?_)
  obtain ⟨hp1, hk1⟩ := hw
  obtain ⟨cm, LM, rfl, hom, hkm, hhm, hsdm⟩ := hms
  refine lv_aload_n hx hb d_Lw_law_382 rfl (lv_at hl 2 rfl) ?_
  refine lv_aload_n hx hb d_Lw_law_383 rfl (lv_at hl 0 rfl) ?_
  refine lv_iload_n hx hb d_Lw_law_384 rfl (lv_at hl 3 rfl) ?_
  refine lv_iconst (v := 1) hx hb d_Lw_law_385 (by decide) ?_
  refine lv_iadd hx hb d_Lw_law_386 ?_
  refine mw_top (x' := nI (4 * t + 1)) (nI_add (4 * t) 1) ?_
  refine va_sld hx hb hX hbl hbA hS (vp_in_nI (by omega) (by omega)) d_Lw_law_387 ?_
  refine mw_top (x' := xs (4 * t + 1)) (by rw [nI_clamp (by omega)]) ?_
  refine mw_afterIF hPM hPK (lw_dis hdis) hS hA (mw_runV (As := [.int (xs (4 * t + 1))]) (rest := [.int r1]) J hK hZ hPM hS hA (mw_ov_is (i := 0) hom.1 (by decide) hkm.2.1.1) rfl (c_Md_next l D cI cZ cP cR cC tS _ Bm am cm hom said rs dr LM hkm hhm hsdm (xs (4 * t + 1))) (cwV 1 hts (mw_gV k_506 k_507 k_508 k_8 k_509) rfl rfl rfl (by decide +kernel) ⟨Nat.le_of_ble_eq_true rfl, Nat.le_of_ble_eq_true rfl⟩) rfl hl.1 rfl (Nat.le_of_ble_eq_true rfl) d_Lw_law_388 ⟨by show 60 + 4 * t + 0 + 0 ≤ 600000; omega, by show 110000 + 17 * t + 0 + 0 ≤ 7302250; omega⟩) (fun r2 MM1 H locs hw hPM hPK hdis hS => ?_)
  obtain ⟨hp2, hk2⟩ := hw
  have he := sp_next_u hp1 hp2
  refine lv_icmp_eq (tgt := 452) hx hb d_Lw_law_391 (by decide) (fun _ => ?_) (fun z => absurd he z)
  refine W.widen (k := 60 + 4 * (t + 1)) (n := 110000 + 17 * (t + 1)) (by omega) (by omega) ?_
  exact kk _ _ ⟨_, _, _, _, ad, am, pm, sm, ca, said, rs, dr, rfl, rfl, hPK, hPM, lw_dis hdis, hk1, hk2⟩ hS
set_option maxHeartbeats 4000000 in
set_option maxRecDepth 100000 in
theorem lw_fitting {p : Program} {l : Launch} {e : Env} {s : State} {m : MethodId} {below : List Frame} {meth : Method} {c : Code} {b L : Nat} {xs : Nat → Int32} {D : va_G} {cI cZ cP cR cC : ClassId} {tS : Nat} {Q : State → Prop} (J : CallFix p m c b_Lw_law 4 s #[Value.ref b] gw "RuleKeeperLaw") (hX : va_X b L xs s s.heap) (hbl : b < s.heap.size) (hK : va_K D k_cl (k_tys cI cZ cP cR cC) s) (hZ : mw_Z (k_g tS) (fun q => s.heap.size ≤ q) s s.heap) (hL : L ≤ 2048) {H : Heap} {locs : List Loc} {ls : Array Slot} {kx mx t : Nat} (ht : 4 * t + 4 ≤ L) (hl : lv_has ls 4 [(0, .ref b), (1, .ref kx), (2, .ref mx), (3, .int (nI (4 * t)))]) (hst : lw_st D cI cZ cP cR cC (fun q => s.heap.size ≤ q) kx mx H) (hS : va_S (fun q => s.heap.size ≤ q) s.heap H locs)
    (kk : ∀ (H : Heap) (locs : List Loc), lw_st D cI cZ cP cR cC (fun q => s.heap.size ≤ q) kx mx H → va_S (fun q => s.heap.size ≤ q) s.heap H locs → W p l e room_1 s m #[Value.ref b] below meth c H locs (60 + 4 * (t + 1)) (110000 + 17 * (t + 1)) Q (F0 m 452 ls [])) : W p l e room_1 s m #[Value.ref b] below meth c H locs (60 + 4 * t) (110000 + 17 * t) Q (F0 m 396 ls []) := by
  have hx := J.1
  have hb := J.2.1
  have hts := J.2.2.2.2
  have hA : ∀ q : Nat, s.heap.size ≤ q → (fun q : Nat => s.heap.size ≤ q) q := fun _ h => h
  have hbA : ¬ (fun q : Nat => s.heap.size ≤ q) b := Nat.not_le.mpr hbl
  obtain ⟨MK, MM, B0, Bm, ad, am, pm, sm, ca, said, rs, dr, rfl, rfl, hPK, hPM, hdis, hks, hms⟩ := hst
  obtain ⟨B, cw, LK, rfl, -, ho, hfz, hkp, hh, hsd⟩ := hks
  refine lv_aload_n hx hb d_Lw_law_396 rfl (lv_at hl 1 rfl) ?_
  refine lv_aload_n hx hb d_Lw_law_397 rfl (lv_at hl 0 rfl) ?_
  refine lv_iload_n hx hb d_Lw_law_398 rfl (lv_at hl 3 rfl) ?_
  refine lv_iconst (v := 1) hx hb d_Lw_law_399 (by decide) ?_
  refine lv_iadd hx hb d_Lw_law_400 ?_
  refine mw_top (x' := nI (4 * t + 1)) (nI_add (4 * t) 1) ?_
  refine va_sld hx hb hX hbl hbA hS (vp_in_nI (by omega) (by omega)) d_Lw_law_401 ?_
  refine mw_top (x' := xs (4 * t + 1)) (by rw [nI_clamp (by omega)]) ?_
  refine lv_aload_n hx hb d_Lw_law_402 rfl (lv_at hl 0 rfl) ?_
  refine lv_iload_n hx hb d_Lw_law_403 rfl (lv_at hl 3 rfl) ?_
  refine lv_iconst (v := 2) hx hb d_Lw_law_404 (by decide) ?_
  refine lv_iadd hx hb d_Lw_law_405 ?_
  refine mw_top (x' := nI (4 * t + 2)) (nI_add (4 * t) 2) ?_
  refine va_sld hx hb hX hbl hbA hS (vp_in_nI (by omega) (by omega)) d_Lw_law_406 ?_
  refine mw_top (x' := xs (4 * t + 2)) (by rw [nI_clamp (by omega)]) ?_
  refine lv_aload_n hx hb d_Lw_law_407 rfl (lv_at hl 0 rfl) ?_
  refine lv_iload_n hx hb d_Lw_law_408 rfl (lv_at hl 3 rfl) ?_
  refine lv_iconst (v := 3) hx hb d_Lw_law_409 (by decide) ?_
  refine lv_iadd hx hb d_Lw_law_410 ?_
  refine mw_top (x' := nI (4 * t + 3)) (nI_add (4 * t) 3) ?_
  refine va_sld hx hb hX hbl hbA hS (vp_in_nI (by omega) (by omega)) d_Lw_law_411 ?_
  refine mw_top (x' := xs (4 * t + 3)) (by rw [nI_clamp (by omega)]) ?_
  refine mw_afterIF hPK hPM hdis hS hA (mw_runV (As := [.int (xs (4 * t + 1)), .int (xs (4 * t + 2)), .int (xs (4 * t + 3))]) (rest := []) J hK hZ hPK hS hA (mw_ov_is (i := 0) ho.1 (by decide) hkp.1) rfl (c_Kp_fitting l D cI cZ cP cR cC tS _ B ad cw pm sm ca said rs dr LK ho hfz hkp hh hsd (xs (4 * t + 1)) (xs (4 * t + 2)) (xs (4 * t + 3))) (cwV 3 hts (mw_gV k_362 k_363 k_364 k_1 k_365) rfl rfl rfl (by decide +kernel) ⟨Nat.le_of_ble_eq_true rfl, Nat.le_of_ble_eq_true rfl⟩) rfl hl.1 rfl (Nat.le_of_ble_eq_true rfl) d_Lw_law_412 ⟨by show 60 + 4 * t + 4 ≤ 600000; omega, by show 110000 + 17 * t + 17 ≤ 7302250; omega⟩) (fun r1 MK1 H locs hw hPK hPM hdis hS => ?_)
  obtain ⟨hp1, hk1⟩ := hw
  obtain ⟨cm, LM, rfl, hom, hkm, hhm, hsdm⟩ := hms
  refine lv_aload_n hx hb d_Lw_law_415 rfl (lv_at hl 2 rfl) ?_
  refine lv_aload_n hx hb d_Lw_law_416 rfl (lv_at hl 0 rfl) ?_
  refine lv_iload_n hx hb d_Lw_law_417 rfl (lv_at hl 3 rfl) ?_
  refine lv_iconst (v := 1) hx hb d_Lw_law_418 (by decide) ?_
  refine lv_iadd hx hb d_Lw_law_419 ?_
  refine mw_top (x' := nI (4 * t + 1)) (nI_add (4 * t) 1) ?_
  refine va_sld hx hb hX hbl hbA hS (vp_in_nI (by omega) (by omega)) d_Lw_law_420 ?_
  refine mw_top (x' := xs (4 * t + 1)) (by rw [nI_clamp (by omega)]) ?_
  refine lv_aload_n hx hb d_Lw_law_421 rfl (lv_at hl 0 rfl) ?_
  refine lv_iload_n hx hb d_Lw_law_422 rfl (lv_at hl 3 rfl) ?_
  refine lv_iconst (v := 2) hx hb d_Lw_law_423 (by decide) ?_
  refine lv_iadd hx hb d_Lw_law_424 ?_
  refine mw_top (x' := nI (4 * t + 2)) (nI_add (4 * t) 2) ?_
  refine va_sld hx hb hX hbl hbA hS (vp_in_nI (by omega) (by omega)) d_Lw_law_425 ?_
  refine mw_top (x' := xs (4 * t + 2)) (by rw [nI_clamp (by omega)]) ?_
  refine lv_aload_n hx hb d_Lw_law_426 rfl (lv_at hl 0 rfl) ?_
  refine lv_iload_n hx hb d_Lw_law_427 rfl (lv_at hl 3 rfl) ?_
  refine lv_iconst (v := 3) hx hb d_Lw_law_428 (by decide) ?_
  refine lv_iadd hx hb d_Lw_law_429 ?_
  refine mw_top (x' := nI (4 * t + 3)) (nI_add (4 * t) 3) ?_
  refine va_sld hx hb hX hbl hbA hS (vp_in_nI (by omega) (by omega)) d_Lw_law_430 ?_
  refine mw_top (x' := xs (4 * t + 3)) (by rw [nI_clamp (by omega)]) ?_
  refine mw_afterIF hPM hPK (lw_dis hdis) hS hA (mw_runV (As := [.int (xs (4 * t + 1)), .int (xs (4 * t + 2)), .int (xs (4 * t + 3))]) (rest := [.int r1]) J hK hZ hPM hS hA (mw_ov_is (i := 0) hom.1 (by decide) hkm.2.1.1) rfl (c_Md_fitting l D cI cZ cP cR cC tS _ Bm am cm hom said rs dr LM hkm hhm hsdm (xs (4 * t + 1)) (xs (4 * t + 2)) (xs (4 * t + 3))) (cwV 3 hts (mw_gV k_510 k_511 k_512 k_8 k_513) rfl rfl rfl (by decide +kernel) ⟨Nat.le_of_ble_eq_true rfl, Nat.le_of_ble_eq_true rfl⟩) rfl hl.1 rfl (Nat.le_of_ble_eq_true rfl) d_Lw_law_431 ⟨by show 60 + 4 * t + 4 + 0 ≤ 600000; omega, by show 110000 + 17 * t + 17 + 0 ≤ 7302250; omega⟩) (fun r2 MM1 H locs hw hPM hPK hdis hS => ?_)
  obtain ⟨hp2, hk2⟩ := hw
  have he := sp_fitting_u hp1 hp2
  refine lv_icmp_eq (tgt := 452) hx hb d_Lw_law_434 (by decide) (fun _ => ?_) (fun z => absurd he z)
  refine W.widen (k := 60 + 4 * (t + 1)) (n := 110000 + 17 * (t + 1)) (by omega) (by omega) ?_
  exact kk _ _ ⟨_, _, _, _, ad, am, pm, sm, ca, said, rs, dr, rfl, rfl, hPK, hPM, lw_dis hdis, hk1, hk2⟩ hS
set_option maxHeartbeats 4000000 in
set_option maxRecDepth 100000 in
theorem lw_clear {p : Program} {l : Launch} {e : Env} {s : State} {m : MethodId} {below : List Frame} {meth : Method} {c : Code} {b L : Nat} {xs : Nat → Int32} {D : va_G} {cI cZ cP cR cC : ClassId} {tS : Nat} {Q : State → Prop} (J : CallFix p m c b_Lw_law 4 s #[Value.ref b] gw "RuleKeeperLaw") (hX : va_X b L xs s s.heap) (hbl : b < s.heap.size) (hK : va_K D k_cl (k_tys cI cZ cP cR cC) s) (hZ : mw_Z (k_g tS) (fun q => s.heap.size ≤ q) s s.heap) (hL : L ≤ 2048) {H : Heap} {locs : List Loc} {ls : Array Slot} {kx mx t : Nat} (ht : 4 * t + 4 ≤ L) (hl : lv_has ls 4 [(0, .ref b), (1, .ref kx), (2, .ref mx), (3, .int (nI (4 * t)))]) (hst : lw_st D cI cZ cP cR cC (fun q => s.heap.size ≤ q) kx mx H) (hS : va_S (fun q => s.heap.size ≤ q) s.heap H locs)
    (kk : ∀ (H : Heap) (locs : List Loc), lw_st D cI cZ cP cR cC (fun q => s.heap.size ≤ q) kx mx H → va_S (fun q => s.heap.size ≤ q) s.heap H locs → W p l e room_1 s m #[Value.ref b] below meth c H locs (60 + 4 * (t + 1)) (110000 + 17 * (t + 1)) Q (F0 m 452 ls [])) : W p l e room_1 s m #[Value.ref b] below meth c H locs (60 + 4 * t) (110000 + 17 * t) Q (F0 m 439 ls []) := by
  have hx := J.1
  have hb := J.2.1
  have hts := J.2.2.2.2
  have hA : ∀ q : Nat, s.heap.size ≤ q → (fun q : Nat => s.heap.size ≤ q) q := fun _ h => h
  have hbA : ¬ (fun q : Nat => s.heap.size ≤ q) b := Nat.not_le.mpr hbl
  obtain ⟨MK, MM, B0, Bm, ad, am, pm, sm, ca, said, rs, dr, rfl, rfl, hPK, hPM, hdis, hks, hms⟩ := hst
  obtain ⟨B, cw, LK, rfl, -, ho, hfz, hkp, hh, hsd⟩ := hks
  refine lv_aload_n hx hb d_Lw_law_439 rfl (lv_at hl 1 rfl) ?_
  refine mw_afterIF hPK hPM hdis hS hA (mw_runV (As := []) (rest := []) J hK hZ hPK hS hA (mw_ov_is (i := 0) ho.1 (by decide) hkp.1) rfl (c_Kp_clear l D cI cZ cP cR cC tS _ B ad cw pm sm ca said rs dr LK ho hfz hkp hh hsd ) (cwV 0 hts (mw_gV k_367 k_368 k_369 k_1 k_370) rfl rfl rfl (by decide +kernel) ⟨Nat.le_of_ble_eq_true rfl, Nat.le_of_ble_eq_true rfl⟩) rfl hl.1 rfl (Nat.le_of_ble_eq_true rfl) d_Lw_law_440 ⟨by show 60 + 4 * t + 0 ≤ 600000; omega, by show 110000 + 17 * t + 0 ≤ 7302250; omega⟩) (fun r1 MK1 H locs hw hPK hPM hdis hS => ?_)
  obtain ⟨hp1, hk1⟩ := hw
  obtain ⟨cm, LM, rfl, hom, hkm, hhm, hsdm⟩ := hms
  refine lv_aload_n hx hb d_Lw_law_443 rfl (lv_at hl 2 rfl) ?_
  refine mw_afterIF hPM hPK (lw_dis hdis) hS hA (mw_runV (As := []) (rest := [.int r1]) J hK hZ hPM hS hA (mw_ov_is (i := 0) hom.1 (by decide) hkm.2.1.1) rfl (c_Md_clear l D cI cZ cP cR cC tS _ Bm am cm hom said rs dr LM hkm hhm hsdm ) (cwV 0 hts (mw_gV k_514 k_515 k_516 k_8 k_517) rfl rfl rfl (by decide +kernel) ⟨Nat.le_of_ble_eq_true rfl, Nat.le_of_ble_eq_true rfl⟩) rfl hl.1 rfl (Nat.le_of_ble_eq_true rfl) d_Lw_law_444 ⟨by show 60 + 4 * t + 0 + 0 ≤ 600000; omega, by show 110000 + 17 * t + 0 + 0 ≤ 7302250; omega⟩) (fun r2 MM1 H locs hw hPM hPK hdis hS => ?_)
  obtain ⟨hp2, hk2⟩ := hw
  have he := sp_clear_u hp1 hp2
  refine lv_icmp_eq (tgt := 452) hx hb d_Lw_law_447 (by decide) (fun _ => ?_) (fun z => absurd he z)
  refine W.widen (k := 60 + 4 * (t + 1)) (n := 110000 + 17 * (t + 1)) (by omega) (by omega) ?_
  exact kk _ _ ⟨_, _, _, _, ad, am, pm, sm, ca, (fun _ => false), rs, dr, rfl, rfl, hPK, hPM, lw_dis hdis, hk1, hk2⟩ hS
