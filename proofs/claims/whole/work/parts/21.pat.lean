/-! patterns as they stand in cells -/
def rk_num (P : rk_Pt) (j : Nat) : Bool := decide (rk_at P j < 32)
def rk_eqi (P : rk_Pt) (i j : Nat) : Int32 := if rk_at P i = rk_at P j then 1 else 0
theorem rk_eqi_0 {P : rk_Pt} {i j : Nat} (h : rk_eqi P i j = 0) : ¬ rk_at P i = rk_at P j := fun e => by
  unfold rk_eqi at h
  rw [if_pos e] at h
  exact absurd h (by decide)
theorem rk_eqi_1 {P : rk_Pt} {i j : Nat} (h : ¬ rk_eqi P i j = 0) : rk_at P i = rk_at P j := Classical.byContradiction fun e => h (by
  unfold rk_eqi
  rw [if_neg e])
/-- the fields of a pattern whose arrays stand at b and q -/
def k_pf (P : rk_Pt) (b q : Nat) : List Value := [.ref b, .ref q, .int (nI (rk_vars P)), .int (nI (rk_m (rk_num P))), .int (nI (rk_v (rk_num P) (rk_at P))), .int (rk_eqi P 0 1), .int (rk_eqi P 0 2), .int (rk_eqi P 1 2)]
/-- the pattern P stands at a -/
def k_pat (cI : ClassId) (M : mw_M) (a : Nat) (P : rk_Pt) : Prop :=
  rk_okP P ∧ ∃ (b q : Nat) (fb fq : Nat → Nat), M a = some (.inr (2, k_pf P b q)) ∧ M b = some (.inl (cI, 3, .inl (rk_nf fb))) ∧ M q = some (.inl (cI, 3, .inl (rk_nf fq))) ∧ (∀ j, j < 3 → fb j = rk_bits P j) ∧ ∀ j, j < 3 → fq j = rk_slots P j
theorem k_pat_mono {cI : ClassId} {M M1 : mw_M} {a : Nat} {P : rk_Pt} (h : k_pat cI M a P) (hM : ∀ q e, M q = some e → M1 q = some e) : k_pat cI M1 a P := by
  obtain ⟨h0, b, q, fb, fq, h1, h2, h3, h4⟩ := h
  exact ⟨h0, b, q, fb, fq, hM _ _ h1, hM _ _ h2, hM _ _ h3, h4⟩
theorem va_uu {M : mw_M} {a : Nat} {x y : Option va_E} : va_up (va_up M a x) a y = va_up M a y := by
  funext q
  by_cases h : q = a
  · rw [h, va_up_self, va_up_self]
  · rw [va_up_ne _ _ h, va_up_ne _ _ h, va_up_ne _ _ h]
theorem va_up_id {M : mw_M} {a : Nat} {x : Option va_E} (h : M a = x) : va_up M a x = M := by
  funext q
  by_cases e : q = a
  · rw [e, va_up_self, h]
  · rw [va_up_ne _ _ e]
def rk_agP (P : rk_Pt) (k : Nat) : Prop := ∀ i j, i < 3 → j < 3 → rk_at P i = rk_at P j → rk_dg k i = rk_dg k j
theorem rk_agP_of {P : rk_Pt} {k : Nat} (h1 : rk_at P 0 = rk_at P 1 → rk_dg k 0 = rk_dg k 1) (h2 : rk_at P 0 = rk_at P 2 → rk_dg k 0 = rk_dg k 2) (h3 : rk_at P 1 = rk_at P 2 → rk_dg k 1 = rk_dg k 2) : rk_agP P k := by
  intro i j hi hj e
  rcases (show i = 0 ∨ i = 1 ∨ i = 2 by omega) with rfl | rfl | rfl <;> rcases (show j = 0 ∨ j = 1 ∨ j = 2 by omega) with rfl | rfl | rfl
  · rfl
  · exact h1 e
  · exact h2 e
  · exact (h1 e.symm).symm
  · rfl
  · exact h3 e
  · exact (h2 e.symm).symm
  · exact (h3 e.symm).symm
  · rfl
theorem rk_num_lt {P : rk_Pt} : rk_v (rk_num P) (rk_at P) < 32768 := by
  have e : rk_v (rk_num P) (rk_at P) = rk_v (rk_num P) (fun j => if rk_num P j then rk_at P j else 0) := by
    unfold rk_v
    cases g0 : rk_num P 0 <;> cases g1 : rk_num P 1 <;> cases g2 : rk_num P 2 <;> simp [g0, g1, g2]
  rw [e]
  refine rk_v_lt (fun j hj => ?_)
  unfold rk_num
  by_cases h : rk_at P j < 32
  · simp [h]
  · simp [h]
theorem rk_num_sel {P : rk_Pt} {k : Nat} (hk : k < 32768) : k &&& rk_m (rk_num P) = rk_v (rk_num P) (rk_at P) ↔ ∀ j, j < 3 → rk_at P j < 32 → rk_dg k j = rk_at P j := by
  have e : rk_v (rk_num P) (rk_at P) = rk_v (rk_num P) (fun j => if rk_num P j then rk_at P j else 0) := by
    unfold rk_v
    cases g0 : rk_num P 0 <;> cases g1 : rk_num P 1 <;> cases g2 : rk_num P 2 <;> simp [g0, g1, g2]
  rw [e, rk_sel hk (fun j hj => by
    unfold rk_num
    by_cases h : rk_at P j < 32
    · simp [h]
    · simp [h])]
  constructor
  · intro h j hj hn
    have := h j hj (by simp [rk_num, hn])
    simpa [rk_num, hn] using this
  · intro h j hj hn
    have hn' : rk_at P j < 32 := by simpa [rk_num] using hn
    simpa [rk_num, hn'] using h j hj hn'
def rk_fits (P : rk_Pt) (k : Nat) : Prop := rk_mt P (fun _ => false) (fun _ => 0) k
theorem rk_fits_iff {P : rk_Pt} {k : Nat} (hk : k < 32768) : rk_fits P k ↔ k &&& rk_m (rk_num P) = rk_v (rk_num P) (rk_at P) ∧ rk_agP P k := by
  rw [rk_num_sel hk]
  constructor
  · rintro ⟨h1, -, h3⟩
    exact ⟨h1, h3⟩
  · rintro ⟨h1, h3⟩
    exact ⟨h1, (fun j hj h h' => by cases h'), h3⟩

set_option maxHeartbeats 4000000 in
set_option maxRecDepth 100000 in
theorem c_Pt_agrees (l : Launch) (D : va_G) (cI cZ cP cR cC : ClassId) (tS : Nat) (sz : Nat) (M : mw_M) (a : Nat) (P : rk_Pt) (hp : k_pat cI M a P) (k : Nat) (hk : k < 32768) :
    Met l y_Pt_agrees (.code y_Pt_agrees b_Pt_agrees 5 (some .boolean) :: gw) ({ frames := 0, cells := 0, slots := 0, locals := 0 }) (va_Pc [.ref a, .int (nI k)] (mw_B D k_cl (k_tys cI cZ cP cR cC) (k_g tS) M sz)) (va_Qi (fun (r : Int32) (M1 : mw_M) => M1 = M ∧ ((r = 1 ∧ rk_agP P k) ∨ (r = 0 ∧ ¬ rk_agP P k))) (mw_E D k_cl M sz) (mw_A M sz)) 0 0 (mw_A M sz) := by
  refine mw_met (by decide) rfl (Nat.le_of_ble_eq_true rfl) ?_
  intro p e s m below meth c hsz J hr hlk hnm hK hZ hP hS hA ls hl
  subst hsz
  have hx := J.1
  have hb := J.2.1
  have hts := J.2.2.2.2
  have hl : lv_has ls 5 [(0, .ref a), (1, .int (nI k))] := hl
  obtain ⟨hok, b, q, fb, fq, h1, h2, h3, hfb, hfq⟩ := hp
  refine lv_iload_n hx hb d_Pt_agrees_0 rfl (lv_at hl 1 rfl) ?_
  refine lv_bipush (v := 10) hx hb d_Pt_agrees_1 (by decide) ?_
  refine lv_ishr hx hb d_Pt_agrees_3 ?_
  refine mw_top (x' := nI (rk_dg k 0)) (by rw [rk_dg0 hk]; exact rk_shr10 (by omega)) ?_
  refine lv_istore_n (lv' := [(2, .int (nI (rk_dg k 0))), (0, .ref a), (1, .int (nI k))]) hx hb d_Pt_agrees_4 rfl hl (by decide) rfl (fun ls hl => ?_)
  refine lv_iload_n hx hb d_Pt_agrees_5 rfl (lv_at hl 2 rfl) ?_
  refine lv_iconst (v := 5) hx hb d_Pt_agrees_6 (by decide) ?_
  refine lv_ishr hx hb d_Pt_agrees_7 ?_
  refine mw_top (x' := nI (k / 32)) (rk_shr5 (by omega)) ?_
  refine lv_bipush (v := 31) hx hb d_Pt_agrees_8 (by decide) ?_
  refine lv_iand hx hb d_Pt_agrees_10 ?_
  refine mw_top (x' := nI (rk_dg k 1)) (rk_and31 (by omega)) ?_
  refine lv_istore_n (lv' := [(3, .int (nI (rk_dg k 1))), (2, .int (nI (rk_dg k 0))), (0, .ref a), (1, .int (nI k))]) hx hb d_Pt_agrees_11 rfl hl (by decide) rfl (fun ls hl => ?_)
  refine lv_iload_n hx hb d_Pt_agrees_12 rfl (lv_at hl 3 rfl) ?_
  refine lv_bipush (v := 31) hx hb d_Pt_agrees_13 (by decide) ?_
  refine lv_iand hx hb d_Pt_agrees_15 ?_
  refine mw_top (x' := nI (rk_dg k 2)) (by rw [rk_dg2]; exact rk_and31 (by omega)) ?_
  refine lv_istore (lv' := [(4, .int (nI (rk_dg k 2))), (3, .int (nI (rk_dg k 1))), (2, .int (nI (rk_dg k 0))), (0, .ref a), (1, .int (nI k))]) hx hb d_Pt_agrees_16 hl (by decide) rfl (fun ls hl => ?_)
  refine lv_aload_n hx hb d_Pt_agrees_18 rfl (lv_at hl 3 rfl) ?_
  refine mw_get (v := .int (rk_eqi P 0 1)) (ci := 2) (C := R_Pt) (T := T_Pt) (N := 8) J i_Pt hK hP h1 rfl 5 (by decide) (hts _ k_84) (fun _ h9 => h9) rfl d_Pt_agrees_19 ?_
  refine lv_if_eq (tgt := 30) hx hb d_Pt_agrees_22 (by decide) (fun c_22 => ?_) (fun c_22 => ?_)
  · have g01 : rk_at P 0 = rk_at P 1 → rk_dg k 0 = rk_dg k 1 := fun z => absurd z (rk_eqi_0 c_22)
    refine lv_aload_n hx hb d_Pt_agrees_30 rfl (lv_at hl 3 rfl) ?_
    refine mw_get (v := .int (rk_eqi P 0 2)) (ci := 2) (C := R_Pt) (T := T_Pt) (N := 8) J i_Pt hK hP h1 rfl 6 (by decide) (hts _ k_85) (fun _ h9 => h9) rfl d_Pt_agrees_31 ?_
    refine lv_if_eq (tgt := 43) hx hb d_Pt_agrees_34 (by decide) (fun c_34 => ?_) (fun c_34 => ?_)
    · have g02 : rk_at P 0 = rk_at P 2 → rk_dg k 0 = rk_dg k 2 := fun z => absurd z (rk_eqi_0 c_34)
      refine lv_aload_n hx hb d_Pt_agrees_43 rfl (lv_at hl 3 rfl) ?_
      refine mw_get (v := .int (rk_eqi P 1 2)) (ci := 2) (C := R_Pt) (T := T_Pt) (N := 8) J i_Pt hK hP h1 rfl 7 (by decide) (hts _ k_86) (fun _ h9 => h9) rfl d_Pt_agrees_44 ?_
      refine lv_if_eq (tgt := 56) hx hb d_Pt_agrees_47 (by decide) (fun c_47 => ?_) (fun c_47 => ?_)
      · have g12 : rk_at P 1 = rk_at P 2 → rk_dg k 1 = rk_dg k 2 := fun z => absurd z (rk_eqi_0 c_47)
        refine lv_iconst (v := 1) hx hb d_Pt_agrees_56 (by decide) ?_
        refine lv_goto (tgt := 61) hx hb d_Pt_agrees_57 (by decide) ?_
        exact mw_zret J hr hlk rfl hP hS d_Pt_agrees_61 (⟨rfl, Or.inl ⟨rfl, rk_agP_of g01 g02 g12⟩⟩)
      · refine lv_iload_n hx hb d_Pt_agrees_50 rfl (lv_at hl 1 rfl) ?_
        refine lv_iload hx hb d_Pt_agrees_51 (lv_at hl 0 rfl) ?_
        refine lv_icmp_ne (tgt := 60) hx hb d_Pt_agrees_53 (by decide) (fun c_53 => ?_) (fun c_53 => ?_)
        · have c_53 : ¬ ((rk_dg k 1) = (rk_dg k 2)) := fun z => c_53 ((nI_eq (Nat.lt_trans (rk_dg_lt k 1) (by decide)) (Nat.lt_trans (rk_dg_lt k 2) (by decide))).mpr z)
          have hn : ¬ rk_agP P k := fun z => c_53 (z 1 2 (by omega) (by omega) (rk_eqi_1 c_47))
          refine lv_iconst (v := 0) hx hb d_Pt_agrees_60 (by decide) ?_
          exact mw_zret J hr hlk rfl hP hS d_Pt_agrees_61 (⟨rfl, Or.inr ⟨rfl, hn⟩⟩)
        · have c_53 : (rk_dg k 1) = (rk_dg k 2) := (nI_eq (Nat.lt_trans (rk_dg_lt k 1) (by decide)) (Nat.lt_trans (rk_dg_lt k 2) (by decide))).mp c_53
          have g12 : rk_at P 1 = rk_at P 2 → rk_dg k 1 = rk_dg k 2 := fun _ => c_53
          refine lv_iconst (v := 1) hx hb d_Pt_agrees_56 (by decide) ?_
          refine lv_goto (tgt := 61) hx hb d_Pt_agrees_57 (by decide) ?_
          exact mw_zret J hr hlk rfl hP hS d_Pt_agrees_61 (⟨rfl, Or.inl ⟨rfl, rk_agP_of g01 g02 g12⟩⟩)
    · refine lv_iload_n hx hb d_Pt_agrees_37 rfl (lv_at hl 2 rfl) ?_
      refine lv_iload hx hb d_Pt_agrees_38 (lv_at hl 0 rfl) ?_
      refine lv_icmp_ne (tgt := 60) hx hb d_Pt_agrees_40 (by decide) (fun c_40 => ?_) (fun c_40 => ?_)
      · have c_40 : ¬ ((rk_dg k 0) = (rk_dg k 2)) := fun z => c_40 ((nI_eq (Nat.lt_trans (rk_dg_lt k 0) (by decide)) (Nat.lt_trans (rk_dg_lt k 2) (by decide))).mpr z)
        have hn : ¬ rk_agP P k := fun z => c_40 (z 0 2 (by omega) (by omega) (rk_eqi_1 c_34))
        refine lv_iconst (v := 0) hx hb d_Pt_agrees_60 (by decide) ?_
        exact mw_zret J hr hlk rfl hP hS d_Pt_agrees_61 (⟨rfl, Or.inr ⟨rfl, hn⟩⟩)
      · have c_40 : (rk_dg k 0) = (rk_dg k 2) := (nI_eq (Nat.lt_trans (rk_dg_lt k 0) (by decide)) (Nat.lt_trans (rk_dg_lt k 2) (by decide))).mp c_40
        have g02 : rk_at P 0 = rk_at P 2 → rk_dg k 0 = rk_dg k 2 := fun _ => c_40
        refine lv_aload_n hx hb d_Pt_agrees_43 rfl (lv_at hl 3 rfl) ?_
        refine mw_get (v := .int (rk_eqi P 1 2)) (ci := 2) (C := R_Pt) (T := T_Pt) (N := 8) J i_Pt hK hP h1 rfl 7 (by decide) (hts _ k_86) (fun _ h9 => h9) rfl d_Pt_agrees_44 ?_
        refine lv_if_eq (tgt := 56) hx hb d_Pt_agrees_47 (by decide) (fun c_47 => ?_) (fun c_47 => ?_)
        · have g12 : rk_at P 1 = rk_at P 2 → rk_dg k 1 = rk_dg k 2 := fun z => absurd z (rk_eqi_0 c_47)
          refine lv_iconst (v := 1) hx hb d_Pt_agrees_56 (by decide) ?_
          refine lv_goto (tgt := 61) hx hb d_Pt_agrees_57 (by decide) ?_
          exact mw_zret J hr hlk rfl hP hS d_Pt_agrees_61 (⟨rfl, Or.inl ⟨rfl, rk_agP_of g01 g02 g12⟩⟩)
        · refine lv_iload_n hx hb d_Pt_agrees_50 rfl (lv_at hl 1 rfl) ?_
          refine lv_iload hx hb d_Pt_agrees_51 (lv_at hl 0 rfl) ?_
          refine lv_icmp_ne (tgt := 60) hx hb d_Pt_agrees_53 (by decide) (fun c_53 => ?_) (fun c_53 => ?_)
          · have c_53 : ¬ ((rk_dg k 1) = (rk_dg k 2)) := fun z => c_53 ((nI_eq (Nat.lt_trans (rk_dg_lt k 1) (by decide)) (Nat.lt_trans (rk_dg_lt k 2) (by decide))).mpr z)
            have hn : ¬ rk_agP P k := fun z => c_53 (z 1 2 (by omega) (by omega) (rk_eqi_1 c_47))
            refine lv_iconst (v := 0) hx hb d_Pt_agrees_60 (by decide) ?_
            exact mw_zret J hr hlk rfl hP hS d_Pt_agrees_61 (⟨rfl, Or.inr ⟨rfl, hn⟩⟩)
          · have c_53 : (rk_dg k 1) = (rk_dg k 2) := (nI_eq (Nat.lt_trans (rk_dg_lt k 1) (by decide)) (Nat.lt_trans (rk_dg_lt k 2) (by decide))).mp c_53
            have g12 : rk_at P 1 = rk_at P 2 → rk_dg k 1 = rk_dg k 2 := fun _ => c_53
            refine lv_iconst (v := 1) hx hb d_Pt_agrees_56 (by decide) ?_
            refine lv_goto (tgt := 61) hx hb d_Pt_agrees_57 (by decide) ?_
            exact mw_zret J hr hlk rfl hP hS d_Pt_agrees_61 (⟨rfl, Or.inl ⟨rfl, rk_agP_of g01 g02 g12⟩⟩)
  · refine lv_iload_n hx hb d_Pt_agrees_25 rfl (lv_at hl 2 rfl) ?_
    refine lv_iload_n hx hb d_Pt_agrees_26 rfl (lv_at hl 1 rfl) ?_
    refine lv_icmp_ne (tgt := 60) hx hb d_Pt_agrees_27 (by decide) (fun c_27 => ?_) (fun c_27 => ?_)
    · have c_27 : ¬ ((rk_dg k 0) = (rk_dg k 1)) := fun z => c_27 ((nI_eq (Nat.lt_trans (rk_dg_lt k 0) (by decide)) (Nat.lt_trans (rk_dg_lt k 1) (by decide))).mpr z)
      have hn : ¬ rk_agP P k := fun z => c_27 (z 0 1 (by omega) (by omega) (rk_eqi_1 c_22))
      refine lv_iconst (v := 0) hx hb d_Pt_agrees_60 (by decide) ?_
      exact mw_zret J hr hlk rfl hP hS d_Pt_agrees_61 (⟨rfl, Or.inr ⟨rfl, hn⟩⟩)
    · have c_27 : (rk_dg k 0) = (rk_dg k 1) := (nI_eq (Nat.lt_trans (rk_dg_lt k 0) (by decide)) (Nat.lt_trans (rk_dg_lt k 1) (by decide))).mp c_27
      have g01 : rk_at P 0 = rk_at P 1 → rk_dg k 0 = rk_dg k 1 := fun _ => c_27
      refine lv_aload_n hx hb d_Pt_agrees_30 rfl (lv_at hl 3 rfl) ?_
      refine mw_get (v := .int (rk_eqi P 0 2)) (ci := 2) (C := R_Pt) (T := T_Pt) (N := 8) J i_Pt hK hP h1 rfl 6 (by decide) (hts _ k_85) (fun _ h9 => h9) rfl d_Pt_agrees_31 ?_
      refine lv_if_eq (tgt := 43) hx hb d_Pt_agrees_34 (by decide) (fun c_34 => ?_) (fun c_34 => ?_)
      · have g02 : rk_at P 0 = rk_at P 2 → rk_dg k 0 = rk_dg k 2 := fun z => absurd z (rk_eqi_0 c_34)
        refine lv_aload_n hx hb d_Pt_agrees_43 rfl (lv_at hl 3 rfl) ?_
        refine mw_get (v := .int (rk_eqi P 1 2)) (ci := 2) (C := R_Pt) (T := T_Pt) (N := 8) J i_Pt hK hP h1 rfl 7 (by decide) (hts _ k_86) (fun _ h9 => h9) rfl d_Pt_agrees_44 ?_
        refine lv_if_eq (tgt := 56) hx hb d_Pt_agrees_47 (by decide) (fun c_47 => ?_) (fun c_47 => ?_)
        · have g12 : rk_at P 1 = rk_at P 2 → rk_dg k 1 = rk_dg k 2 := fun z => absurd z (rk_eqi_0 c_47)
          refine lv_iconst (v := 1) hx hb d_Pt_agrees_56 (by decide) ?_
          refine lv_goto (tgt := 61) hx hb d_Pt_agrees_57 (by decide) ?_
          exact mw_zret J hr hlk rfl hP hS d_Pt_agrees_61 (⟨rfl, Or.inl ⟨rfl, rk_agP_of g01 g02 g12⟩⟩)
        · refine lv_iload_n hx hb d_Pt_agrees_50 rfl (lv_at hl 1 rfl) ?_
          refine lv_iload hx hb d_Pt_agrees_51 (lv_at hl 0 rfl) ?_
          refine lv_icmp_ne (tgt := 60) hx hb d_Pt_agrees_53 (by decide) (fun c_53 => ?_) (fun c_53 => ?_)
          · have c_53 : ¬ ((rk_dg k 1) = (rk_dg k 2)) := fun z => c_53 ((nI_eq (Nat.lt_trans (rk_dg_lt k 1) (by decide)) (Nat.lt_trans (rk_dg_lt k 2) (by decide))).mpr z)
            have hn : ¬ rk_agP P k := fun z => c_53 (z 1 2 (by omega) (by omega) (rk_eqi_1 c_47))
            refine lv_iconst (v := 0) hx hb d_Pt_agrees_60 (by decide) ?_
            exact mw_zret J hr hlk rfl hP hS d_Pt_agrees_61 (⟨rfl, Or.inr ⟨rfl, hn⟩⟩)
          · have c_53 : (rk_dg k 1) = (rk_dg k 2) := (nI_eq (Nat.lt_trans (rk_dg_lt k 1) (by decide)) (Nat.lt_trans (rk_dg_lt k 2) (by decide))).mp c_53
            have g12 : rk_at P 1 = rk_at P 2 → rk_dg k 1 = rk_dg k 2 := fun _ => c_53
            refine lv_iconst (v := 1) hx hb d_Pt_agrees_56 (by decide) ?_
            refine lv_goto (tgt := 61) hx hb d_Pt_agrees_57 (by decide) ?_
            exact mw_zret J hr hlk rfl hP hS d_Pt_agrees_61 (⟨rfl, Or.inl ⟨rfl, rk_agP_of g01 g02 g12⟩⟩)
      · refine lv_iload_n hx hb d_Pt_agrees_37 rfl (lv_at hl 2 rfl) ?_
        refine lv_iload hx hb d_Pt_agrees_38 (lv_at hl 0 rfl) ?_
        refine lv_icmp_ne (tgt := 60) hx hb d_Pt_agrees_40 (by decide) (fun c_40 => ?_) (fun c_40 => ?_)
        · have c_40 : ¬ ((rk_dg k 0) = (rk_dg k 2)) := fun z => c_40 ((nI_eq (Nat.lt_trans (rk_dg_lt k 0) (by decide)) (Nat.lt_trans (rk_dg_lt k 2) (by decide))).mpr z)
          have hn : ¬ rk_agP P k := fun z => c_40 (z 0 2 (by omega) (by omega) (rk_eqi_1 c_34))
          refine lv_iconst (v := 0) hx hb d_Pt_agrees_60 (by decide) ?_
          exact mw_zret J hr hlk rfl hP hS d_Pt_agrees_61 (⟨rfl, Or.inr ⟨rfl, hn⟩⟩)
        · have c_40 : (rk_dg k 0) = (rk_dg k 2) := (nI_eq (Nat.lt_trans (rk_dg_lt k 0) (by decide)) (Nat.lt_trans (rk_dg_lt k 2) (by decide))).mp c_40
          have g02 : rk_at P 0 = rk_at P 2 → rk_dg k 0 = rk_dg k 2 := fun _ => c_40
          refine lv_aload_n hx hb d_Pt_agrees_43 rfl (lv_at hl 3 rfl) ?_
          refine mw_get (v := .int (rk_eqi P 1 2)) (ci := 2) (C := R_Pt) (T := T_Pt) (N := 8) J i_Pt hK hP h1 rfl 7 (by decide) (hts _ k_86) (fun _ h9 => h9) rfl d_Pt_agrees_44 ?_
          refine lv_if_eq (tgt := 56) hx hb d_Pt_agrees_47 (by decide) (fun c_47 => ?_) (fun c_47 => ?_)
          · have g12 : rk_at P 1 = rk_at P 2 → rk_dg k 1 = rk_dg k 2 := fun z => absurd z (rk_eqi_0 c_47)
            refine lv_iconst (v := 1) hx hb d_Pt_agrees_56 (by decide) ?_
            refine lv_goto (tgt := 61) hx hb d_Pt_agrees_57 (by decide) ?_
            exact mw_zret J hr hlk rfl hP hS d_Pt_agrees_61 (⟨rfl, Or.inl ⟨rfl, rk_agP_of g01 g02 g12⟩⟩)
          · refine lv_iload_n hx hb d_Pt_agrees_50 rfl (lv_at hl 1 rfl) ?_
            refine lv_iload hx hb d_Pt_agrees_51 (lv_at hl 0 rfl) ?_
            refine lv_icmp_ne (tgt := 60) hx hb d_Pt_agrees_53 (by decide) (fun c_53 => ?_) (fun c_53 => ?_)
            · have c_53 : ¬ ((rk_dg k 1) = (rk_dg k 2)) := fun z => c_53 ((nI_eq (Nat.lt_trans (rk_dg_lt k 1) (by decide)) (Nat.lt_trans (rk_dg_lt k 2) (by decide))).mpr z)
              have hn : ¬ rk_agP P k := fun z => c_53 (z 1 2 (by omega) (by omega) (rk_eqi_1 c_47))
              refine lv_iconst (v := 0) hx hb d_Pt_agrees_60 (by decide) ?_
              exact mw_zret J hr hlk rfl hP hS d_Pt_agrees_61 (⟨rfl, Or.inr ⟨rfl, hn⟩⟩)
            · have c_53 : (rk_dg k 1) = (rk_dg k 2) := (nI_eq (Nat.lt_trans (rk_dg_lt k 1) (by decide)) (Nat.lt_trans (rk_dg_lt k 2) (by decide))).mp c_53
              have g12 : rk_at P 1 = rk_at P 2 → rk_dg k 1 = rk_dg k 2 := fun _ => c_53
              refine lv_iconst (v := 1) hx hb d_Pt_agrees_56 (by decide) ?_
              refine lv_goto (tgt := 61) hx hb d_Pt_agrees_57 (by decide) ?_
              exact mw_zret J hr hlk rfl hP hS d_Pt_agrees_61 (⟨rfl, Or.inl ⟨rfl, rk_agP_of g01 g02 g12⟩⟩)

set_option maxHeartbeats 4000000 in
set_option maxRecDepth 100000 in
theorem c_Pt_fits (l : Launch) (D : va_G) (cI cZ cP cR cC : ClassId) (tS : Nat) (sz : Nat) (M : mw_M) (a : Nat) (P : rk_Pt) (hp : k_pat cI M a P) (k : Nat) (hk : k < 32768) :
    Met l y_Pt_fits (.code y_Pt_fits b_Pt_fits 2 (some .boolean) :: gw) ({ frames := 1, cells := 0, slots := 0, locals := 24 }) (va_Pc [.ref a, .int (nI k)] (mw_B D k_cl (k_tys cI cZ cP cR cC) (k_g tS) M sz)) (va_Qi (fun (r : Int32) (M1 : mw_M) => M1 = M ∧ ((r = 1 ∧ rk_fits P k) ∨ (r = 0 ∧ ¬ rk_fits P k))) (mw_E D k_cl M sz) (mw_A M sz)) 0 0 (mw_A M sz) := by
  refine mw_met (by decide) rfl (Nat.le_of_ble_eq_true rfl) ?_
  intro p e s m below meth c hsz J hr hlk hnm hK hZ hP hS hA ls hl
  subst hsz
  have hx := J.1
  have hb := J.2.1
  have hts := J.2.2.2.2
  have hl : lv_has ls 2 [(0, .ref a), (1, .int (nI k))] := hl
  have hp0 := hp
  obtain ⟨hok, b, q, fb, fq, h1, h2, h3, hfb, hfq⟩ := hp
  refine lv_iload_n hx hb d_Pt_fits_0 rfl (lv_at hl 1 rfl) ?_
  refine lv_aload_n hx hb d_Pt_fits_1 rfl (lv_at hl 0 rfl) ?_
  refine mw_get (v := .int (nI (rk_m (rk_num P)))) (ci := 2) (C := R_Pt) (T := T_Pt) (N := 8) J i_Pt hK hP h1 rfl 3 (by decide) (hts _ k_78) (fun _ h9 => h9) rfl d_Pt_fits_2 ?_
  refine lv_iand hx hb d_Pt_fits_5 ?_
  refine mw_top (x' := nI (k &&& rk_m (rk_num P))) (nx_and _ _) ?_
  refine lv_aload_n hx hb d_Pt_fits_6 rfl (lv_at hl 0 rfl) ?_
  refine mw_get (v := .int (nI (rk_v (rk_num P) (rk_at P)))) (ci := 2) (C := R_Pt) (T := T_Pt) (N := 8) J i_Pt hK hP h1 rfl 4 (by decide) (hts _ k_81) (fun _ h9 => h9) rfl d_Pt_fits_7 ?_
  refine lv_icmp_ne (tgt := 25) hx hb d_Pt_fits_10 (by decide) (fun c_10 => ?_) (fun c_10 => ?_)
  · have c_10 : ¬ ((k &&& rk_m (rk_num P)) = (rk_v (rk_num P) (rk_at P))) := fun z => c_10 ((nI_eq (Nat.lt_of_le_of_lt Nat.and_le_left (by omega)) (Nat.lt_trans rk_num_lt (by decide))).mpr z)
    have hn : ¬ rk_fits P k := fun z => c_10 ((rk_fits_iff hk).mp z).1
    refine lv_iconst (v := 0) hx hb d_Pt_fits_25 (by decide) ?_
    exact mw_zret J hr hlk rfl hP hS d_Pt_fits_26 (⟨rfl, Or.inr ⟨rfl, hn⟩⟩)
  · have c_10 : (k &&& rk_m (rk_num P)) = (rk_v (rk_num P) (rk_at P)) := (nI_eq (Nat.lt_of_le_of_lt Nat.and_le_left (by omega)) (Nat.lt_trans rk_num_lt (by decide))).mp c_10
    refine lv_aload_n hx hb d_Pt_fits_13 rfl (lv_at hl 0 rfl) ?_
    refine lv_iload_n hx hb d_Pt_fits_14 rfl (lv_at hl 1 rfl) ?_
    refine mw_afterI hP hS hA (mw_runV (As := [.int (nI k)]) (rest := []) J hK hZ hP hS hA h1 rfl (c_Pt_agrees l D cI cZ cP cR cC tS _ M a P hp0 k hk) (cwV 1 hts (mw_gV k_239 k_240 k_241 k_6 k_242) rfl rfl rfl (by decide +kernel) ⟨Nat.le_of_ble_eq_true rfl, Nat.le_of_ble_eq_true rfl⟩) rfl hl.1 rfl (Nat.le_of_ble_eq_true rfl) d_Pt_fits_15 ⟨Nat.le_of_ble_eq_true rfl, Nat.le_of_ble_eq_true rfl⟩) (fun r M1 H locs hw hP hS => ?_)
    obtain ⟨rfl, hw⟩ := hw
    refine lv_if_eq (tgt := 25) hx hb d_Pt_fits_18 (by decide) (fun c_18 => ?_) (fun c_18 => ?_)
    · have hn : ¬ rk_fits P k := fun z => by
        rcases hw with ⟨h, _⟩ | ⟨_, h⟩
        · rw [h] at c_18
          exact absurd c_18 (by decide)
        · exact h ((rk_fits_iff hk).mp z).2
      refine lv_iconst (v := 0) hx hb d_Pt_fits_25 (by decide) ?_
      exact mw_zret J hr hlk rfl hP hS d_Pt_fits_26 (⟨rfl, Or.inr ⟨rfl, hn⟩⟩)
    · have hy : rk_fits P k := (rk_fits_iff hk).mpr ⟨c_10, by
        rcases hw with ⟨_, h⟩ | ⟨h, _⟩
        · exact h
        · exact absurd h c_18⟩
      refine lv_iconst (v := 1) hx hb d_Pt_fits_21 (by decide) ?_
      refine lv_goto (tgt := 26) hx hb d_Pt_fits_22 (by decide) ?_
      exact mw_zret J hr hlk rfl hP hS d_Pt_fits_26 (⟨rfl, Or.inl ⟨rfl, hy⟩⟩)

set_option maxHeartbeats 4000000 in
set_option maxRecDepth 100000 in
theorem c_Pt_maskOf (l : Launch) (D : va_G) (cI cZ cP cR cC : ClassId) (tS : Nat) (sz : Nat) (M : mw_M) (a : Nat) (P : rk_Pt) (hp : k_pat cI M a P) (S : Nat) (hS8 : S < 256) :
    Met l y_Pt_maskOf (.code y_Pt_maskOf b_Pt_maskOf 4 (some .int) :: gw) ({ frames := 0, cells := 0, slots := 0, locals := 0 }) (va_Pc [.ref a, .int (nI S)] (mw_B D k_cl (k_tys cI cZ cP cR cC) (k_g tS) M sz)) (va_Qi (fun (r : Int32) (M1 : mw_M) => M1 = M ∧ r = nI (rk_m (rk_ink P (rk_tb S)))) (mw_E D k_cl M sz) (mw_A M sz)) 0 0 (mw_A M sz) := by
  refine mw_met (by decide) rfl (Nat.le_of_ble_eq_true rfl) ?_
  intro p e s m below meth c hsz J hr hlk hnm hK hZ hP hS hA ls hl
  subst hsz
  have hx := J.1
  have hb := J.2.1
  have hts := J.2.2.2.2
  have hl : lv_has ls 4 [(0, .ref a), (1, .int (nI S))] := hl
  obtain ⟨hok, b, q, fb, fq, h1, h2, h3, hfb, hfq⟩ := hp
  refine lv_iconst (v := 0) hx hb d_Pt_maskOf_0 (by decide) ?_
  refine mw_top (x' := nI (rk_m (rk_upto (rk_ink P (rk_tb S)) 0))) (by rw [rk_m_0, nI_0]) ?_
  refine lv_istore_n (lv' := [(2, .int (nI (rk_m (rk_upto (rk_ink P (rk_tb S)) 0)))), (0, .ref a), (1, .int (nI S))]) hx hb d_Pt_maskOf_1 rfl hl (by decide) rfl (fun ls hl => ?_)
  refine lv_iconst (v := 0) hx hb d_Pt_maskOf_2 (by decide) ?_
  refine mw_top (x' := nI 0) nI_0.symm ?_
  refine lv_istore_n (lv' := [(3, .int (nI 0)), (2, .int (nI (rk_m (rk_upto (rk_ink P (rk_tb S)) 0)))), (0, .ref a), (1, .int (nI S))]) hx hb d_Pt_maskOf_3 rfl hl (by decide) rfl (fun ls hl => ?_)
  refine mw_loop (W' := fun H locs ls => W p l e _ s m _ below meth c H locs _ _ _ (F0 m 4 ls [])) 3 (fun i H locs ls => lv_has ls 4 [(0, .ref a), (1, .int (nI S)), (2, .int (nI (rk_m (rk_upto (rk_ink P (rk_tb S)) i)))), (3, .int (nI i))] ∧ mw_P D k_cl M (mw_A M s.heap.size) H ∧ va_S (mw_A M s.heap.size) s.heap H locs) ?_ 3 0 (by omega) (by omega) _ _ _ ⟨lv_sub hl [2, 3, 1, 0] rfl, hP, hS⟩
  intro i H locs ls hi_4 hI ih_4
  obtain ⟨hl, hP, hS⟩ := hI
  refine lv_iload_n hx hb d_Pt_maskOf_4 rfl (lv_at hl 3 rfl) ?_
  refine lv_iconst (v := 3) hx hb d_Pt_maskOf_5 (by decide) ?_
  refine mw_top (x' := nI 3) rfl ?_
  refine lv_icmp_ge (tgt := 37) hx hb d_Pt_maskOf_6 (by decide) (fun c_6 => ?_) (fun c_6 => ?_)
  · have c_6 : 3 ≤ i := (nI_leI (by omega) (by omega)).mp c_6
    refine lv_iload_n hx hb d_Pt_maskOf_37 rfl (lv_at hl 2 rfl) ?_
    exact mw_iret J hr hlk hP hS d_Pt_maskOf_38 (⟨rfl, by rw [show i = 3 by omega, rk_m_3]⟩)
  · have c_6 : ¬ (3 ≤ i) := fun z => c_6 ((nI_leI (by omega) (by omega)).mpr z)
    refine lv_aload_n hx hb d_Pt_maskOf_9 rfl (lv_at hl 0 rfl) ?_
    refine mw_get (v := .ref b) (ci := 2) (C := R_Pt) (T := T_Pt) (N := 8) J i_Pt hK hP h1 rfl 0 (by decide) (hts _ k_72) (fun _ h9 => h9) rfl d_Pt_maskOf_10 ?_
    refine lv_iload_n hx hb d_Pt_maskOf_13 rfl (lv_at hl 3 rfl) ?_
    refine mw_nald (k := i) J hK hP 0 h2 rfl (by omega) (by omega) d_Pt_maskOf_14 ?_
    refine lv_iload_n hx hb d_Pt_maskOf_15 rfl (lv_at hl 1 rfl) ?_
    refine lv_iand hx hb d_Pt_maskOf_16 ?_
    refine mw_top (x' := nI (rk_bits P i &&& S)) (by rw [hfb i (by omega), nx_and]) ?_
    refine lv_if_eq (tgt := 31) hx hb d_Pt_maskOf_17 (by decide) (fun c_17 => ?_) (fun c_17 => ?_)
    · have hf : rk_ink P (rk_tb S) i = false := rk_bits_and.mp ((rk_nI0 (Nat.lt_of_le_of_lt Nat.and_le_right (by omega))).mp c_17)
      refine lv_iinc (v := nI (i + 1)) (lv' := [(3, .int (nI (i + 1))), (0, .ref a), (1, .int (nI S)), (2, .int (nI (rk_m (rk_upto (rk_ink P (rk_tb S)) i))))]) hx hb d_Pt_maskOf_31 hl (k := 3) rfl (nI_1 i) (by decide) rfl (fun ls hl => ?_)
      refine lv_goto (tgt := 4) hx hb d_Pt_maskOf_34 (by decide) ?_
      exact ih_4 _ _ _ (by omega) ⟨(by rw [rk_m_skip hf]; exact lv_sub hl [1, 2, 3, 0] rfl), hP, hS⟩
    · have hf : rk_ink P (rk_tb S) i = true := by
        cases z : rk_ink P (rk_tb S) i
        · exact absurd ((rk_nI0 (Nat.lt_of_le_of_lt Nat.and_le_right (by omega))).mpr (rk_bits_and.mpr z)) c_17
        · rfl
      refine lv_iload_n hx hb d_Pt_maskOf_20 rfl (lv_at hl 2 rfl) ?_
      refine lv_bipush (v := 31) hx hb d_Pt_maskOf_21 (by decide) ?_
      refine mw_top (x' := nI 31) rfl ?_
      refine mw_getsN J hZ hS List.mem_cons_self List.mem_cons_self (fun _ h9 => h9) d_Pt_maskOf_23 ?_
      refine lv_iload_n hx hb d_Pt_maskOf_26 rfl (lv_at hl 3 rfl) ?_
      refine mw_ti (v := .int (rk_shift i)) J hZ hS List.mem_cons_self (vp_in_nI (by omega) (by omega)) (by rw [nI_clamp (by omega)]; rfl) d_Pt_maskOf_27 ?_
      refine lv_ishl hx hb d_Pt_maskOf_28 ?_
      refine mw_top (x' := nI (31 * 2 ^ (10 - 5 * i))) (rk_shl (by omega) (by omega)) ?_
      refine lv_ior hx hb d_Pt_maskOf_29 ?_
      refine mw_top (x' := nI (rk_m (rk_upto (rk_ink P (rk_tb S)) (i + 1)))) (by rw [nx_or, rk_m_step (by omega) hf]) ?_
      refine lv_istore_n (lv' := [(2, .int (nI (rk_m (rk_upto (rk_ink P (rk_tb S)) (i + 1))))), (0, .ref a), (1, .int (nI S)), (3, .int (nI i))]) hx hb d_Pt_maskOf_30 rfl hl (by decide) rfl (fun ls hl => ?_)
      refine lv_iinc (v := nI (i + 1)) (lv' := [(3, .int (nI (i + 1))), (2, .int (nI (rk_m (rk_upto (rk_ink P (rk_tb S)) (i + 1))))), (0, .ref a), (1, .int (nI S))]) hx hb d_Pt_maskOf_31 hl (k := 3) rfl (nI_1 i) (by decide) rfl (fun ls hl => ?_)
      refine lv_goto (tgt := 4) hx hb d_Pt_maskOf_34 (by decide) ?_
      exact ih_4 _ _ _ (by omega) ⟨lv_sub hl [2, 3, 1, 0] rfl, hP, hS⟩

set_option maxHeartbeats 4000000 in
set_option maxRecDepth 100000 in
theorem c_Pt_filled (l : Launch) (D : va_G) (cI cZ cP cR cC : ClassId) (tS : Nat) (sz : Nat) (M : mw_M) (a : Nat) (P : rk_Pt) (hp : k_pat cI M a P) (S : Nat) (hS8 : S < 256) (v : Nat) (u : Nat → Nat) (hu : rk_okV u) (hv : M v = some (.inl (cI, 8, .inl (rk_nf u)))) :
    Met l y_Pt_filled (.code y_Pt_filled b_Pt_filled 5 (some .int) :: gw) ({ frames := 0, cells := 0, slots := 0, locals := 0 }) (va_Pc [.ref a, .int (nI S), .ref v] (mw_B D k_cl (k_tys cI cZ cP cR cC) (k_g tS) M sz)) (va_Qi (fun (r : Int32) (M1 : mw_M) => M1 = M ∧ r = nI (rk_v (rk_ink P (rk_tb S)) (fun j => u (rk_at P j - 32)))) (mw_E D k_cl M sz) (mw_A M sz)) 0 0 (mw_A M sz) := by
  refine mw_met (by decide) rfl (Nat.le_of_ble_eq_true rfl) ?_
  intro p e s m below meth c hsz J hr hlk hnm hK hZ hP hS hA ls hl
  subst hsz
  have hx := J.1
  have hb := J.2.1
  have hts := J.2.2.2.2
  have hl : lv_has ls 5 [(0, .ref a), (1, .int (nI S)), (2, .ref v)] := hl
  obtain ⟨hok, b, q, fb, fq, h1, h2, h3, hfb, hfq⟩ := hp
  refine lv_iconst (v := 0) hx hb d_Pt_filled_0 (by decide) ?_
  refine mw_top (x' := nI (rk_v (rk_upto (rk_ink P (rk_tb S)) 0) (fun j => u (rk_at P j - 32)))) (by rw [rk_v_0, nI_0]) ?_
  refine lv_istore_n (lv' := [(3, .int (nI (rk_v (rk_upto (rk_ink P (rk_tb S)) 0) (fun j => u (rk_at P j - 32))))), (0, .ref a), (1, .int (nI S)), (2, .ref v)]) hx hb d_Pt_filled_1 rfl hl (by decide) rfl (fun ls hl => ?_)
  refine lv_iconst (v := 0) hx hb d_Pt_filled_2 (by decide) ?_
  refine mw_top (x' := nI 0) nI_0.symm ?_
  refine lv_istore (lv' := [(4, .int (nI 0)), (3, .int (nI (rk_v (rk_upto (rk_ink P (rk_tb S)) 0) (fun j => u (rk_at P j - 32))))), (0, .ref a), (1, .int (nI S)), (2, .ref v)]) hx hb d_Pt_filled_3 hl (by decide) rfl (fun ls hl => ?_)
  refine mw_loop (W' := fun H locs ls => W p l e _ s m _ below meth c H locs _ _ _ (F0 m 5 ls [])) 3 (fun i H locs ls => lv_has ls 5 [(0, .ref a), (1, .int (nI S)), (2, .ref v), (3, .int (nI (rk_v (rk_upto (rk_ink P (rk_tb S)) i) (fun j => u (rk_at P j - 32))))), (4, .int (nI i))] ∧ mw_P D k_cl M (mw_A M s.heap.size) H ∧ va_S (mw_A M s.heap.size) s.heap H locs) ?_ 3 0 (by omega) (by omega) _ _ _ ⟨lv_sub hl [2, 3, 4, 1, 0] rfl, hP, hS⟩
  intro i H locs ls hi_5 hI ih_5
  obtain ⟨hl, hP, hS⟩ := hI
  refine lv_iload hx hb d_Pt_filled_5 (lv_at hl 4 rfl) ?_
  refine lv_iconst (v := 3) hx hb d_Pt_filled_7 (by decide) ?_
  refine mw_top (x' := nI 3) rfl ?_
  refine lv_icmp_ge (tgt := 48) hx hb d_Pt_filled_8 (by decide) (fun c_8 => ?_) (fun c_8 => ?_)
  · have c_8 : 3 ≤ i := (nI_leI (by omega) (by omega)).mp c_8
    refine lv_iload_n hx hb d_Pt_filled_48 rfl (lv_at hl 3 rfl) ?_
    exact mw_iret J hr hlk hP hS d_Pt_filled_49 (⟨rfl, by rw [show i = 3 by omega, rk_v_3]⟩)
  · have c_8 : ¬ (3 ≤ i) := fun z => c_8 ((nI_leI (by omega) (by omega)).mpr z)
    refine lv_aload_n hx hb d_Pt_filled_11 rfl (lv_at hl 0 rfl) ?_
    refine mw_get (v := .ref b) (ci := 2) (C := R_Pt) (T := T_Pt) (N := 8) J i_Pt hK hP h1 rfl 0 (by decide) (hts _ k_72) (fun _ h9 => h9) rfl d_Pt_filled_12 ?_
    refine lv_iload hx hb d_Pt_filled_15 (lv_at hl 4 rfl) ?_
    refine mw_nald (k := i) J hK hP 0 h2 rfl (by omega) (by omega) d_Pt_filled_17 ?_
    refine lv_iload_n hx hb d_Pt_filled_18 rfl (lv_at hl 1 rfl) ?_
    refine lv_iand hx hb d_Pt_filled_19 ?_
    refine mw_top (x' := nI (rk_bits P i &&& S)) (by rw [hfb i (by omega), nx_and]) ?_
    refine lv_if_eq (tgt := 42) hx hb d_Pt_filled_20 (by decide) (fun c_20 => ?_) (fun c_20 => ?_)
    · have hf : rk_ink P (rk_tb S) i = false := rk_bits_and.mp ((rk_nI0 (Nat.lt_of_le_of_lt Nat.and_le_right (by omega))).mp c_20)
      refine lv_iinc (v := nI (i + 1)) (lv' := [(4, .int (nI (i + 1))), (0, .ref a), (1, .int (nI S)), (2, .ref v), (3, .int (nI (rk_v (rk_upto (rk_ink P (rk_tb S)) i) (fun j => u (rk_at P j - 32)))))]) hx hb d_Pt_filled_42 hl (k := 4) rfl (nI_1 i) (by decide) rfl (fun ls hl => ?_)
      refine lv_goto (tgt := 5) hx hb d_Pt_filled_45 (by decide) ?_
      exact ih_5 _ _ _ (by omega) ⟨(by rw [rk_v_skip hf]; exact lv_sub hl [1, 2, 3, 4, 0] rfl), hP, hS⟩
    · have hf : rk_ink P (rk_tb S) i = true := by
        cases z : rk_ink P (rk_tb S) i
        · exact absurd ((rk_nI0 (Nat.lt_of_le_of_lt Nat.and_le_right (by omega))).mpr (rk_bits_and.mpr z)) c_20
        · rfl
      have hsl : fq i = rk_at P i - 32 := by
        rw [hfq i (by omega)]
        unfold rk_slots
        rw [if_neg (by have := (rk_ink_spec hf).1; omega)]
      have hs8 : fq i < 8 := by
        rw [hfq i (by omega)]
        exact rk_slots_lt hok (by omega)
      refine lv_iload_n hx hb d_Pt_filled_23 rfl (lv_at hl 3 rfl) ?_
      refine lv_aload_n hx hb d_Pt_filled_24 rfl (lv_at hl 2 rfl) ?_
      refine lv_aload_n hx hb d_Pt_filled_25 rfl (lv_at hl 0 rfl) ?_
      refine mw_get (v := .ref q) (ci := 2) (C := R_Pt) (T := T_Pt) (N := 8) J i_Pt hK hP h1 rfl 1 (by decide) (hts _ k_73) (fun _ h9 => h9) rfl d_Pt_filled_26 ?_
      refine lv_iload hx hb d_Pt_filled_29 (lv_at hl 4 rfl) ?_
      refine mw_nald (k := i) J hK hP 0 h3 rfl (by omega) (by omega) d_Pt_filled_31 ?_
      refine mw_nald (k := (fq i)) J hK hP 0 hv rfl hs8 (by omega) d_Pt_filled_32 ?_
      refine mw_getsN J hZ hS List.mem_cons_self List.mem_cons_self (fun _ h9 => h9) d_Pt_filled_33 ?_
      refine lv_iload hx hb d_Pt_filled_36 (lv_at hl 4 rfl) ?_
      refine mw_ti (v := .int (rk_shift i)) J hZ hS List.mem_cons_self (vp_in_nI (by omega) (by omega)) (by rw [nI_clamp (by omega)]; rfl) d_Pt_filled_38 ?_
      refine lv_ishl hx hb d_Pt_filled_39 ?_
      refine mw_top (x' := nI (u (rk_at P i - 32) * 2 ^ (10 - 5 * i))) (by rw [hsl]; exact rk_shl (by omega) (hu _)) ?_
      refine lv_ior hx hb d_Pt_filled_40 ?_
      refine mw_top (x' := nI (rk_v (rk_upto (rk_ink P (rk_tb S)) (i + 1)) (fun j => u (rk_at P j - 32)))) (by rw [nx_or, rk_v_step (w := fun j => u (rk_at P j - 32)) (fun j _ _ => hu _) (by omega) hf]) ?_
      refine lv_istore_n (lv' := [(3, .int (nI (rk_v (rk_upto (rk_ink P (rk_tb S)) (i + 1)) (fun j => u (rk_at P j - 32))))), (0, .ref a), (1, .int (nI S)), (2, .ref v), (4, .int (nI i))]) hx hb d_Pt_filled_41 rfl hl (by decide) rfl (fun ls hl => ?_)
      refine lv_iinc (v := nI (i + 1)) (lv' := [(4, .int (nI (i + 1))), (3, .int (nI (rk_v (rk_upto (rk_ink P (rk_tb S)) (i + 1)) (fun j => u (rk_at P j - 32))))), (0, .ref a), (1, .int (nI S)), (2, .ref v)]) hx hb d_Pt_filled_42 hl (k := 4) rfl (nI_1 i) (by decide) rfl (fun ls hl => ?_)
      refine lv_goto (tgt := 5) hx hb d_Pt_filled_45 (by decide) ?_
      exact ih_5 _ _ _ (by omega) ⟨lv_sub hl [2, 3, 4, 1, 0] rfl, hP, hS⟩

set_option maxHeartbeats 4000000 in
set_option maxRecDepth 100000 in
theorem c_Pt_bind (l : Launch) (D : va_G) (cI cZ cP cR cC : ClassId) (tS : Nat) (sz : Nat) (M : mw_M) (a : Nat) (P : rk_Pt) (hp : k_pat cI M a P) (k : Nat) (hk : k < 32768) (S : Nat) (hS8 : S < 256) (v : Nat) (u : Nat → Nat) (hu : rk_okV u) (hv : M v = some (.inl (cI, 8, .inl (rk_nf u)))) :
    Met l y_Pt_bind (.code y_Pt_bind b_Pt_bind 5 none :: gw) ({ frames := 0, cells := 0, slots := 0, locals := 0 }) (va_Pc [.ref a, .int (nI k), .int (nI S), .ref v] (mw_B D k_cl (k_tys cI cZ cP cR cC) (k_g tS) M sz)) (va_Qv (fun (M1 : mw_M) => M1 = va_up M v (some (.inl (cI, 8, .inl (rk_nf (rk_bind P (rk_tb S) k u)))))) (mw_E D k_cl M sz) (mw_A M sz)) 0 0 (mw_A M sz) := by
  refine mw_met (by decide) rfl (Nat.le_of_ble_eq_true rfl) ?_
  intro p e s m below meth c hsz J hr hlk hnm hK hZ hP hS hA ls hl
  subst hsz
  have hx := J.1
  have hb := J.2.1
  have hts := J.2.2.2.2
  have hl : lv_has ls 5 [(0, .ref a), (1, .int (nI k)), (2, .int (nI S)), (3, .ref v)] := hl
  obtain ⟨hok, b, q, fb, fq, h1, h2, h3, hfb, hfq⟩ := hp
  have hva : v ≠ a := mw_ne hv h1 (by simp)
  have hvb : v ≠ b := mw_ne hv h2 (by simp)
  have hvq : v ≠ q := mw_ne hv h3 (by simp)
  have hP : mw_P D k_cl (va_up M v (some (.inl (cI, 8, .inl (rk_nf (rk_bindn P (rk_tb S) k u 0)))))) (mw_A M s.heap.size) s.heap := by
    rw [show va_up M v (some (.inl (cI, 8, .inl (rk_nf (rk_bindn P (rk_tb S) k u 0))))) = M from va_up_id hv]
    exact hP
  refine lv_iconst (v := 0) hx hb d_Pt_bind_0 (by decide) ?_
  refine mw_top (x' := nI 0) nI_0.symm ?_
  refine lv_istore (lv' := [(4, .int (nI 0)), (0, .ref a), (1, .int (nI k)), (2, .int (nI S)), (3, .ref v)]) hx hb d_Pt_bind_1 hl (by decide) rfl (fun ls hl => ?_)
  refine mw_loop (W' := fun H locs ls => W p l e _ s m _ below meth c H locs _ _ _ (F0 m 3 ls [])) 3 (fun i H locs ls => lv_has ls 5 [(0, .ref a), (1, .int (nI k)), (2, .int (nI S)), (3, .ref v), (4, .int (nI i))] ∧ mw_P D k_cl (va_up M v (some (.inl (cI, 8, .inl (rk_nf (rk_bindn P (rk_tb S) k u i)))))) (mw_A M s.heap.size) H ∧ va_S (mw_A M s.heap.size) s.heap H locs) ?_ 3 0 (by omega) (by omega) _ _ _ ⟨lv_sub hl [1, 2, 3, 4, 0] rfl, hP, hS⟩
  intro i H locs ls hi_3 hI ih_3
  obtain ⟨hl, hP, hS⟩ := hI
  refine lv_iload hx hb d_Pt_bind_3 (lv_at hl 4 rfl) ?_
  refine lv_iconst (v := 3) hx hb d_Pt_bind_5 (by decide) ?_
  refine mw_top (x' := nI 3) rfl ?_
  refine lv_icmp_ge (tgt := 47) hx hb d_Pt_bind_6 (by decide) (fun c_6 => ?_) (fun c_6 => ?_)
  · have c_6 : 3 ≤ i := (nI_leI (by omega) (by omega)).mp c_6
    exact mw_vret J hr hlk hP hS d_Pt_bind_47 (by rw [show i = 3 by omega]; rfl)
  · have c_6 : ¬ (3 ≤ i) := fun z => c_6 ((nI_leI (by omega) (by omega)).mpr z)
    refine lv_aload_n hx hb d_Pt_bind_9 rfl (lv_at hl 0 rfl) ?_
    refine mw_get (v := .ref b) (ci := 2) (C := R_Pt) (T := T_Pt) (N := 8) J i_Pt hK hP ((va_up_ne _ _ (Ne.symm hva)).trans h1) rfl 0 (by decide) (hts _ k_72) (fun _ h9 => h9) rfl d_Pt_bind_10 ?_
    refine lv_iload hx hb d_Pt_bind_13 (lv_at hl 4 rfl) ?_
    refine mw_nald (k := i) J hK hP 0 ((va_up_ne _ _ (Ne.symm hvb)).trans h2) rfl (by omega) (by omega) d_Pt_bind_15 ?_
    refine lv_iload_n hx hb d_Pt_bind_16 rfl (lv_at hl 2 rfl) ?_
    refine lv_iand hx hb d_Pt_bind_17 ?_
    refine mw_top (x' := nI (rk_bits P i &&& S)) (by rw [hfb i (by omega), nx_and]) ?_
    refine lv_if_eq (tgt := 41) hx hb d_Pt_bind_18 (by decide) (fun c_18 => ?_) (fun c_18 => ?_)
    · have hf : rk_ink P (rk_tb S) i = false := rk_bits_and.mp ((rk_nI0 (Nat.lt_of_le_of_lt Nat.and_le_right (by omega))).mp c_18)
      rw [show rk_bindn P (rk_tb S) k u i = rk_bindn P (rk_tb S) k u (i + 1) from (if_neg (by rw [hf]; decide)).symm] at hP
      refine lv_iinc (v := nI (i + 1)) (lv' := [(4, .int (nI (i + 1))), (0, .ref a), (1, .int (nI k)), (2, .int (nI S)), (3, .ref v)]) hx hb d_Pt_bind_41 hl (k := 4) rfl (nI_1 i) (by decide) rfl (fun ls hl => ?_)
      refine lv_goto (tgt := 3) hx hb d_Pt_bind_44 (by decide) ?_
      exact ih_3 _ _ _ (by omega) ⟨lv_sub hl [1, 2, 3, 4, 0] rfl, hP, hS⟩
    · have hf : rk_ink P (rk_tb S) i = true := by
        cases z : rk_ink P (rk_tb S) i
        · exact absurd ((rk_nI0 (Nat.lt_of_le_of_lt Nat.and_le_right (by omega))).mpr (rk_bits_and.mpr z)) c_18
        · rfl
      have hsl : fq i = rk_at P i - 32 := by
        rw [hfq i (by omega)]
        unfold rk_slots
        rw [if_neg (by have := (rk_ink_spec hf).1; omega)]
      have hs8 : fq i < 8 := by
        rw [hfq i (by omega)]
        exact rk_slots_lt hok (by omega)
      refine lv_aload_n hx hb d_Pt_bind_21 rfl (lv_at hl 3 rfl) ?_
      refine lv_aload_n hx hb d_Pt_bind_22 rfl (lv_at hl 0 rfl) ?_
      refine mw_get (v := .ref q) (ci := 2) (C := R_Pt) (T := T_Pt) (N := 8) J i_Pt hK hP ((va_up_ne _ _ (Ne.symm hva)).trans h1) rfl 1 (by decide) (hts _ k_73) (fun _ h9 => h9) rfl d_Pt_bind_23 ?_
      refine lv_iload hx hb d_Pt_bind_26 (lv_at hl 4 rfl) ?_
      refine mw_nald (k := i) J hK hP 0 ((va_up_ne _ _ (Ne.symm hvq)).trans h3) rfl (by omega) (by omega) d_Pt_bind_28 ?_
      refine lv_iload_n hx hb d_Pt_bind_29 rfl (lv_at hl 1 rfl) ?_
      refine mw_getsN J hZ hS List.mem_cons_self List.mem_cons_self (fun _ h9 => h9) d_Pt_bind_30 ?_
      refine lv_iload hx hb d_Pt_bind_33 (lv_at hl 4 rfl) ?_
      refine mw_ti (v := .int (rk_shift i)) J hZ hS List.mem_cons_self (vp_in_nI (by omega) (by omega)) (by rw [nI_clamp (by omega)]; rfl) d_Pt_bind_35 ?_
      refine lv_ishr hx hb d_Pt_bind_36 ?_
      refine mw_top (x' := nI (k / 2 ^ (10 - 5 * i))) (rk_shr (by omega) hk) ?_
      refine lv_bipush (v := 31) hx hb d_Pt_bind_37 (by decide) ?_
      refine lv_iand hx hb d_Pt_bind_39 ?_
      refine mw_top (x' := nI (rk_dg k i)) (rk_and31 (Nat.lt_of_le_of_lt (Nat.div_le_self _ _) (by omega))) ?_
      refine mw_nast (k := (fq i)) (x := (rk_dg k i)) J hK hP hS 0 (va_up_self _ _ _) rfl hs8 (by omega) d_Pt_bind_40 (fun H locs hP hS => ?_)
      have hP : mw_P D k_cl (va_up (va_up M v (some (.inl (cI, 8, .inl (rk_nf (rk_bindn P (rk_tb S) k u i)))))) v (some (.inl (cI, 8, .inl (rk_nf (va_up (rk_bindn P (rk_tb S) k u i) (fq i) (rk_dg k i))))))) _ H := hP
      rw [va_uu] at hP
      rw [show va_up (rk_bindn P (rk_tb S) k u i) (fq i) (rk_dg k i) = rk_bindn P (rk_tb S) k u (i + 1) from by rw [hsl]; exact (if_pos hf).symm] at hP
      refine lv_iinc (v := nI (i + 1)) (lv' := [(4, .int (nI (i + 1))), (0, .ref a), (1, .int (nI k)), (2, .int (nI S)), (3, .ref v)]) hx hb d_Pt_bind_41 hl (k := 4) rfl (nI_1 i) (by decide) rfl (fun ls hl => ?_)
      refine lv_goto (tgt := 3) hx hb d_Pt_bind_44 (by decide) ?_
      exact ih_3 _ _ _ (by omega) ⟨lv_sub hl [1, 2, 3, 4, 0] rfl, hP, hS⟩
