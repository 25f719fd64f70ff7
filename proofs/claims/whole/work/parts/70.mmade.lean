/-! the reference: is the draft a rule; rules come and go -/
def rk_hc (dr : List rk_Pt) (a : Nat) : Prop := rk_at (rk_dn dr (dr.length - 1)) a < 32 ∨ ∃ q, q < dr.length - 1 ∧ ∃ b, b < 3 ∧ rk_at (rk_dn dr q) b = rk_at (rk_dn dr (dr.length - 1)) a
theorem rk_hc_ok {dr : List rk_Pt} (h2 : 2 ≤ dr.length) : rk_mkok dr ↔ ∀ a, a < 3 → rk_hc dr a := by
  constructor
  · intro h a ha
    by_cases e : rk_at (rk_dn dr (dr.length - 1)) a < 32
    · exact Or.inl e
    · obtain ⟨j, hj, b, hb, eb⟩ := h.2 (rk_at (rk_dn dr (dr.length - 1)) a - 32) ⟨a, ha, by omega⟩
      exact Or.inr ⟨j, hj, b, hb, by omega⟩
  · intro h
    refine ⟨h2, fun x ⟨a, ha, e⟩ => ?_⟩
    rcases h a ha with g | ⟨q, hq, b, hb, eb⟩
    · omega
    · exact ⟨q, hq, b, hb, by omega⟩
theorem rk_hc_no {dr : List rk_Pt} {df : Nat → Int32} {a : Nat} (hd : dr.length ≤ 4) (h2 : 2 ≤ dr.length) (hdf : ∀ i, i < dr.length → m_pt df (3 * i) (rk_dn dr i)) (ha : a < 3) (hv : ¬ rk_at (rk_dn dr (dr.length - 1)) a < 32) (h : ∀ j, j < 3 * (dr.length - 1) → df j ≠ rk_iv (rk_at (rk_dn dr (dr.length - 1)) a)) : ¬ rk_hc dr a := by
  rintro (g | ⟨q, hq, b, hb, eb⟩)
  · exact hv g
  · exact h (3 * q + b) (by omega) (by rw [(hdf q (by omega)).2 b hb, eb])
theorem rk_hc_yes {dr : List rk_Pt} {df : Nat → Int32} {a j : Nat} (h2 : 2 ≤ dr.length) (hdf : ∀ i, i < dr.length → m_pt df (3 * i) (rk_dn dr i)) (ha : a < 3) (hj : j < 3 * (dr.length - 1)) (h : df j = rk_iv (rk_at (rk_dn dr (dr.length - 1)) a)) : rk_hc dr a := by
  have hq : j / 3 < dr.length - 1 := by omega
  have h1 := (hdf (j / 3) (by omega)).2 (j % 3) (by omega)
  rw [show 3 * (j / 3) + j % 3 = j by omega, h] at h1
  exact Or.inr ⟨j / 3, hq, j % 3, by omega, ((rk_iv_inj _ ((hdf _ (by omega)).1 a ha) _ ((hdf _ (by omega)).1 _ (by omega))).mp h1).symm⟩
theorem m_rul_app {it itx : Nat → Int32} {bd : Nat → Nat} {rs : List rk_Ru} {dr : List rk_Pt} {df : Nat → Int32} (h : m_rul it bd rs) (hr : rs.length < 12) (hd4 : dr.length ≤ 4) (hdf : ∀ i, i < dr.length → m_pt df (3 * i) (rk_dn dr i)) (hok : rk_mkok dr) (h1 : ∀ j, j < 12 * rs.length → itx j = it j) (h2 : ∀ j, j < 3 * dr.length → itx (12 * rs.length + j) = df j) : m_rul itx (va_up bd rs.length (dr.length - 1)) (rs ++ [rk_mk dr]) ∧ m_rul itx (va_up bd rs.length (dr.length - 1)) rs := by
  have hold : ∀ k, k < rs.length → rk_okR (rk_rth rs k) ∧ va_up bd rs.length (dr.length - 1) k = (rk_rth rs k).1.length ∧ (∀ j, j < (rk_rth rs k).1.length → m_pt itx (12 * k + 3 * j) (rk_nth (rk_rth rs k) j)) ∧ m_pt itx (12 * k + 3 * (rk_rth rs k).1.length) (rk_rth rs k).2 := fun k hk => by
    obtain ⟨g1, g2, g3, g4⟩ := h.2 k hk
    have g5 := g1.2.1
    exact ⟨g1, (va_up_ne _ _ (by omega)).trans g2, fun j hj => m_pt_s (g3 j hj) (fun i hi => h1 _ (by omega)), m_pt_s g4 (fun i hi => h1 _ (by omega))⟩
  refine ⟨⟨by rw [List.length_append]; exact hr, fun k hk => ?_⟩, by omega, hold⟩
  rw [List.length_append] at hk
  have hk : k < rs.length + 1 := hk
  by_cases e : k = rs.length
  · subst e
    have h4 := hok.1
    rw [rk_rth_last, rk_mk_len]
    refine ⟨rk_mk_ok hd4 (fun i hi => (hdf i hi).1) hok, va_up_self _ _ _, fun j hj => ?_, m_pt_s (hdf (dr.length - 1) (by omega)) (fun i hi => ?_)⟩
    · rw [rk_mk_nth hj]
      refine m_pt_s (hdf j (by omega)) (fun i hi => ?_)
      rw [Nat.add_assoc]
      exact h2 _ (by omega)
    · rw [Nat.add_assoc]
      exact h2 _ (by omega)
  · rw [rk_rth_app (by omega)]
    exact hold k (by omega)
def rk_sh (kk j q : Nat) : Nat := if kk ≤ q ∧ q < j then q + 1 else q
theorem m_rul_erase {it itx : Nat → Int32} {bd bdx : Nat → Nat} {rs : List rk_Ru} {kk : Nat} (h : m_rul it bd rs) (hk : kk < rs.length) (h1 : ∀ q, q < rs.length → bdx q = bd (rk_sh kk (rs.length - 1) q)) (h2 : ∀ q i, q < rs.length → i < 12 → itx (12 * q + i) = it (12 * rk_sh kk (rs.length - 1) q + i)) : m_rul itx bdx (rs.eraseIdx kk) := by
  have hl : (rs.eraseIdx kk).length = rs.length - 1 := List.length_eraseIdx_of_lt hk
  refine ⟨by rw [hl]; have := h.1; omega, fun q hq => ?_⟩
  rw [hl] at hq
  have e : rk_rth (rs.eraseIdx kk) q = rk_rth rs (rk_sh kk (rs.length - 1) q) := by
    rw [rk_rth_erase]
    unfold rk_sh
    by_cases g : q < kk
    · rw [if_pos g, if_neg (by omega)]
    · rw [if_neg g, if_pos (by omega)]
  have hs : rk_sh kk (rs.length - 1) q < rs.length := by
    unfold rk_sh
    split <;> omega
  rw [e]
  obtain ⟨g1, g2, g3, g4⟩ := h.2 _ hs
  have g5 := g1.2.1
  refine ⟨g1, (h1 q (by omega)).trans g2, fun j hj => m_pt_s (g3 j hj) (fun i hi => ?_), m_pt_s g4 (fun i hi => ?_)⟩
  · rw [Nat.add_assoc, Nat.add_assoc]
    exact h2 q _ (by omega) (by omega)
  · rw [Nat.add_assoc, Nat.add_assoc]
    exact h2 q _ (by omega) (by omega)
theorem rk_much_rs {S : Nat → Bool} {rs rs' : List rk_Ru} (h : ∀ r, r ∈ rs → r ∈ rs') (hm : rk_much S rs) : rk_much S rs' := by
  obtain ⟨L, h1, h2, h3⟩ := hm
  exact ⟨L, h1, h2, fun k hk => rk_lfp_mono (fun _ g => g) h (h3 k hk)⟩
theorem rk_sh_0 (kk q : Nat) : rk_sh kk kk q = q := if_neg (by omega)
theorem rk_sh_s {kk j q : Nat} (h : q ≠ j) : rk_sh kk (j + 1) q = rk_sh kk j q := by
  unfold rk_sh
  by_cases e : kk ≤ q ∧ q < j
  · rw [if_pos e, if_pos (by omega)]
  · rw [if_neg e, if_neg (by omega)]
theorem rk_sh_at {kk j : Nat} (h : kk ≤ j) : rk_sh kk (j + 1) j = j + 1 := if_pos (by omega)
theorem rk_sh_ge {kk j q : Nat} (h : j ≤ q) : rk_sh kk j q = q := if_neg (by omega)
theorem m_start {cI cZ : ClassId} {M M1 : mw_M} {ad : Nat → Nat} {ns : List Nat} (l : List Nat) (hl : ∀ i, i < 12 → i ∈ l) (hgr : mw_gr M M1 (ad 0) ns) (hn : ad 0 :: ns = l.map ad)
    (h0 : M1 (ad 0) = some (m_0 ad 0 0 0)) (h1 : M1 (ad 1) = some (.inl (cZ, 32768, .inl (rk_bf (fun _ => false))))) (h2 : M1 (ad 2) = some (.inl (cZ, 32768, .inl (rk_bf (fun _ => false))))) (h3 : M1 (ad 3) = some (.inl (cI, 32768, .inl (rk_nf (fun _ => 0))))) (h4 : M1 (ad 4) = some (.inl (cI, 301, .inl (rk_nf (fun _ => 0))))) (h5 : M1 (ad 5) = some (.inl (cI, 156, .inl (fun _ => 0)))) (h6 : M1 (ad 6) = some (.inl (cI, 13, .inl (rk_nf (fun _ => 0))))) (h7 : M1 (ad 7) = some (.inl (cI, 12, .inl (fun _ => 0)))) (h8 : M1 (ad 8) = some (.inl (cI, 9, .inl (rk_nf (fun _ => 0))))) (h9 : M1 (ad 9) = some (.inl (cI, 9, .inl (rk_nf (fun _ => 0))))) (h10 : M1 (ad 10) = some (.inl (cI, 3, .inl (fun _ => 0)))) (h11 : M1 (ad 11) = some (.inl (cI, 3, .inl (fun _ => 0)))) :
    ∃ B, (∀ q e, va_up M (ad 0) none q = some e → B q = some e) ∧ m_ks cI cZ B ad (fun _ => false) [] [] M1 := by
  have hin : ∀ i, i < 12 → ad i ∈ ad 0 :: ns := fun i hi => by rw [hn]; exact List.mem_map.mpr ⟨i, hl i hi, rfl⟩
  have hj : mw_inj ad 12 := fun i j hi hj e => mw_gr_inj (by rw [← hn]; exact hgr.2.1) i (hl i hi) j (hl j hj) e
  let cw : Nat → va_E := fun i => (M1 (ad i)).getD (.inr (0, []))
  have hcw : ∀ i x, M1 (ad i) = some x → cw i = x := fun i x h => by show (M1 (ad i)).getD _ = x; rw [h]; rfl
  have hall : ∀ i, i < 12 → M1 (ad i) = some (cw i) := fun i hi => by
    obtain ⟨e, he⟩ := hgr.2.2 _ (hin i (by omega))
    rw [he, hcw i e he]
  refine ⟨mw_rm M1 ad 12, fun q e hq => ?_, cw, [], (mw_rm_ov hj hall).symm, ⟨hj, fun i hi => mw_rm_at hi⟩, ⟨hcw 1 _ h1, ⟨hcw 0 _ h0, ⟨_, hcw 4 _ h4, fun i hi => absurd hi (Nat.not_lt_zero i)⟩, ⟨_, hcw 2 _ h2, fun k hk => by simp⟩, Nat.zero_le _, List.nodup_nil, fun k hk => absurd hk List.not_mem_nil⟩, ⟨_, hcw 3 _ h3, fun c hc => rfl⟩, ⟨_, _, hcw 5 _ h5, hcw 6 _ h6, Nat.zero_le _, fun k hk => absurd hk (Nat.not_lt_zero k)⟩, ⟨Nat.zero_le _, _, hcw 7 _ h7, fun i hi => absurd hi (Nat.not_lt_zero i)⟩, ⟨⟨_, hcw 8 _ h8, fun i => (by show 0 < 32; decide)⟩, ⟨_, hcw 9 _ h9⟩, _, hcw 10 _ h10⟩, _, hcw 11 _ h11⟩, rk_empty_holds (fun r hr => absurd hr List.not_mem_nil), fun j hj => by cases hj⟩
  have hne : q ≠ ad 0 := fun g => by rw [g, va_up_self] at hq; cases hq
  rw [va_up_ne _ _ hne] at hq
  obtain ⟨g1, g2⟩ := hgr.1 q e hne hq
  rw [mw_rm_off (fun i hi g => ?_), g2]
  have := hin i (by omega)
  rw [g] at this
  exact (List.mem_cons.mp this).elim hne g1
