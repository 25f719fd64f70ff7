/-! arguments: triples and patterns among ints; the keeper's state -/
def rk_isn (x : Int32) : Prop := ∃ n, n < 32 ∧ x = nI n
def rk_tri (a b c : Int32) (k : Nat) : Prop := ∃ i j l, i < 32 ∧ j < 32 ∧ l < 32 ∧ a = nI i ∧ b = nI j ∧ c = nI l ∧ k = rk_pk i j l
def rk_isi (x : Int32) : Prop := ∃ n, n < 40 ∧ x = rk_iv n
def rk_pti (a b c : Int32) (P : rk_Pt) : Prop := rk_okP P ∧ a = rk_iv (rk_at P 0) ∧ b = rk_iv (rk_at P 1) ∧ c = rk_iv (rk_at P 2)
theorem rk_isn_of {x : Int32} (h1 : ¬ x < 0) (h2 : ¬ (32 : Int32) ≤ x) : rk_isn x := by
  rcases pk_ix x (n := 32) (by decide) with z | z | ⟨j, h, e⟩
  · exact absurd z h1
  · exact absurd z h2
  · exact ⟨j, h, e⟩
theorem rk_isn_lo {x : Int32} (h : x < 0) : ¬ rk_isn x := fun ⟨n, hn, e⟩ => absurd h (by rw [e]; exact nI_pos (by omega))
theorem rk_isn_hi {x : Int32} (h : (32 : Int32) ≤ x) : ¬ rk_isn x := fun ⟨n, hn, e⟩ => by
  rw [e] at h
  have := (nI_leI (a := 32) (by decide) (by omega)).mp h
  omega
theorem rk_tri_of {a b c : Int32} (h1 : rk_isn a) (h2 : rk_isn b) (h3 : rk_isn c) : ∃ k, rk_tri a b c k := by
  obtain ⟨i, hi, e1⟩ := h1
  obtain ⟨j, hj, e2⟩ := h2
  obtain ⟨l, hl, e3⟩ := h3
  exact ⟨_, i, j, l, hi, hj, hl, e1, e2, e3, rfl⟩
theorem rk_tri_1 {a b c : Int32} {k : Nat} (h : rk_tri a b c k) : rk_isn a ∧ rk_isn b ∧ rk_isn c := by
  obtain ⟨i, j, l, hi, hj, hl, e1, e2, e3, -⟩ := h
  exact ⟨⟨i, hi, e1⟩, ⟨j, hj, e2⟩, ⟨l, hl, e3⟩⟩
theorem rk_tri_lt {a b c : Int32} {k : Nat} (h : rk_tri a b c k) : k < 32768 := by
  obtain ⟨i, j, l, hi, hj, hl, -, -, -, e⟩ := h
  rw [e]
  exact rk_pk_lt hi hj hl
theorem rk_tri_u {a b c : Int32} {k k' : Nat} (h : rk_tri a b c k) (h' : rk_tri a b c k') : k = k' := by
  obtain ⟨i, j, l, hi, hj, hl, e1, e2, e3, e⟩ := h
  obtain ⟨i', j', l', hi', hj', hl', f1, f2, f3, f⟩ := h'
  have g1 := (nI_eq (by omega) (by omega)).mp (e1.symm.trans f1)
  have g2 := (nI_eq (by omega) (by omega)).mp (e2.symm.trans f2)
  have g3 := (nI_eq (by omega) (by omega)).mp (e3.symm.trans f3)
  rw [e, f, g1, g2, g3]
theorem rk_isi_of {x : Int32} (h1 : ¬ x < -8) (h2 : ¬ (32 : Int32) ≤ x) : rk_isi x := by
  refine rk_item h1 ?_
  rw [Int32.lt_iff_toInt_lt]
  rw [Int32.le_iff_toInt_le] at h2
  omega
theorem rk_isi_lo {x : Int32} (h : x < -8) : ¬ rk_isi x := fun ⟨n, hn, e⟩ => absurd h (by rw [e]; exact (rk_iv_ok n hn).1)
theorem rk_isi_hi {x : Int32} (h : (32 : Int32) ≤ x) : ¬ rk_isi x := fun ⟨n, hn, e⟩ => by
  have h2 := (rk_iv_ok n hn).2
  rw [← e, Int32.lt_iff_toInt_lt] at h2
  rw [Int32.le_iff_toInt_le] at h
  omega
theorem rk_pti_of {a b c : Int32} (h1 : rk_isi a) (h2 : rk_isi b) (h3 : rk_isi c) : ∃ P, rk_pti a b c P := by
  obtain ⟨i, hi, e1⟩ := h1
  obtain ⟨j, hj, e2⟩ := h2
  obtain ⟨l, hl, e3⟩ := h3
  exact ⟨(i, j, l), rk_j3 hi hj hl, e1, e2, e3⟩
theorem rk_pti_1 {a b c : Int32} {P : rk_Pt} (h : rk_pti a b c P) : rk_isi a ∧ rk_isi b ∧ rk_isi c :=
  ⟨⟨_, h.1 0 (by decide), h.2.1⟩, ⟨_, h.1 1 (by decide), h.2.2.1⟩, ⟨_, h.1 2 (by decide), h.2.2.2⟩⟩
theorem rk_pti_u {a b c : Int32} {P P' : rk_Pt} (h : rk_pti a b c P) (h' : rk_pti a b c P') : P = P' := by
  obtain ⟨i, j, l⟩ := P
  obtain ⟨i', j', l'⟩ := P'
  have g1 : i = i' := (rk_iv_inj _ (h.1 0 (by decide)) _ (h'.1 0 (by decide))).mp (h.2.1.symm.trans h'.2.1)
  have g2 : j = j' := (rk_iv_inj _ (h.1 1 (by decide)) _ (h'.1 1 (by decide))).mp (h.2.2.1.symm.trans h'.2.2.1)
  have g3 : l = l' := (rk_iv_inj _ (h.1 2 (by decide)) _ (h'.1 2 (by decide))).mp (h.2.2.2.symm.trans h'.2.2.2)
  rw [g1, g2, g3]
def k_dr (cI cP : ClassId) (B : mw_M) (cw : Nat → va_E) (dr : List rk_Pt) : Prop :=
  dr.length ≤ 4 ∧ ∃ fd : Nat → Option Nat, cw 7 = .inl (cP, 4, .inr (.inr (.inr (.inr fd)))) ∧ ∀ i, i < dr.length → ∃ a, fd i = some a ∧ k_pat cI B a (dr.getD i (0, 0, 0))
def k_said (cI : ClassId) (cw : Nat → va_E) (said : Nat → Bool) : Prop := ∃ ws, cw 5 = .inl (cI, 1024, .inl ws) ∧ rk_W ws said
/-- the keeper's cells -/
def k_kp (cI cP cR cC : ClassId) (B : mw_M) (ad : Nat → Nat) (cw : Nat → va_E) (pm sm ca : Nat) (said : Nat → Bool) (rs : List rk_Ru) (dr : List rk_Pt) (L : List Nat) : Prop :=
  cw 0 = k_k0 ad sm rs.length dr.length ∧ k_tr cI ad cw pm L ∧ (∃ cc u, k_sv cI cC B ad cw ca cc u) ∧ (∀ d, d < 3 → k_blank cI ad cw d) ∧ k_said cI cw said ∧ k_made cI cP cR B cw rs ∧ k_dr cI cP B cw dr
def k_fz (B : mw_M) (ad : Nat → Nat) (pm sm : Nat) : Prop := B pm = some (.inr (0, [.ref (ad 4)])) ∧ B sm = some (.inr (0, [.ref (ad 5)]))
/-- every case of the rules in L has its head in L -/
def rk_clo (rs : List rk_Ru) (L : List Nat) : Prop := ∀ i, i < rs.length → ∀ v, rk_case (rk_rth rs i) (· ∈ L) v → rk_inst (rk_rth rs i).2 v ∈ L
def rk_many (L : List Nat) (rs : List rk_Ru) : Prop := ∃ K : List Nat, K.Nodup ∧ 300 < K.length ∧ ∀ z, z ∈ K → rk_gen L rs z
theorem rk_many_of {L K : List Nat} {rs : List rk_Ru} {z : Nat} (hn : K.Nodup) (h3 : K.length = 300) (hg : ∀ k, k ∈ K → rk_gen L rs k) (hz : z ∉ K) (hgz : rk_gen L rs z) : rk_many L rs :=
  ⟨K ++ [z], List.nodup_append.mpr ⟨hn, by simp, fun a ha b hb e => hz (by rw [← List.mem_singleton.mp hb, ← e]; exact ha)⟩, by rw [List.length_append, h3]; exact Nat.lt_succ_self 300, fun k hk => (List.mem_append.mp hk).elim (hg k) (fun h => by rw [List.mem_singleton.mp h]; exact hgz)⟩
