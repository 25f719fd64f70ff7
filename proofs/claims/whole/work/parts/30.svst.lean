/-! rules and columns as they stand in cells; a part of an overlay -/
def k_rule (cI cP : ClassId) (M : mw_M) (a : Nat) (r : rk_Ru) : Prop :=
  r.1.length ≤ 3 ∧ ∃ (bo hd sh : Nat) (fo : Nat → Option Nat) (fs : Nat → Nat), M a = some (.inr (3, [.ref bo, .ref hd, .ref sh])) ∧ M bo = some (.inl (cP, r.1.length, .inr (.inr (.inr (.inr fo))))) ∧ M sh = some (.inl (cI, r.1.length, .inl (rk_nf fs))) ∧ k_pat cI M hd r.2 ∧ (∀ i, i < r.1.length → ∃ p, fo i = some p ∧ k_pat cI M p (rk_nth r i)) ∧ ∀ i, i < r.1.length → fs i = rk_shm r i
theorem k_rule_mono {cI cP : ClassId} {M M1 : mw_M} {a : Nat} {r : rk_Ru} (h : k_rule cI cP M a r) (hM : ∀ q e, M q = some e → M1 q = some e) : k_rule cI cP M1 a r := by
  obtain ⟨h0, bo, hd, sh, fo, fs, h1, h2, h3, h4, h5, h6⟩ := h
  refine ⟨h0, bo, hd, sh, fo, fs, hM _ _ h1, hM _ _ h2, hM _ _ h3, k_pat_mono h4 hM, fun i hi => ?_, h6⟩
  obtain ⟨p, e, hp⟩ := h5 i hi
  exact ⟨p, e, k_pat_mono hp hM⟩
theorem rk_shm_lt {r : rk_Ru} {i : Nat} (h : rk_okP (rk_nth r i)) : rk_shm r i < 256 := Nat.lt_of_le_of_lt Nat.and_le_left (rk_vars_lt h)
/-- what the overlay holds outside the frozen part -/
theorem k_fr {B : mw_M} {ad : Nat → Nat} (ho : k_ov B ad) (cw : Nat → va_E) : ∀ q e, B q = some e → mw_ov B ad cw 21 q = some e := fun _ _ h => mw_ov_fr ho.2 h
/-- four cells of the overlay from place o on, replaced -/
def rk_spl (cw : Nat → va_E) (o : Nat) (c1 : Nat → va_E) (i : Nat) : va_E := if o ≤ i ∧ i < o + 4 then c1 (i - o) else cw i
theorem rk_spl_in {cw c1 : Nat → va_E} {o i : Nat} (h : i < 4) : rk_spl cw o c1 (o + i) = c1 i := by
  unfold rk_spl
  rw [if_pos (by omega), Nat.add_sub_cancel_left]
theorem rk_spl_out {cw c1 : Nat → va_E} {o i : Nat} (h : i < o ∨ o + 4 ≤ i) : rk_spl cw o c1 i = cw i := by
  unfold rk_spl
  rw [if_neg (by omega)]
theorem k_inj4 {ad : Nat → Nat} (hj : mw_inj ad 21) {o : Nat} (ho : o + 4 ≤ 21) : mw_inj (fun i => ad (o + i)) 4 := by
  intro i j hi hj' e
  have := hj (o + i) (o + j) (by omega) (by omega) e
  omega
theorem mw_ov_sub {B : mw_M} {ad : Nat → Nat} {cw c1 : Nat → va_E} {o : Nat} (hj : mw_inj ad 21) (ho : o + 4 ≤ 21) : mw_ov (mw_ov B ad cw 21) (fun i => ad (o + i)) c1 4 = mw_ov B ad (rk_spl cw o c1) 21 := by
  funext q
  by_cases hq : ∃ i, i < 21 ∧ ad i = q
  · obtain ⟨i, hi, rfl⟩ := hq
    rw [mw_ov_at hj hi]
    by_cases h : o ≤ i ∧ i < o + 4
    · have e : ad i = (fun i => ad (o + i)) (i - o) := by
        show ad i = ad (o + (i - o))
        rw [show o + (i - o) = i by omega]
      rw [e, mw_ov_at (k_inj4 hj ho) (by omega)]
      unfold rk_spl
      rw [if_pos h]
    · rw [mw_ov_off (fun j hj2 z => ?_), mw_ov_at hj hi]
      · unfold rk_spl
        rw [if_neg h]
      · have := hj (o + j) i (by omega) hi z
        omega
  · have h1 : ∀ j, j < 21 → ad j ≠ q := fun j hj2 e => hq ⟨j, hj2, e⟩
    rw [mw_ov_off (fun j hj2 => h1 (o + j) (by omega)), mw_ov_off h1, mw_ov_off h1]
theorem mw_ov_slf {B : mw_M} {ad : Nat → Nat} {cw : Nat → va_E} {o : Nat} (hj : mw_inj ad 21) (ho : o + 4 ≤ 21) : mw_ov (mw_ov B ad cw 21) (fun i => ad (o + i)) (fun i => cw (o + i)) 4 = mw_ov B ad cw 21 :=
  mw_ov_self (fun i hi => mw_ov_at hj (by omega))
/-- what lies outside the four cells is seen through any overlay of them -/
theorem k_thru {B : mw_M} {ad : Nat → Nat} {cw : Nat → va_E} {o : Nat} (hk : k_ov B ad) (ho : o + 4 ≤ 21) {q : Nat} {e : va_E} (h : B q = some e) : ∀ c, mw_ov (mw_ov B ad cw 21) (fun i => ad (o + i)) c 4 q = some e := by
  intro c
  rw [mw_ov_sub hk.1 ho]
  exact mw_ov_fr hk.2 h
theorem k_thruA {B : mw_M} {ad : Nat → Nat} {cw : Nat → va_E} {o j : Nat} (hk : k_ov B ad) (ho : o + 4 ≤ 21) (hj : j < 21) (hx : j < o ∨ o + 4 ≤ j) {e : va_E} (h : cw j = e) : ∀ c, mw_ov (mw_ov B ad cw 21) (fun i => ad (o + i)) c 4 (ad j) = some e := by
  intro c
  rw [mw_ov_sub hk.1 ho, mw_ov_at hk.1 hj, rk_spl_out hx, h]
/-- the column c stands at place d -/
def k_cold (cI : ClassId) (B : mw_M) (ad : Nat → Nat) (cw : Nat → va_E) (d : Nat) (c : rk_Col) : Prop :=
  ∃ (src K : Nat) (pl : Nat → Nat), k_co cI (fun i => ad (9 + 4 * d + i)) src K (fun i => cw (9 + 4 * d + i)) c.2.2.1 c.2.2.2.1 c.2.2.2.2 pl ∧ c.2.1 = rk_tb K ∧ K < 256 ∧ k_pat cI B src c.1 ∧ (∀ q, pl q = 0) ∧ c.2.2.1 ≤ 300 ∧ ∀ i, i < c.2.2.1 → c.2.2.2.1 i < 32768
/-- a column's cells, whatever is in them -/
def k_blank (cI : ClassId) (ad : Nat → Nat) (cw : Nat → va_E) (d : Nat) : Prop :=
  ∃ (src K n : Nat) (pr tm pl : Nat → Nat), k_co cI (fun i => ad (9 + 4 * d + i)) src K (fun i => cw (9 + 4 * d + i)) n pr tm pl ∧ ∀ q, pl q = 0
theorem k_cold_blank {cI : ClassId} {B : mw_M} {ad : Nat → Nat} {cw : Nat → va_E} {d : Nat} {c : rk_Col} (h : k_cold cI B ad cw d c) : k_blank cI ad cw d := by
  obtain ⟨src, K, pl, h1, -, -, -, h2, -⟩ := h
  exact ⟨src, K, _, _, _, pl, h1, h2⟩
theorem k_co_same {cI : ClassId} {ac : Nat → Nat} {src K : Nat} {cw c1 : Nat → va_E} {n : Nat} {pr tm pl : Nat → Nat} (h : k_co cI ac src K cw n pr tm pl) (he : ∀ i, i < 4 → c1 i = cw i) : k_co cI ac src K c1 n pr tm pl :=
  ⟨(he 0 (by decide)).trans h.1, (he 1 (by decide)).trans h.2.1, (he 2 (by decide)).trans h.2.2.1, (he 3 (by decide)).trans h.2.2.2⟩
theorem k_blank_same {cI : ClassId} {ad : Nat → Nat} {cw c1 : Nat → va_E} {d : Nat} (h : k_blank cI ad cw d) (he : ∀ i, i < 4 → c1 (9 + 4 * d + i) = cw (9 + 4 * d + i)) : k_blank cI ad c1 d := by
  obtain ⟨src, K, n, pr, tm, pl, h1, h2⟩ := h
  exact ⟨src, K, n, pr, tm, pl, k_co_same h1 he, h2⟩
theorem k_cold_same {cI : ClassId} {B : mw_M} {ad : Nat → Nat} {cw c1 : Nat → va_E} {d : Nat} {c : rk_Col} (h : k_cold cI B ad cw d c) (he : ∀ i, i < 4 → c1 (9 + 4 * d + i) = cw (9 + 4 * d + i)) : k_cold cI B ad c1 d c := by
  obtain ⟨src, K, pl, h1, h2⟩ := h
  exact ⟨src, K, pl, k_co_same h1 he, h2⟩
/-- the solver itself, its values, the array of its columns -/
def k_sv (cI cC : ClassId) (B : mw_M) (ad : Nat → Nat) (cw : Nat → va_E) (ca cc : Nat) (u : Nat → Nat) : Prop :=
  cw 1 = .inr (5, [.ref (ad 2), .ref (ad 8), .ref ca, .int (nI cc)]) ∧ cw 8 = .inl (cI, 8, .inl (rk_nf u)) ∧ rk_okV u ∧ ∃ fa : Nat → Option Nat, B ca = some (.inl (cC, 3, .inr (.inr (.inr (.inr fa))))) ∧ ∀ d, d < 3 → fa d = some (ad (9 + 4 * d))
