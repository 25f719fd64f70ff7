/-! a rule out of the patterns -/
def rk_dn (dr : List rk_Pt) (i : Nat) : rk_Pt := dr.getD i (0, 0, 0)
def rk_mk (dr : List rk_Pt) : rk_Ru := (dr.take (dr.length - 1), rk_dn dr (dr.length - 1))
def rk_mkok (dr : List rk_Pt) : Prop := 2 ≤ dr.length ∧ ∀ x, rk_in (rk_dn dr (dr.length - 1)) x → ∃ j, j < dr.length - 1 ∧ rk_in (rk_dn dr j) x
theorem rk_mk_len (dr : List rk_Pt) : (rk_mk dr).1.length = dr.length - 1 := by
  unfold rk_mk
  rw [List.length_take]
  omega
theorem rk_mk_nth {dr : List rk_Pt} {i : Nat} (h : i < dr.length - 1) : rk_nth (rk_mk dr) i = rk_dn dr i := by
  unfold rk_nth rk_mk rk_dn
  rw [List.getD_eq_getElem?_getD, List.getElem?_take_of_lt h, ← List.getD_eq_getElem?_getD]
theorem rk_mk_ok {dr : List rk_Pt} (h4 : dr.length ≤ 4) (hp : ∀ i, i < dr.length → rk_okP (rk_dn dr i)) (h : rk_mkok dr) : rk_okR (rk_mk dr) := by
  refine ⟨by rw [rk_mk_len]; have := h.1; omega, by rw [rk_mk_len]; omega, fun P hP => ?_, hp _ (by have := h.1; omega), fun x hx => ?_⟩
  · obtain ⟨i, hi, rfl⟩ := rk_mem_nth hP
    rw [rk_mk_len] at hi
    rw [rk_mk_nth hi]
    exact hp i (by omega)
  · obtain ⟨j, hj, hin⟩ := h.2 x hx
    exact ⟨rk_nth (rk_mk dr) j, rk_nth_mem (by rw [rk_mk_len]; exact hj), by rw [rk_mk_nth hj]; exact hin⟩
def rk_orn (dr : List rk_Pt) : Nat → Nat
  | 0 => 0
  | n + 1 => rk_orn dr n ||| rk_vars (rk_dn dr n)
theorem rk_orn_tb {dr : List rk_Pt} {x : Nat} : ∀ n, (rk_orn dr n).testBit x = true ↔ ∃ j, j < n ∧ rk_in (rk_dn dr j) x
  | 0 => by simp [rk_orn]
  | n + 1 => by
    show (rk_orn dr n ||| rk_vars (rk_dn dr n)).testBit x = true ↔ _
    rw [Nat.testBit_or, Bool.or_eq_true, rk_orn_tb n, rk_vars_tb]
    constructor
    · rintro (⟨j, h1, h2⟩ | h)
      · exact ⟨j, by omega, h2⟩
      · exact ⟨n, by omega, h⟩
    · rintro ⟨j, h1, h2⟩
      by_cases e : j = n
      · subst e
        exact Or.inr h2
      · exact Or.inl ⟨j, by omega, h2⟩
def sp_rule (said : Nat → Bool) (rs : List rk_Ru) (dr : List rk_Pt) (r : Int32) (rs' : List rk_Ru) (dr' : List rk_Pt) : Prop :=
  (¬ rk_mkok dr ∧ r = -1 ∧ rs' = rs ∧ dr' = []) ∨ (rk_mkok dr ∧ 12 ≤ rs.length ∧ r = -3 ∧ rs' = rs ∧ dr' = dr) ∨ (rk_mkok dr ∧ rs.length < 12 ∧ ¬ rk_much said (rs ++ [rk_mk dr]) ∧ r = nI rs.length ∧ rs' = rs ++ [rk_mk dr] ∧ dr' = []) ∨ (rk_mkok dr ∧ rs.length < 12 ∧ rk_much said (rs ++ [rk_mk dr]) ∧ r = -3 ∧ rs' = rs ∧ dr' = dr)
def sp_unrule (rs : List rk_Ru) (k : Int32) (r : Int32) (rs' : List rk_Ru) : Prop :=
  ((¬ ∃ i, i < rs.length ∧ k = nI i) ∧ r = -1 ∧ rs' = rs) ∨ ∃ i, i < rs.length ∧ k = nI i ∧ r = nI (rs.length - 1) ∧ rs' = rs.eraseIdx i
theorem rk_rth_app {rs : List rk_Ru} {r : rk_Ru} {i : Nat} (h : i < rs.length) : rk_rth (rs ++ [r]) i = rk_rth rs i := by
  unfold rk_rth
  rw [List.getD_eq_getElem?_getD, List.getD_eq_getElem?_getD, List.getElem?_append_left h]
theorem rk_rth_last (rs : List rk_Ru) (r : rk_Ru) : rk_rth (rs ++ [r]) rs.length = r := by
  unfold rk_rth
  rw [List.getD_eq_getElem?_getD, List.getElem?_append_right (Nat.le_refl _)]
  simp
theorem rk_rth_erase {rs : List rk_Ru} {k i : Nat} : rk_rth (rs.eraseIdx k) i = if i < k then rk_rth rs i else rk_rth rs (i + 1) := by
  unfold rk_rth
  rw [List.getD_eq_getElem?_getD, List.getElem?_eraseIdx]
  by_cases h : i < k
  · rw [if_pos h, if_pos h, List.getD_eq_getElem?_getD]
  · rw [if_neg h, if_neg h, List.getD_eq_getElem?_getD]
/-- a rule made beside the keeper's cells -/
theorem k_newrule {cI cP : ClassId} {B : mw_M} {ad : Nat → Nat} {cw : Nat → va_E} {M1 : mw_M} {bo ru sh hd : Nat} {r : rk_Ru} {fo : Nat → Option Nat} {fs : Nat → Nat} (ho : k_ov B ad) (hr3 : r.1.length ≤ 3) (hbn : mw_ov B ad cw 21 bo = none) (hrn : mw_ov B ad cw 21 ru = none) (hsn : ∀ z e, mw_ov B ad cw 21 z = some e → z ≠ sh ∧ M1 z = some e) (h1 : M1 ru = some (.inr (3, [.ref bo, .ref hd, .ref sh]))) (h2 : M1 bo = some (.inl (cP, r.1.length, .inr (.inr (.inr (.inr fo)))))) (h3 : M1 sh = some (.inl (cI, r.1.length, .inl (rk_nf fs)))) (h4 : k_pat cI B hd r.2) (h5 : ∀ i, i < r.1.length → ∃ p, fo i = some p ∧ k_pat cI B p (rk_nth r i)) (h6 : ∀ i, i < r.1.length → fs i = rk_shm r i) :
    ∃ B1, M1 = mw_ov B1 ad cw 21 ∧ k_ov B1 ad ∧ (∀ q e, B q = some e → B1 q = some e) ∧ k_rule cI cP B1 ru r := by
  obtain ⟨B1, e1, g1, g2, g3⟩ := k_grow ho (fun z e h => (hsn z e h).2)
  have off : ∀ q, (∀ e, mw_ov B ad cw 21 q ≠ some e) → ∀ i, i < 21 → ad i ≠ q := fun q hq i hi z => hq (cw i) (by rw [← z]; exact mw_ov_at ho.1 hi)
  refine ⟨B1, e1, g1, g2, hr3, bo, hd, sh, fo, fs, g3 _ _ h1 (off _ (fun e h => by rw [hrn] at h; cases h)), g3 _ _ h2 (off _ (fun e h => by rw [hbn] at h; cases h)), g3 _ _ h3 (fun i hi => (hsn _ _ (mw_ov_at ho.1 hi)).1), k_pat_mono h4 g2, fun i hi => ?_, h6⟩
  obtain ⟨p, q1, q2⟩ := h5 i hi
  exact ⟨p, q1, k_pat_mono q2 g2⟩
