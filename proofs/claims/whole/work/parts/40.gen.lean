/-! what comes out of a row by the rules -/
def rk_ru0 : rk_Ru := ([], (0, 0, 0))
def rk_rth (rs : List rk_Ru) (i : Nat) : rk_Ru := rs.getD i rk_ru0
theorem rk_rth_mem {rs : List rk_Ru} {i : Nat} (h : i < rs.length) : rk_rth rs i ∈ rs := by
  unfold rk_rth
  rw [List.getD_eq_getElem?_getD, List.getElem?_eq_getElem h]
  exact List.getElem_mem h
theorem rk_mem_rth {rs : List rk_Ru} {r : rk_Ru} (h : r ∈ rs) : ∃ i, i < rs.length ∧ rk_rth rs i = r := by
  obtain ⟨i, hi, e⟩ := List.getElem_of_mem h
  refine ⟨i, hi, ?_⟩
  unfold rk_rth
  rw [List.getD_eq_getElem?_getD, List.getElem?_eq_getElem hi]
  exact e
def rk_gen (L : List Nat) (rs : List rk_Ru) (z : Nat) : Prop := ∀ X : Nat → Prop, (∀ k, k ∈ L → X k) → rk_closed rs X → X z
theorem rk_gen_in {L : List Nat} {rs : List rk_Ru} {z : Nat} (h : z ∈ L) : rk_gen L rs z := fun _ h1 _ => h1 z h
theorem rk_gen_case {L K : List Nat} {rs : List rk_Ru} {i : Nat} {v : Nat → Nat} (hi : i < rs.length) (hK : ∀ k, k ∈ K → rk_gen L rs k) (h : rk_case (rk_rth rs i) (· ∈ K) v) : rk_gen L rs (rk_inst (rk_rth rs i).2 v) :=
  fun X h1 h2 => h2 _ (rk_rth_mem hi) v ⟨h.1, fun P hP => hK _ (h.2 P hP) X h1 h2⟩
theorem rk_take_app {L K : List Nat} {a : Nat} (h : a ≤ L.length) : (L ++ K).take a = L.take a := List.take_append_of_le_length h
theorem rk_pred0 {n : Nat} (h : n ≤ 12) : (if nI n - nI 1 < 0 then 0 else nI n - nI 1) = nI (n - 1) := by
  by_cases e : n = 0
  · subst e
    decide
  · rw [pk_sub (by omega), if_neg (nI_pos (by omega))]
theorem rk_case_mono {r : rk_Ru} {S T : Nat → Prop} {v : Nat → Nat} (h : rk_case r S v) (hST : ∀ k, S k → T k) : rk_case r T v := ⟨h.1, fun P hP => hST _ (h.2 P hP)⟩
/-- the keeper's own cell -/
abbrev k_k0 (ad : Nat → Nat) (sm n dn : Nat) : va_E := .inr (6, [.ref (ad 1), .ref (ad 2), .ref sm, .ref (ad 6), .ref (ad 7), .int (nI n), .int (nI dn)])
def k_made (cI cP cR : ClassId) (B : mw_M) (cw : Nat → va_E) (rs : List rk_Ru) : Prop :=
  rs.length ≤ 12 ∧ ∃ fm : Nat → Option Nat, cw 6 = .inl (cR, 12, .inr (.inr (.inr (.inr fm)))) ∧ ∀ i, i < rs.length → ∃ a, fm i = some a ∧ k_rule cI cP B a (rk_rth rs i) ∧ rk_okR (rk_rth rs i)
