/-! the cells of a column: 0 itself, 1 parts, 2 times, 3 places -/
def k_co (cI : ClassId) (ac : Nat → Nat) (src K : Nat) (cw : Nat → va_E) (n : Nat) (pr tm pl : Nat → Nat) : Prop :=
  cw 0 = .inr (4, [.ref (ac 1), .ref (ac 2), .ref (ac 3), .ref src, .int (nI K), .int (nI n)]) ∧ cw 1 = .inl (cI, 300, .inl (rk_nf pr)) ∧ cw 2 = .inl (cI, 300, .inl (rk_nf tm)) ∧ cw 3 = .inl (cI, 1024, .inl (rk_nf pl))
/-- parts of the mask f -/
def rk_ps (f : Nat → Bool) (S : List Nat) : Prop := ∀ x, x ∈ S → ∃ w : Nat → Nat, (∀ j, j < 3 → w j < 32) ∧ x = rk_v f w
theorem rk_fi_known {f : Nat → Bool} {n : Nat} {pr tm pl : Nat → Nat} {S : List Nat} (h : rk_fi f n pr tm pl S) (hS : rk_ps f S) {w : Nat → Nat} (hw : ∀ j, j < 3 → w j < 32) (ha : f 0 = false ∨ f 1 = false ∨ f 2 = false) (hq : pl (rk_place (f 0) (rk_v f w)) ≠ 0) : ∃ j, j < n ∧ pl (rk_place (f 0) (rk_v f w)) = j + 1 ∧ pr j = rk_v f w := by
  obtain ⟨h1, h2, h3, h4, h5⟩ := h
  rcases h4 (rk_place (f 0) (rk_v f w)) with z | ⟨j, hj, e⟩
  · exact absurd z hq
  · obtain ⟨u, hu, eu⟩ := hS _ (h3 j hj).2
    rw [eu] at e
    have e2 := rk_place_inj hw hu ha e
    refine ⟨j, hj, ?_, by rw [eu, e2]⟩
    have := h5 ha j hj
    rw [eu, ← e2] at this
    exact this
theorem rk_fi_ge {f : Nat → Bool} {n : Nat} {pr tm pl : Nat → Nat} {S : List Nat} (h : rk_fi f n pr tm pl S) : n ≤ S.length := h.1
