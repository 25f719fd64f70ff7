/-! binding a pattern to a code, item by item -/
theorem rk_nlt {x : Int32} (h : 0 ≤ x) : ¬ x < 0 := Int32.not_lt.mpr h
theorem rk_ltn {x : Int32} (h : ¬ 0 ≤ x) : x < 0 := Int32.not_le.mp h
theorem rk_oc_mono {P : rk_Pt} {x m : Nat} : ∀ {n : Nat}, m ≤ n → rk_oc P m x ≤ rk_oc P n x
  | 0, h => by rw [show m = 0 by omega]; exact Nat.le_refl _
  | n + 1, h => by
    by_cases e : m = n + 1
    · rw [e]
      exact Nat.le_refl _
    · have := rk_oc_mono (P := P) (x := x) (m := m) (n := n) (by omega)
      rw [rk_oc_up]
      omega
theorem rk_at_num {P : rk_Pt} {i : Nat} (h : rk_at P i < 40) (hc : ¬ rk_iv (rk_at P i) < 0) : rk_at P i < 32 ∧ rk_iv (rk_at P i) = nI (rk_at P i) := by
  rcases rk_iv_at _ h with ⟨h1, h2, _⟩ | ⟨x, _, _, h1, _⟩
  · exact ⟨h1, h2⟩
  · exact absurd h1 hc
theorem rk_at_var {P : rk_Pt} {i : Nat} (h : rk_at P i < 40) (hc : rk_iv (rk_at P i) < 0) : ∃ x, x < 8 ∧ rk_at P i = 32 + x ∧ -(rk_iv (rk_at P i)) = nI (x + 1) := by
  rcases rk_iv_at _ h with ⟨_, _, h1⟩ | ⟨x, h1, h2, _, h3⟩
  · exact absurd hc h1
  · exact ⟨x, h1, h2, h3⟩
theorem rk_val_num {a : Nat} {v : Nat → Nat} (h : a < 32) : rk_val a v = a := if_pos h
theorem rk_val_var {x : Nat} {v : Nat → Nat} : rk_val (32 + x) v = v x := by
  unfold rk_val
  rw [if_neg (by omega), Nat.add_sub_cancel_left]
theorem bi_num {P : rk_Pt} {k i : Nat} {u : Nat → Nat} (hm : ∀ j, j < i → rk_val (rk_at P j) u = rk_dg k j) (ha : rk_at P i < 32) (he : rk_at P i = rk_dg k i) : ∀ j, j < i + 1 → rk_val (rk_at P j) u = rk_dg k j := fun j hj => by
  by_cases e : j = i
  · rw [e, rk_val_num ha, he]
  · exact hm j (by omega)
theorem bi_var {P : rk_Pt} {k i x : Nat} {vx : Nat → Nat} (hm : ∀ j, j < i → rk_val (rk_at P j) (rk_as vx) = rk_dg k j) (ha : rk_at P i = 32 + x) (hc : rk_oc P i x = 0 ∨ vx (x + 1) = rk_dg k i) : ∀ j, j < i + 1 → rk_val (rk_at P j) (rk_as (va_up vx (x + 1) (rk_dg k i))) = rk_dg k j := fun j hj => by
  by_cases e : j = i
  · rw [e, ha, rk_val_var]
    exact va_up_self _ _ _
  · have h1 := hm j (by omega)
    by_cases g : rk_at P j = 32 + x
    · rw [g, rk_val_var] at h1 ⊢
      rcases hc with h | h
      · have : 0 < rk_oc P i x := rk_oc_pos.mpr ⟨j, by omega, g⟩
        omega
      · show va_up vx (x + 1) (rk_dg k i) (x + 1) = rk_dg k j
        rw [va_up_self, ← h]
        exact h1
    · rw [← h1]
      unfold rk_val
      by_cases hn : rk_at P j < 32
      · rw [if_pos hn, if_pos hn]
      · rw [if_neg hn, if_neg hn]
        exact va_up_ne _ _ (by omega)
theorem bi_end {P : rk_Pt} {k : Nat} {u : Nat → Nat} (hk : k < 32768) (hu : rk_okV u) (hm : ∀ j, j < 3 → rk_val (rk_at P j) u = rk_dg k j) : rk_inst P u = k := ((rk_is_inst hu hk).mpr (fun j hj => (hm j hj).symm)).symm
theorem bi_no_num {P : rk_Pt} {k i : Nat} {v : Nat → Nat} (hi : i < 3) (ha : rk_at P i < 32) (he : ¬ rk_at P i = rk_dg k i) (hv : rk_okV v) (h : rk_inst P v = k) : False := he (by
  rw [← h, rk_inst_dg hv i hi, rk_val_num ha])
theorem bi_no_var {P : rk_Pt} {k i x : Nat} {v vl vx b0 : Nat → Nat} (hi : i < 3) (hx : x < 8) (hm : ∀ j, j < i → rk_val (rk_at P j) (rk_as vx) = rk_dg k j) (hvk : ∀ x, x < 8 → 0 < b0 x → vx (x + 1) = vl (x + 1)) (ha : rk_at P i = 32 + x) (hb : ¬ b0 x + rk_oc P i x = 0) (he : ¬ vx (x + 1) = rk_dg k i) (hv : rk_okV v) (hvl : ∀ x, x < 8 → 0 < b0 x → v x = vl (x + 1)) (h : rk_inst P v = k) : False := by
  have hvi : rk_dg k i = v x := by rw [← h, rk_inst_dg hv i hi, ha, rk_val_var]
  by_cases g : b0 x = 0
  · obtain ⟨j, h1, h2⟩ := (rk_oc_pos (P := P) (x := x) (n := i)).mp (by omega)
    have h3 := hm j h1
    rw [h2, rk_val_var] at h3
    have h4 : rk_dg k j = v x := by rw [← h, rk_inst_dg hv j (by omega), h2, rk_val_var]
    exact he (by rw [hvi, ← h4, ← h3]; rfl)
  · exact he (by rw [hvi, hvk x hx (by omega), hvl x hx (by omega)])
theorem bi_vk {vx vl b0 : Nat → Nat} {x q : Nat} (hvk : ∀ x, x < 8 → 0 < b0 x → vx (x + 1) = vl (x + 1)) (hc : b0 x = 0 ∨ vx (x + 1) = q) : ∀ y, y < 8 → 0 < b0 y → va_up vx (x + 1) q (y + 1) = vl (y + 1) := fun y hy hb => by
  by_cases e : y = x
  · subst e
    rw [va_up_self]
    rcases hc with h | h
    · omega
    · rw [← h, hvk y hy hb]
  · rw [va_up_ne _ _ (by omega), hvk y hy hb]
theorem bi_lt {vx : Nat → Nat} {x q : Nat} (h : ∀ i, vx i < 32) (hq : q < 32) : ∀ i, va_up vx x q i < 32 := fun i => by
  by_cases e : i = x
  · rw [e, va_up_self]
    exact hq
  · rw [va_up_ne _ _ e]
    exact h i
theorem bi_bx {P : rk_Pt} {bx b0 : Nat → Nat} {i x : Nat} (h : ∀ x, x < 8 → bx (x + 1) = b0 x + rk_oc P i x) (ha : rk_at P i = 32 + x) : ∀ y, y < 8 → va_up bx (x + 1) (bx (x + 1) + 1) (y + 1) = b0 y + rk_oc P (i + 1) y := fun y hy => by
  by_cases e : y = x
  · subst e
    rw [va_up_self, h y hy, rk_oc_is ha]
    omega
  · rw [va_up_ne _ _ (by omega), h y hy, rk_oc_ne ha e]
theorem lo_bx {P : rk_Pt} {bx b0 : Nat → Nat} {i n x : Nat} (h : ∀ x, x < 8 → bx (x + 1) + rk_oc P i x = b0 x + rk_oc P n x) (hi : i < n) (ha : rk_at P i = 32 + x) : ∀ y, y < 8 → va_up bx (x + 1) (bx (x + 1) - 1) (y + 1) + rk_oc P (i + 1) y = b0 y + rk_oc P n y := fun y hy => by
  by_cases e : y = x
  · subst e
    have h1 := rk_oc_mono (P := P) (x := y) (m := i + 1) (n := n) (by omega)
    rw [rk_oc_is ha] at h1
    have h2 := h y hy
    rw [va_up_self, rk_oc_is ha]
    omega
  · rw [va_up_ne _ _ (by omega), rk_oc_ne ha e]
    exact h y hy
theorem lo_ge {P : rk_Pt} {bx b0 : Nat → Nat} {i n x : Nat} (h : ∀ x, x < 8 → bx (x + 1) + rk_oc P i x = b0 x + rk_oc P n x) (hi : i < n) (hx : x < 8) (ha : rk_at P i = 32 + x) : 1 ≤ bx (x + 1) := by
  have h1 := rk_oc_mono (P := P) (x := x) (m := i + 1) (n := n) (by omega)
  rw [rk_oc_is ha] at h1
  have h2 := h x hx
  omega
/-- the row and what holds, as the reference keeps them -/
def m_row (cI cZ : ClassId) (ad : Nat → Nat) (cw : Nat → va_E) (ru dn : Nat) (L : List Nat) : Prop :=
  cw 0 = m_0 ad L.length ru dn ∧ (∃ rw : Nat → Nat, cw 4 = .inl (cI, 301, .inl (rk_nf rw)) ∧ ∀ i, i < L.length → rw i = L.getD i 0) ∧ (∃ Hd : Nat → Bool, cw 2 = .inl (cZ, 32768, .inl (rk_bf Hd)) ∧ ∀ k, k < 32768 → Hd k = decide (k ∈ L)) ∧ L.length ≤ 300 ∧ L.Nodup ∧ ∀ k, k ∈ L → k < 32768
