/-! filling a column: parts, how often, and where each part stands -/
def rk_nf (f : Nat → Nat) : Nat → Int32 := fun j => nI (f j)
theorem rk_nf_upd (f : Nat → Nat) (k x : Nat) : upd (rk_nf f) k (nI x) = rk_nf (va_up f k x) := by
  funext j
  by_cases h : j = k
  · subst h
    rw [pk_us]
    show nI x = nI (va_up f j x j)
    rw [va_up_self]
  · rw [pk_un h]
    show nI (f j) = nI (va_up f k x j)
    rw [va_up_ne _ _ h]
theorem rk_nf_0 : (fun _ => 0 : Nat → Int32) = rk_nf (fun _ => 0) := by
  funext j
  exact nI_0.symm
def rk_place (a : Bool) (p : Nat) : Nat := (if a then (p / 32 ||| p % 32) else p) % 1024
theorem rk_place_lt (a : Bool) (p : Nat) : rk_place a p < 1024 := Nat.mod_lt _ (by omega)
theorem rk_v_div {f : Nat → Bool} {w : Nat → Nat} (hw : ∀ j, j < 3 → w j < 32) : rk_v f w / 32 = 32 * (if f 0 then w 0 else 0) + (if f 1 then w 1 else 0) := by
  have h2 := rk_ite_lt (b := f 2) (hw 2 (by omega))
  unfold rk_v rk_pk
  omega
theorem rk_v_mod {f : Nat → Bool} {w : Nat → Nat} (hw : ∀ j, j < 3 → w j < 32) : rk_v f w % 32 = if f 2 then w 2 else 0 := by
  have h2 := rk_ite_lt (b := f 2) (hw 2 (by omega))
  unfold rk_v rk_pk
  omega
theorem rk_place_v {f : Nat → Bool} {w : Nat → Nat} (hw : ∀ j, j < 3 → w j < 32) (h : f 0 = false ∨ f 1 = false ∨ f 2 = false) : rk_place (f 0) (rk_v f w) = if f 0 then 32 * w 0 + (if f 1 then w 1 else 0) + (if f 2 then w 2 else 0) else 32 * (if f 1 then w 1 else 0) + (if f 2 then w 2 else 0) := by
  have h0 := hw 0 (by omega)
  have h1 := hw 1 (by omega)
  have h2 := hw 2 (by omega)
  unfold rk_place
  cases e0 : f 0
  · simp only [Bool.false_eq_true, if_false]
    unfold rk_v rk_pk
    rw [e0]
    have g1 := rk_ite_lt (b := f 1) h1
    have g2 := rk_ite_lt (b := f 2) h2
    simp only [Bool.false_eq_true, if_false]
    omega
  · simp only [if_true]
    rw [rk_v_div hw, rk_v_mod hw, e0]
    simp only [if_true]
    have g1 := rk_ite_lt (b := f 1) h1
    have g2 := rk_ite_lt (b := f 2) h2
    have ho : (32 * w 0 + (if f 1 then w 1 else 0)) ||| (if f 2 then w 2 else 0) = 32 * w 0 + ((if f 1 then w 1 else 0) ||| (if f 2 then w 2 else 0)) := by
      have := rk_or5 (a := w 0) (c := 0) g1 g2
      simpa using this
    rw [ho]
    rcases h with z | z | z
    · rw [e0] at z
      cases z
    · rw [z]
      simp
      omega
    · rw [z]
      simp
      omega
theorem rk_place_inj {f : Nat → Bool} {w u : Nat → Nat} (hw : ∀ j, j < 3 → w j < 32) (hu : ∀ j, j < 3 → u j < 32) (h : f 0 = false ∨ f 1 = false ∨ f 2 = false) (e : rk_place (f 0) (rk_v f w) = rk_place (f 0) (rk_v f u)) : rk_v f w = rk_v f u := by
  rw [rk_place_v hw h, rk_place_v hu h] at e
  have a0 := hw 0 (by omega)
  have a1 := hw 1 (by omega)
  have a2 := hw 2 (by omega)
  have b0 := hu 0 (by omega)
  have b1 := hu 1 (by omega)
  have b2 := hu 2 (by omega)
  unfold rk_v rk_pk
  revert e h
  cases f 0 <;> cases f 1 <;> cases f 2 <;> simp <;> omega
theorem rk_all_iff (f : Nat → Bool) : rk_m f = 32767 ↔ ¬ (f 0 = false ∨ f 1 = false ∨ f 2 = false) := by
  unfold rk_m
  cases f 0 <;> cases f 1 <;> cases f 2 <;> decide
theorem rk_first_iff (f : Nat → Bool) : rk_m f / 1024 = 0 ↔ f 0 = false := by
  unfold rk_m
  cases f 0 <;> cases f 1 <;> cases f 2 <;> decide
/-- the state of filling, when the parts S have come -/
def rk_fi (f : Nat → Bool) (n : Nat) (pr tm pl : Nat → Nat) (S : List Nat) : Prop :=
  n ≤ S.length ∧ (∀ g : Nat → Nat, rk_sum (List.range n) (fun j => tm j * g (pr j)) = rk_sum S g) ∧ (∀ j, j < n → 0 < tm j ∧ pr j ∈ S) ∧ (∀ q, pl q = 0 ∨ ∃ j, j < n ∧ q = rk_place (f 0) (pr j)) ∧ ((f 0 = false ∨ f 1 = false ∨ f 2 = false) → ∀ j, j < n → pl (rk_place (f 0) (pr j)) = j + 1)
theorem rk_fi_0 {f : Nat → Bool} {pr tm pl : Nat → Nat} (hpl : ∀ q, pl q = 0) : rk_fi f 0 pr tm pl [] :=
  ⟨Nat.le_refl 0, fun g => rfl, fun j h => absurd h (Nat.not_lt_zero j), fun q => Or.inl (hpl q), fun _ j h => absurd h (Nat.not_lt_zero j)⟩
theorem rk_range_sum (n : Nat) (g : Nat → Nat) : rk_sum (List.range (n + 1)) g = rk_sum (List.range n) g + g n := by
  rw [List.range_succ, rk_sum_app]
  simp [rk_sum]
theorem rk_fi_add {f : Nat → Bool} {n : Nat} {pr tm pl : Nat → Nat} {S : List Nat} (h : rk_fi f n pr tm pl S) (x : Nat) (hx : (f 0 = false ∨ f 1 = false ∨ f 2 = false) → pl (rk_place (f 0) x) = 0) : rk_fi f (n + 1) (va_up pr n x) (va_up tm n 1) (va_up pl (rk_place (f 0) x) (n + 1)) (S ++ [x]) := by
  obtain ⟨h1, h2, h3, h4, h5⟩ := h
  have old : ∀ j, j < n → va_up pr n x j = pr j ∧ va_up tm n 1 j = tm j := fun j hj => ⟨va_up_ne _ _ (by omega), va_up_ne _ _ (by omega)⟩
  refine ⟨by simp; omega, fun g => ?_, fun j hj => ?_, fun q => ?_, fun ha j hj => ?_⟩
  · rw [rk_range_sum, rk_sum_app, va_up_self, va_up_self, ← h2 g]
    rw [rk_sum_congr (g := fun j => va_up tm n 1 j * g (va_up pr n x j)) (h := fun j => tm j * g (pr j)) (fun j hj => by rw [(old j (List.mem_range.mp hj)).1, (old j (List.mem_range.mp hj)).2])]
    simp [rk_sum]
  · by_cases e : j = n
    · subst e
      rw [va_up_self, va_up_self]
      exact ⟨Nat.one_pos, by simp⟩
    · have hj' : j < n := by omega
      rw [(old j hj').1, (old j hj').2]
      exact ⟨(h3 j hj').1, List.mem_append_left _ (h3 j hj').2⟩
  · by_cases e : q = rk_place (f 0) x
    · exact Or.inr ⟨n, by omega, by rw [va_up_self]; exact e⟩
    · rw [va_up_ne _ _ e]
      rcases h4 q with z | ⟨j, hj, z⟩
      · exact Or.inl z
      · exact Or.inr ⟨j, by omega, by rw [(old j hj).1]; exact z⟩
  · by_cases e : j = n
    · subst e
      rw [va_up_self, va_up_self]
    · have hj' : j < n := by omega
      rw [(old j hj').1]
      have hne : rk_place (f 0) (pr j) ≠ rk_place (f 0) x := fun z => by
        have := h5 ha j hj'
        rw [z, hx ha] at this
        omega
      rw [va_up_ne _ _ hne]
      exact h5 ha j hj'
theorem rk_fi_more {f : Nat → Bool} {n : Nat} {pr tm pl : Nat → Nat} {S : List Nat} (h : rk_fi f n pr tm pl S) {j : Nat} (hj : j < n) : rk_fi f n pr (va_up tm j (tm j + 1)) pl (S ++ [pr j]) := by
  obtain ⟨h1, h2, h3, h4, h5⟩ := h
  refine ⟨by simp; omega, fun g => ?_, fun i hi => ?_, h4, h5⟩
  · rw [rk_sum_app, ← h2 g]
    have key : ∀ m, rk_sum (List.range m) (fun i => va_up tm j (tm j + 1) i * g (pr i)) = rk_sum (List.range m) (fun i => tm i * g (pr i)) + if j < m then g (pr j) else 0 := by
      intro m
      induction m with
      | zero => rfl
      | succ m ih =>
        rw [rk_range_sum, rk_range_sum, ih]
        by_cases e : m = j
        · subst e
          rw [va_up_self, if_neg (Nat.lt_irrefl m), if_pos (Nat.lt_succ_self m), Nat.add_mul, Nat.one_mul]
          omega
        · rw [va_up_ne _ _ e]
          by_cases h : j < m
          · rw [if_pos h, if_pos (by omega)]
            omega
          · rw [if_neg h, if_neg (by omega)]
            omega
    rw [key n, if_pos hj]
    simp [rk_sum]
  · refine ⟨?_, List.mem_append_left _ (h3 i hi).2⟩
    by_cases e : i = j
    · subst e
      rw [va_up_self]
      omega
    · rw [va_up_ne _ _ e]
      exact (h3 i hi).1
