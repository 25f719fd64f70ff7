/-! the list of a rule's columns -/
def rk_col0 : rk_Col := ((0, 0, 0), fun _ => false, 0, fun _ => 0, fun _ => 0)
theorem rk_cols_len {r : rk_Ru} {i : Nat} {cf : Nat → rk_Col} : ∀ n, (rk_cols r i cf n).length ≤ n
  | 0 => Nat.le_refl 0
  | n + 1 => by
    show (rk_cols r i cf n ++ (if n = i then [] else [cf n])).length ≤ n + 1
    rw [List.length_append]
    have := rk_cols_len (r := r) (i := i) (cf := cf) n
    split
    · simp
      omega
    · simp
      omega
theorem rk_cols_congr {r : rk_Ru} {i : Nat} {cf cg : Nat → rk_Col} : ∀ {n : Nat}, (∀ j, j < n → cf j = cg j) → rk_cols r i cf n = rk_cols r i cg n
  | 0, _ => rfl
  | n + 1, h => by
    show rk_cols r i cf n ++ (if n = i then [] else [cf n]) = rk_cols r i cg n ++ (if n = i then [] else [cg n])
    rw [rk_cols_congr (fun j hj => h j (by omega)), h n (by omega)]
theorem rk_cols_skip {r : rk_Ru} {i : Nat} {cf : Nat → rk_Col} {n : Nat} (h : n = i) : rk_cols r i cf (n + 1) = rk_cols r i cf n := by
  show rk_cols r i cf n ++ (if n = i then [] else [cf n]) = _
  rw [if_pos h, List.append_nil]
theorem rk_cols_new {r : rk_Ru} {i : Nat} {cf : Nat → rk_Col} {n : Nat} {c : rk_Col} (h : n ≠ i) : rk_cols r i (va_up cf n c) (n + 1) = rk_cols r i cf n ++ [c] := by
  show rk_cols r i (va_up cf n c) n ++ (if n = i then [] else [va_up cf n c n]) = _
  rw [if_neg h, va_up_self, rk_cols_congr (cg := cf) (fun j hj => va_up_ne _ _ (by omega))]
theorem rk_colD_app {L K : List rk_Col} {i : Nat} (h : i < L.length) : (L ++ K).getD i rk_col0 = L.getD i rk_col0 := by
  rw [List.getD_eq_getElem?_getD, List.getD_eq_getElem?_getD, List.getElem?_append_left h]
theorem rk_colD_last (L : List rk_Col) (x : rk_Col) : (L ++ [x]).getD L.length rk_col0 = x := by
  rw [List.getD_eq_getElem?_getD, List.getElem?_append_right (Nat.le_refl _)]
  simp
/-- an empty column: nothing fits -/
theorem rk_col_none {L : List Nat} {P : rk_Pt} {B K : Nat → Bool} {u : Nat → Nat} {pr tm : Nat → Nat} (h : ∀ g : Nat → Nat, rk_sum (List.range 0) (fun j => tm j * g (pr j)) = rk_sum L (fun k => rk_if (rk_mt P B u k) (g (rk_part P K k)))) : ∀ k, k ∈ L → ¬ rk_mt P B u k := by
  intro k hk hm
  have h1 := h (fun _ => 1)
  have h2 : 0 < rk_sum L (fun k => rk_if (rk_mt P B u k) 1) := rk_sum_pos.mpr ⟨k, hk, by rw [rk_if_t hm]; exact Nat.one_pos⟩
  rw [← h1] at h2
  exact absurd h2 (Nat.lt_irrefl 0)
