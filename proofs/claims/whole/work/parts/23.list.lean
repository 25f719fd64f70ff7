/-! rows of codes as lists; the cells of the row of what holds -/
theorem rk_getD_app {L K : List Nat} {i : Nat} (h : i < L.length) : (L ++ K).getD i 0 = L.getD i 0 := by
  rw [List.getD_eq_getElem?_getD, List.getD_eq_getElem?_getD, List.getElem?_append_left h]
theorem rk_getD_last (L : List Nat) (x : Nat) : (L ++ [x]).getD L.length 0 = x := by
  rw [List.getD_eq_getElem?_getD, List.getElem?_append_right (Nat.le_refl _)]
  simp
theorem rk_getD_mem {L : List Nat} {i : Nat} (h : i < L.length) : L.getD i 0 ∈ L := by
  rw [List.getD_eq_getElem?_getD, List.getElem?_eq_getElem h]
  exact List.getElem_mem h
theorem rk_drop_cons {L : List Nat} {i : Nat} (h : i < L.length) : L.drop i = L.getD i 0 :: L.drop (i + 1) := by
  rw [List.drop_eq_getElem_cons h, List.getD_eq_getElem?_getD, List.getElem?_eq_getElem h]
  rfl
theorem rk_take_succ {L : List Nat} {i : Nat} (h : i < L.length) : L.take (i + 1) = L.take i ++ [L.getD i 0] := by
  rw [List.take_add_one, List.getD_eq_getElem?_getD, List.getElem?_eq_getElem h]
  rfl
theorem rk_getD_take {L : List Nat} {i j : Nat} (h : i < j) : (L.take j).getD i 0 = L.getD i 0 := by
  rw [List.getD_eq_getElem?_getD, List.getD_eq_getElem?_getD, List.getElem?_take_of_lt h]
theorem rk_set_drop {L K : List Nat} {i : Nat} (hn : (K ++ L.drop i).Nodup) (h : i < L.length) : va_up (fun k => decide (k ∈ K ++ L.drop i)) (L.getD i 0) false = fun k => decide (k ∈ K ++ L.drop (i + 1)) := by
  rw [rk_drop_cons h] at hn ⊢
  obtain ⟨h1, h2, h3⟩ := List.nodup_append.mp hn
  have h4 := List.nodup_cons.mp h2
  funext k
  by_cases e : k = L.getD i 0
  · subst e
    rw [va_up_self]
    symm
    rw [decide_eq_false_iff_not, List.mem_append]
    rintro (z | z)
    · exact h3 _ z _ List.mem_cons_self rfl
    · exact h4.1 z
  · rw [va_up_ne _ _ e]
    refine decide_eq_decide.mpr ?_
    rw [List.mem_append, List.mem_append, List.mem_cons]
    constructor
    · rintro (z | z | z)
      · exact Or.inl z
      · exact absurd z e
      · exact Or.inr z
    · rintro (z | z)
      · exact Or.inl z
      · exact Or.inr (Or.inr z)
theorem rk_set_keep {L K : List Nat} {i : Nat} (h : i < L.length) : (fun k => decide (k ∈ K ++ L.drop i)) = fun k => decide (k ∈ (K ++ [L.getD i 0]) ++ L.drop (i + 1)) := by
  rw [rk_drop_cons h]
  funext k
  refine decide_eq_decide.mpr ?_
  simp only [List.mem_append, List.mem_cons, List.not_mem_nil, or_false]
  constructor
  · rintro (z | z | z)
    · exact Or.inl (Or.inl z)
    · exact Or.inl (Or.inr z)
    · exact Or.inr z
  · rintro ((z | z) | z)
    · exact Or.inl z
    · exact Or.inr (Or.inl z)
    · exact Or.inr (Or.inr z)
theorem rk_set_add (L : List Nat) (x : Nat) : va_up (fun k => decide (k ∈ L)) x true = fun k => decide (k ∈ L ++ [x]) := by
  funext k
  by_cases e : k = x
  · subst e
    rw [va_up_self]
    simp
  · rw [va_up_ne _ _ e]
    refine decide_eq_decide.mpr ?_
    simp [e]
theorem rk_nodup_td {L : List Nat} (h : L.Nodup) {j i : Nat} (hji : j ≤ i) : (L.take j ++ L.drop i).Nodup := by
  have e : L.take j ++ L.drop j = L := List.take_append_drop j L
  have h1 : (L.take j ++ L.drop j).Nodup := by rw [e]; exact h
  have hs : List.Sublist (L.drop i) (L.drop j) := by
    have : L.drop i = (L.drop j).drop (i - j) := by rw [List.drop_drop]; congr 1; omega
    rw [this]
    exact List.drop_sublist _ _
  exact List.Nodup.sublist (List.Sublist.append (List.Sublist.refl _) hs) h1
theorem rk_nodup_fd {L : List Nat} (h : L.Nodup) (p : Nat → Bool) (i : Nat) : ((L.take i).filter p ++ L.drop i).Nodup := by
  have h1 : (L.take i ++ L.drop i).Nodup := by rw [List.take_append_drop]; exact h
  exact List.Nodup.sublist (List.Sublist.append List.filter_sublist (List.Sublist.refl _)) h1
/-- the row L stands in the cells 2, 3, 4 -/
def k_tr (cI : ClassId) (ad : Nat → Nat) (cw : Nat → va_E) (pm : Nat) (L : List Nat) : Prop :=
  ∃ (fc : Nat → Nat) (w : Nat → Int32), cw 2 = .inr (1, [.ref (ad 3), .ref pm, .int (nI L.length)]) ∧ cw 3 = .inl (cI, 300, .inl (rk_nf fc)) ∧ cw 4 = .inl (cI, 1024, .inl w) ∧ (∀ i, i < L.length → fc i = L.getD i 0) ∧ rk_W w (fun k => decide (k ∈ L)) ∧ L.length ≤ 300 ∧ L.Nodup ∧ ∀ k, k ∈ L → k < 32768
/-- the overlay of the keeper's own cells -/
def k_ov (B : mw_M) (ad : Nat → Nat) : Prop := mw_inj ad 21 ∧ ∀ i, i < 21 → B (ad i) = none
theorem rk_min {a b : Nat} (h : a ≤ b) (hb : b < 2 ^ 31) : (if nI a < nI b then nI a else nI b) = nI a := by
  by_cases e : a = b
  · subst e
    simp
  · rw [if_pos (nI_lt (by omega) hb)]
theorem rk_filt_t {L : List Nat} {p : Nat → Bool} {i : Nat} (h : i < L.length) (hp : p (L.getD i 0) = true) : (L.take (i + 1)).filter p = (L.take i).filter p ++ [L.getD i 0] := by
  rw [rk_take_succ h, List.filter_append]
  congr 1
  rw [List.filter_cons_of_pos hp]
  rfl
theorem rk_filt_f {L : List Nat} {p : Nat → Bool} {i : Nat} (h : i < L.length) (hp : p (L.getD i 0) = false) : (L.take (i + 1)).filter p = (L.take i).filter p := by
  rw [rk_take_succ h, List.filter_append]
  rw [List.filter_cons_of_neg (by rw [hp]; decide)]
  simp
theorem rk_filt_le (L : List Nat) (p : Nat → Bool) (i : Nat) : ((L.take i).filter p).length ≤ i := by
  have h1 := List.length_filter_le p (L.take i)
  have h2 : (L.take i).length ≤ i := by rw [List.length_take]; omega
  omega
