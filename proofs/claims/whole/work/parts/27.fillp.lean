/-! which codes a column takes, in terms of masks; the parts in their order -/
theorem rk_num_ink (P : rk_Pt) (B : Nat → Bool) (j : Nat) : (rk_num P j && rk_ink P B j) = false := by
  unfold rk_num rk_ink
  by_cases h : rk_at P j < 32
  · simp [h]
    intro z
    omega
  · simp [h]
def rk_wt (P : rk_Pt) (u : Nat → Nat) (j : Nat) : Nat := if rk_num P j then rk_at P j else u (rk_at P j - 32)
theorem rk_wt_lt {P : rk_Pt} {u : Nat → Nat} (hu : rk_okV u) (j : Nat) : rk_wt P u j < 32 := by
  unfold rk_wt rk_num
  by_cases h : rk_at P j < 32
  · simp [h]
  · simp [h]
    exact hu _
theorem rk_num_wt (P : rk_Pt) (u : Nat → Nat) : rk_v (rk_num P) (rk_at P) = rk_v (rk_num P) (rk_wt P u) := by
  unfold rk_v rk_wt
  cases g0 : rk_num P 0 <;> cases g1 : rk_num P 1 <;> cases g2 : rk_num P 2 <;> simp [g0, g1, g2]
theorem rk_want {P : rk_Pt} {B : Nat → Bool} {u : Nat → Nat} (hu : rk_okV u) : rk_v (rk_num P) (rk_at P) ||| rk_v (rk_ink P B) (fun j => u (rk_at P j - 32)) = rk_v (fun j => rk_num P j || rk_ink P B j) (rk_wt P u) := by
  rw [rk_num_wt P u, rk_v_or (fun j _ => rk_wt_lt hu j) (fun j _ => hu _) (fun j _ => rk_num_ink P B j)]
  congr 1
  funext j
  unfold rk_wt
  cases rk_num P j <;> rfl
theorem rk_mt_sel {P : rk_Pt} {B : Nat → Bool} {u : Nat → Nat} {k : Nat} (hk : k < 32768) (hu : rk_okV u) : rk_mt P B u k ↔ k &&& rk_m (fun j => rk_num P j || rk_ink P B j) = rk_v (fun j => rk_num P j || rk_ink P B j) (rk_wt P u) ∧ rk_agP P k := by
  rw [rk_sel hk (fun j _ => rk_wt_lt hu j)]
  constructor
  · rintro ⟨h1, h2, h3⟩
    refine ⟨fun j hj h => ?_, h3⟩
    unfold rk_wt
    by_cases hn : rk_at P j < 32
    · rw [if_pos (by simp [rk_num, hn])]
      exact h1 j hj hn
    · rw [if_neg (by simp [rk_num, hn])]
      have hi : rk_ink P B j = true := by simpa [rk_num, hn] using h
      exact h2 j hj (by omega) (rk_ink_spec hi).2
  · rintro ⟨h1, h3⟩
    refine ⟨fun j hj hn => ?_, fun j hj hn hB => ?_, h3⟩
    · have := h1 j hj (by simp [rk_num, hn])
      rw [this]
      unfold rk_wt
      rw [if_pos (by simp [rk_num, hn])]
    · have := h1 j hj (by simp [rk_ink, hn, hB])
      rw [this]
      unfold rk_wt
      rw [if_neg (by simp [rk_num, hn])]
theorem rk_part_mask {P : rk_Pt} {K : Nat → Bool} {k : Nat} (hk : k < 32768) : k &&& rk_m (rk_ink P K) = rk_part P K k := rk_mask _ hk
noncomputable def rk_seq (P : rk_Pt) (B : Nat → Bool) (u : Nat → Nat) (K : Nat → Bool) (L : List Nat) : List Nat := L.flatMap (fun k => @ite _ (rk_mt P B u k) (Classical.propDecidable _) [rk_part P K k] [])
theorem rk_seq_nil (P : rk_Pt) (B : Nat → Bool) (u : Nat → Nat) (K : Nat → Bool) : rk_seq P B u K [] = [] := rfl
theorem rk_seq_yes {P : rk_Pt} {B : Nat → Bool} {u : Nat → Nat} {K : Nat → Bool} {L : List Nat} {k : Nat} (h : rk_mt P B u k) : rk_seq P B u K (L ++ [k]) = rk_seq P B u K L ++ [rk_part P K k] := by
  unfold rk_seq
  rw [List.flatMap_append]
  congr 1
  rw [List.flatMap_cons, if_pos h]
  rfl
theorem rk_seq_no {P : rk_Pt} {B : Nat → Bool} {u : Nat → Nat} {K : Nat → Bool} {L : List Nat} {k : Nat} (h : ¬ rk_mt P B u k) : rk_seq P B u K (L ++ [k]) = rk_seq P B u K L := by
  unfold rk_seq
  rw [List.flatMap_append, List.flatMap_cons, if_neg h]
  simp
theorem rk_seq_cons {P : rk_Pt} {B : Nat → Bool} {u : Nat → Nat} {K : Nat → Bool} {L : List Nat} {k : Nat} : rk_seq P B u K (k :: L) = @ite _ (rk_mt P B u k) (Classical.propDecidable _) [rk_part P K k] [] ++ rk_seq P B u K L := by
  unfold rk_seq
  rw [List.flatMap_cons]
theorem rk_seq_sum {P : rk_Pt} {B : Nat → Bool} {u : Nat → Nat} {K : Nat → Bool} (g : Nat → Nat) : ∀ L : List Nat, rk_sum (rk_seq P B u K L) g = rk_sum L (fun k => rk_if (rk_mt P B u k) (g (rk_part P K k)))
  | [] => rfl
  | k :: L => by
    rw [rk_seq_cons, rk_sum_app, rk_seq_sum g L, rk_sum_cons]
    congr 1
    by_cases h : rk_mt P B u k
    · rw [if_pos h, rk_if_t h]
      simp [rk_sum]
    · rw [if_neg h, rk_if_f h]
      rfl
theorem rk_seq_len {P : rk_Pt} {B : Nat → Bool} {u : Nat → Nat} {K : Nat → Bool} : ∀ L : List Nat, (rk_seq P B u K L).length ≤ L.length
  | [] => Nat.le_refl 0
  | k :: L => by
    rw [rk_seq_cons, List.length_append, List.length_cons]
    have := rk_seq_len (P := P) (B := B) (u := u) (K := K) L
    by_cases h : rk_mt P B u k
    · rw [if_pos h]
      simp
      omega
    · rw [if_neg h]
      simp
      omega
theorem rk_seq_ps {P : rk_Pt} {B : Nat → Bool} {u : Nat → Nat} {K : Nat → Bool} : ∀ L : List Nat, rk_ps (rk_ink P K) (rk_seq P B u K L)
  | [] => fun x hx => absurd hx List.not_mem_nil
  | k :: L => by
    intro x hx
    rw [rk_seq_cons, List.mem_append] at hx
    rcases hx with z | z
    · by_cases h : rk_mt P B u k
      · rw [if_pos h, List.mem_singleton] at z
        exact ⟨rk_dg k, fun j _ => rk_dg_lt k j, z⟩
      · rw [if_neg h] at z
        exact absurd z List.not_mem_nil
    · exact rk_seq_ps L x z
theorem rk_wipe {f : Nat → Bool} {n i : Nat} {pr pl : Nat → Nat} (hi : i < n) (h : ∀ q, pl q = 0 ∨ ∃ j, i ≤ j ∧ j < n ∧ q = rk_place (f 0) (pr j)) : ∀ q, va_up pl (rk_place (f 0) (pr i)) 0 q = 0 ∨ ∃ j, i + 1 ≤ j ∧ j < n ∧ q = rk_place (f 0) (pr j) := by
  intro q
  by_cases e : q = rk_place (f 0) (pr i)
  · rw [e, va_up_self]
    exact Or.inl rfl
  · rw [va_up_ne _ _ e]
    rcases h q with z | ⟨j, h1, h2, h3⟩
    · exact Or.inl z
    · refine Or.inr ⟨j, ?_, h2, h3⟩
      rcases Nat.lt_or_ge i j with y | y
      · exact y
      · have : i = j := by omega
        subst this
        exact absurd h3 e
