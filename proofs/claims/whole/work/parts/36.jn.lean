/-! what a join rests on, all of it -/
def rk_jn (L0 : List Nat) (B0 : Nat → Bool) (u0 : Nat → Nat) (hd : rk_Pt) (cs : List rk_Col) (B : Nat → Bool) (u : Nat → Nat) : Prop :=
  rk_okV u ∧ (∀ x, B0 x = true → B x = true ∧ u0 x = u x) ∧ (∀ c, c ∈ cs → rk_colok L0 B0 u0 c) ∧ cs.Pairwise (rk_shr2 B0) ∧ (∀ c, c ∈ cs → ∀ x, rk_in c.1 x → B x = true → B0 x = true ∨ c.2.1 x = true) ∧ (∀ c, c ∈ cs → ∀ x, rk_in hd x → rk_in c.1 x → c.2.1 x = true ∨ B x = true) ∧ ∀ x, rk_in hd x → B x = true ∨ ∃ c, c ∈ cs ∧ c.2.1 x = true
theorem rk_jn_step {L0 : List Nat} {B0 : Nat → Bool} {u0 : Nat → Nat} {hd : rk_Pt} {c : rk_Col} {cs : List rk_Col} {B : Nat → Bool} {u : Nat → Nat} (h : rk_jn L0 B0 u0 hd (c :: cs) B u) (p : Nat) : rk_jn L0 B0 u0 hd cs (fun x => B x || c.2.1 x) (rk_bind c.1 (fun x => c.2.1 x && !B x) p u) := by
  obtain ⟨h1, h2, h3, h4, h5, h6, h7⟩ := h
  have hp1 := (List.pairwise_cons.mp h4).1
  refine ⟨rk_bind_ok h1, fun x hx => ⟨by simp [(h2 x hx).1], by rw [rk_bind_off (by simp [(h2 x hx).1])]; exact (h2 x hx).2⟩, fun d hd' => h3 d (List.mem_cons_of_mem _ hd'), (List.pairwise_cons.mp h4).2, fun d hd' x hx hB => ?_, fun d hd' x hx hin => ?_, fun x hx => ?_⟩
  · by_cases hB1 : B x = true
    · exact h5 d (List.mem_cons_of_mem _ hd') x hx hB1
    · have hKx : c.2.1 x = true := by
        simp at hB
        rcases hB with z | z
        · exact absurd z hB1
        · exact z
      exact ((hp1 d hd' x ((h3 c List.mem_cons_self).2.2 x hKx) hx).2).symm
  · rcases h6 d (List.mem_cons_of_mem _ hd') x hx hin with z | z
    · exact Or.inl z
    · exact Or.inr (by simp [z])
  · rcases h7 x hx with z | ⟨d, hd', hz⟩
    · exact Or.inl (by simp [z])
    · rcases List.mem_cons.mp hd' with rfl | h
      · exact Or.inl (by simp [hz])
      · exact Or.inr ⟨d, h, hz⟩
theorem rk_jn_congr {L0 : List Nat} {B0 : Nat → Bool} {u0 : Nat → Nat} {hd : rk_Pt} {cs : List rk_Col} {B : Nat → Bool} {u u' : Nat → Nat} (h : rk_jn L0 B0 u0 hd cs B u) (hu' : rk_okV u') (he : ∀ x, B x = true → u' x = u x) : rk_jn L0 B0 u0 hd cs B u' :=
  ⟨hu', fun x hx => ⟨(h.2.1 x hx).1, by rw [he x (h.2.1 x hx).1]; exact (h.2.1 x hx).2⟩, h.2.2⟩
theorem rk_hd_congr {L : List Nat} {hd : rk_Pt} {cs : List rk_Col} {B : Nat → Bool} {u u' : Nat → Nat} (he : ∀ x, B x = true → u' x = u x) (z : Nat) : rk_hd L hd cs B u' z ↔ rk_hd L hd cs B u z := by
  constructor
  · rintro ⟨v, h1, h2, h3⟩
    exact ⟨v, h1, fun x hx => by rw [h2 x hx, he x hx], h3⟩
  · rintro ⟨v, h1, h2, h3⟩
    exact ⟨v, h1, fun x hx => by rw [h2 x hx, he x hx], h3⟩
theorem rk_hd_jn {L0 : List Nat} (hL : ∀ k, k ∈ L0 → k < 32768) {B0 : Nat → Bool} {u0 : Nat → Nat} {hd : rk_Pt} {c : rk_Col} {cs : List rk_Col} {B : Nat → Bool} {u : Nat → Nat} (h : rk_jn L0 B0 u0 hd (c :: cs) B u) (z : Nat) :
    rk_hd L0 hd (c :: cs) B u z ↔ ∃ i, i < c.2.2.1 ∧ rk_cons c.1 (fun x => c.2.1 x && B x) u (c.2.2.2.1 i) ∧ rk_hd L0 hd cs (fun x => B x || c.2.1 x) (rk_bind c.1 (fun x => c.2.1 x && !B x) (c.2.2.2.1 i) u) z :=
  rk_hd_step hL h.1 h.2.1 (h.2.2.1 c List.mem_cons_self) (List.pairwise_cons.mp h.2.2.2.1).1 (h.2.2.2.2.1 c List.mem_cons_self) (fun x hx hin => h.2.2.2.2.2.1 c List.mem_cons_self x hx hin) z
/-- the code of a head whose variables are known -/
theorem rk_code_hd {P : rk_Pt} {B : Nat → Bool} {u : Nat → Nat} (hk : ∀ x, rk_in P x → B x = true) : rk_v (fun j => rk_num P j || rk_ink P B j) (rk_wt P u) = rk_inst P u := by
  have key : ∀ j, j < 3 → (rk_num P j || rk_ink P B j) = true ∧ rk_wt P u j = rk_val (rk_at P j) u := by
    intro j hj
    by_cases h : rk_at P j < 32
    · refine ⟨by simp [rk_num, h], ?_⟩
      unfold rk_wt rk_val
      rw [if_pos (by simp [rk_num, h]), if_pos h]
    · refine ⟨?_, ?_⟩
      · have := rk_ink_of (P := P) (S := B) (j := j) (x := rk_at P j - 32) (by omega) (hk _ ⟨j, hj, by omega⟩)
        simp [this]
      · unfold rk_wt rk_val
        rw [if_neg (by simp [rk_num, h]), if_neg h]
  unfold rk_v rk_inst
  rw [if_pos (key 0 (by decide)).1, if_pos (key 1 (by decide)).1, if_pos (key 2 (by decide)).1, (key 0 (by decide)).2, (key 1 (by decide)).2, (key 2 (by decide)).2]
  rfl
