/-! rules, and the least set that holds what was said and what follows -/
abbrev rk_Ru : Type := List rk_Pt × rk_Pt
/-- the case v of the rule r lies in X -/
def rk_case (r : rk_Ru) (X : Nat → Prop) (v : Nat → Nat) : Prop := rk_okV v ∧ ∀ P, P ∈ r.1 → X (rk_inst P v)
def rk_closed (rs : List rk_Ru) (X : Nat → Prop) : Prop := ∀ r, r ∈ rs → ∀ v, rk_case r X v → X (rk_inst r.2 v)
def rk_lfp (said : Nat → Bool) (rs : List rk_Ru) (k : Nat) : Prop := ∀ X : Nat → Prop, (∀ j, said j = true → X j) → rk_closed rs X → X k
theorem rk_lfp_said {said : Nat → Bool} {rs : List rk_Ru} {k : Nat} (h : said k = true) : rk_lfp said rs k := fun _ h1 _ => h1 k h
theorem rk_lfp_closed {said : Nat → Bool} {rs : List rk_Ru} : rk_closed rs (rk_lfp said rs) := fun r hr v hc X h1 h2 => h2 r hr v ⟨hc.1, fun P hP => hc.2 P hP X h1 h2⟩
theorem rk_closed_sub {rs rs' : List rk_Ru} {X : Nat → Prop} (h : ∀ r, r ∈ rs → r ∈ rs') (hX : rk_closed rs' X) : rk_closed rs X := fun r hr => hX r (h r hr)
theorem rk_lfp_mono {said said' : Nat → Bool} {rs rs' : List rk_Ru} {k : Nat} (h1 : ∀ j, said j = true → said' j = true) (h2 : ∀ r, r ∈ rs → r ∈ rs') (h : rk_lfp said rs k) : rk_lfp said' rs' k :=
  fun X g1 g2 => h X (fun j hj => g1 j (h1 j hj)) (rk_closed_sub h2 g2)
theorem rk_lfp_lt {said : Nat → Bool} {rs : List rk_Ru} {k : Nat} (hs : ∀ j, said j = true → j < 32768) (h : rk_lfp said rs k) : k < 32768 :=
  h (fun j => j < 32768) hs (fun _ _ _ hc => rk_inst_lt hc.1)
/-- the row L is what holds -/
def rk_holds (said : Nat → Bool) (rs : List rk_Ru) (L : List Nat) : Prop := L.Nodup ∧ L.length ≤ 300 ∧ ∀ k, k ∈ L ↔ rk_lfp said rs k
/-- more than 300 would hold -/
def rk_much (said : Nat → Bool) (rs : List rk_Ru) : Prop := ∃ L : List Nat, L.Nodup ∧ 300 < L.length ∧ ∀ k, k ∈ L → rk_lfp said rs k
theorem rk_nodup_le : ∀ {L K : List Nat}, L.Nodup → (∀ k, k ∈ L → k ∈ K) → L.length ≤ K.length
  | [], K, _, _ => Nat.zero_le _
  | a :: L, K, hn, hs => by
    have ha : a ∈ K := hs a List.mem_cons_self
    have h1 := List.length_erase_of_mem ha
    have h2 : 0 < K.length := List.length_pos_of_mem ha
    have ih := rk_nodup_le (L := L) (K := K.erase a) (List.nodup_cons.mp hn).2 (fun k hk => (List.mem_erase_of_ne (fun e => (List.nodup_cons.mp hn).1 (by rw [← e]; exact hk))).mpr (hs k (List.mem_cons_of_mem _ hk)))
    simp only [List.length_cons]
    omega
theorem rk_not_much {said : Nat → Bool} {rs : List rk_Ru} {L : List Nat} (h : rk_holds said rs L) : ¬ rk_much said rs := by
  rintro ⟨K, h1, h2, h3⟩
  have := rk_nodup_le (L := K) (K := L) h1 (fun k hk => (h.2.2 k).mpr (h3 k hk))
  have := h.2.1
  omega
/-- two rows without repeats and with the same members are the same but for the order -/
theorem rk_perm : ∀ {L K : List Nat}, L.Nodup → K.Nodup → (∀ k, k ∈ L ↔ k ∈ K) → List.Perm L K
  | [], K, _, _, h => by
    cases K with
    | nil => exact List.Perm.refl _
    | cons b K => exact absurd ((h b).mpr List.mem_cons_self) List.not_mem_nil
  | a :: L, K, hL, hK, h => by
    have ha : a ∈ K := (h a).mp List.mem_cons_self
    have ih := rk_perm (L := L) (K := K.erase a) (List.nodup_cons.mp hL).2 (hK.erase a) (fun k => by
      by_cases e : k = a
      · subst e
        exact ⟨fun z => absurd z (List.nodup_cons.mp hL).1, fun z => absurd z (fun z => (hK.mem_erase_iff.mp z).1 rfl)⟩
      · rw [List.mem_erase_of_ne e, ← h k, List.mem_cons]
        simp [e])
    exact (List.Perm.cons a ih).trans (List.perm_cons_erase ha).symm
theorem rk_holds_perm {said : Nat → Bool} {rs : List rk_Ru} {L K : List Nat} (hL : rk_holds said rs L) (hK : rk_holds said rs K) : List.Perm L K :=
  rk_perm hL.1 hK.1 (fun k => (hL.2.2 k).trans (hK.2.2 k).symm)
