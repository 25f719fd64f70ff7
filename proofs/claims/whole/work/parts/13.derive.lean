/-! one triple at one place of a body: what the join of the other places gives -/
/-- the columns of all places of r but i, as far as place n -/
def rk_cols (r : rk_Ru) (i : Nat) (cf : Nat → rk_Col) : Nat → List rk_Col
  | 0 => []
  | n + 1 => rk_cols r i cf n ++ (if n = i then [] else [cf n])
theorem rk_cols_mem {r : rk_Ru} {i : Nat} {cf : Nat → rk_Col} {c : rk_Col} : ∀ {n : Nat}, c ∈ rk_cols r i cf n ↔ ∃ j, j < n ∧ j ≠ i ∧ c = cf j
  | 0 => by simp [rk_cols]
  | n + 1 => by
    show c ∈ rk_cols r i cf n ++ (if n = i then [] else [cf n]) ↔ _
    rw [List.mem_append, rk_cols_mem (n := n)]
    by_cases e : n = i
    · rw [if_pos e]
      simp only [List.not_mem_nil, or_false]
      constructor
      · rintro ⟨j, h1, h2⟩
        exact ⟨j, by omega, h2⟩
      · rintro ⟨j, h1, h2, h3⟩
        exact ⟨j, by omega, h2, h3⟩
    · rw [if_neg e, List.mem_singleton]
      constructor
      · rintro (⟨j, h1, h2⟩ | h)
        · exact ⟨j, by omega, h2⟩
        · exact ⟨n, by omega, e, h⟩
      · rintro ⟨j, h1, h2, h3⟩
        by_cases e2 : j = n
        · subst e2
          exact Or.inr h3
        · exact Or.inl ⟨j, by omega, h2, h3⟩
theorem rk_cols_pw {r : rk_Ru} {i : Nat} {cf : Nat → rk_Col} {Rl : rk_Col → rk_Col → Prop} : ∀ {n : Nat}, (∀ a b, a < b → b < n → a ≠ i → b ≠ i → Rl (cf a) (cf b)) → (rk_cols r i cf n).Pairwise Rl
  | 0, _ => List.Pairwise.nil
  | n + 1, h => by
    show (rk_cols r i cf n ++ (if n = i then [] else [cf n])).Pairwise Rl
    rw [List.pairwise_append]
    refine ⟨rk_cols_pw (fun a b h1 h2 => h a b h1 (by omega)), ?_, ?_⟩
    · split
      · exact List.Pairwise.nil
      · exact List.pairwise_singleton _ _
    · intro x hx y hy
      obtain ⟨j, h1, h2, rfl⟩ := rk_cols_mem.mp hx
      by_cases e : n = i
      · rw [if_pos e] at hy
        exact absurd hy List.not_mem_nil
      · rw [if_neg e] at hy
        rw [List.mem_singleton.mp hy]
        exact h j n h1 (Nat.lt_succ_self n) h2 e
/-- column j of the rule r, where the variables in the mask b are known from the start -/
def rk_iscol (r : rk_Ru) (b j : Nat) (c : rk_Col) : Prop := c.1 = rk_nth r j ∧ c.2.1 = rk_tb (rk_an (rk_shm r j) b)
theorem rk_shr2_of {r : rk_Ru} {b i j : Nat} {c d : rk_Col} (hc : rk_iscol r b i c) (hd : rk_iscol r b j d) (hi : i < r.1.length) (hj : j < r.1.length) (hne : i ≠ j) : rk_shr2 (rk_tb b) c d := by
  intro x h1 h2
  rw [hc.1] at h1
  rw [hd.1] at h2
  have e1 : (rk_shm r i).testBit x = true := rk_shm_tb.mpr ⟨h1, Or.inr ⟨j, hj, Ne.symm hne, h2⟩⟩
  have e2 : (rk_shm r j).testBit x = true := rk_shm_tb.mpr ⟨h2, Or.inr ⟨i, hi, hne, h1⟩⟩
  rw [hc.2, hd.2]
  unfold rk_tb
  rw [rk_an_tb, rk_an_tb, e1, e2]
  cases b.testBit x <;> simp
theorem rk_iscol_in {r : rk_Ru} {b j : Nat} {c : rk_Col} (hc : rk_iscol r b j c) {x : Nat} (h : c.2.1 x = true) : rk_in c.1 x := by
  rw [hc.2] at h
  unfold rk_tb at h
  rw [rk_an_tb] at h
  simp at h
  rw [hc.1]
  exact (rk_shm_tb.mp h.1).1
/-- with the code q at place i: the heads of the join are the heads of the cases -/
theorem rk_hd_cases {L : List Nat} {r : rk_Ru} {i q : Nat} {cf : Nat → rk_Col} {u : Nat → Nat} (hq : q < 32768) (hi : i < r.1.length) (hcf : ∀ j, j < r.1.length → j ≠ i → rk_iscol r (rk_shm r i) j (cf j)) (hm : rk_mt (rk_nth r i) (fun _ => false) u q) (hu : ∀ j x, j < 3 → rk_at (rk_nth r i) j = 32 + x → rk_tb (rk_shm r i) x = true → u x = rk_dg q j) (z : Nat) :
    rk_hd L r.2 (rk_cols r i cf r.1.length) (rk_tb (rk_shm r i)) u z ↔ ∃ v, rk_okV v ∧ rk_inst (rk_nth r i) v = q ∧ (∀ j, j < r.1.length → j ≠ i → rk_inst (rk_nth r j) v ∈ L) ∧ rk_inst r.2 v = z := by
  constructor
  · rintro ⟨v, hv, he, hr, hz⟩
    have hin : ∀ x, rk_in (rk_nth r i) x → rk_shd r i x → rk_mix (rk_nth r i) q v x = v x := by
      rintro x ⟨j, hj, e⟩ hs
      have hb : rk_tb (rk_shm r i) x = true := rk_shm_tb.mpr hs
      rw [rk_mix_at hm hj e, he x hb, hu j x hj e hb]
    refine ⟨rk_mix (rk_nth r i) q v, rk_mix_ok hv, rk_mix_inst hq hm hv, fun j hj hne => ?_, ?_⟩
    · have h1 := hr (cf j) (rk_cols_mem.mpr ⟨j, hj, hne, rfl⟩)
      rw [(hcf j hj hne).1] at h1
      rw [rk_inst_congr (w := v) (fun x hx => ?_)]
      · exact h1
      · by_cases hx2 : rk_in (rk_nth r i) x
        · exact hin x hx2 ⟨hx2, Or.inr ⟨j, hj, hne, hx⟩⟩
        · exact rk_mix_off hx2
    · rw [← hz]
      refine rk_inst_congr (fun x hx => ?_)
      by_cases hx2 : rk_in (rk_nth r i) x
      · exact hin x hx2 ⟨hx2, Or.inl hx⟩
      · exact rk_mix_off hx2
  · rintro ⟨v, hv, hvq, hr, hz⟩
    refine ⟨v, hv, fun x hx => ?_, fun c hc => ?_, hz⟩
    · obtain ⟨j, hj, e⟩ := (rk_shm_tb.mp hx).1
      rw [hu j x hj e hx]
      exact (rk_dg_inst hv hvq hj e).symm
    · obtain ⟨j, h1, h2, rfl⟩ := rk_cols_mem.mp hc
      rw [(hcf j h1 h2).1]
      exact hr j h1 h2
