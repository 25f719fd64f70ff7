/-! the heads that a join gives -/
theorem rk_sum_pos : ∀ {L : List Nat} {g : Nat → Nat}, 0 < rk_sum L g ↔ ∃ k, k ∈ L ∧ 0 < g k
  | [], g => by simp [rk_sum]
  | a :: L, g => by
    rw [rk_sum_cons]
    constructor
    · intro h
      by_cases ha : 0 < g a
      · exact ⟨a, List.mem_cons_self, ha⟩
      · obtain ⟨k, h1, h2⟩ := (rk_sum_pos (L := L) (g := g)).mp (by omega)
        exact ⟨k, List.mem_cons_of_mem _ h1, h2⟩
    · rintro ⟨k, h1, h2⟩
      rcases List.mem_cons.mp h1 with rfl | h
      · omega
      · have := (rk_sum_pos (L := L) (g := g)).mpr ⟨k, h, h2⟩
        omega
theorem rk_if_pos1 {p : Prop} : 0 < rk_if p 1 ↔ p := by
  by_cases h : p
  · rw [rk_if_t h]
    simp [h]
  · rw [rk_if_f h]
    simp [h]
theorem rk_col_of {L : List Nat} {B0 : Nat → Bool} {u0 : Nat → Nat} {c : rk_Col} (h : rk_colok L B0 u0 c) {i : Nat} (hi : i < c.2.2.1) : ∃ k, k ∈ L ∧ rk_mt c.1 B0 u0 k ∧ rk_part c.1 c.2.1 k = c.2.2.2.1 i := by
  have h1 := h.1 (fun p => rk_if (p = c.2.2.2.1 i) 1)
  have h2 : 0 < rk_sum (List.range c.2.2.1) (fun j => c.2.2.2.2 j * rk_if (c.2.2.2.1 j = c.2.2.2.1 i) 1) := rk_sum_pos.mpr ⟨i, List.mem_range.mpr hi, by rw [rk_if_t rfl, Nat.mul_one]; exact h.2.1 i hi⟩
  rw [h1] at h2
  obtain ⟨k, hk, h3⟩ := rk_sum_pos.mp h2
  by_cases hm : rk_mt c.1 B0 u0 k
  · rw [rk_if_t hm] at h3
    exact ⟨k, hk, hm, rk_if_pos1.mp h3⟩
  · rw [rk_if_f hm] at h3
    exact absurd h3 (Nat.lt_irrefl 0)
theorem rk_col_at {L : List Nat} {B0 : Nat → Bool} {u0 : Nat → Nat} {c : rk_Col} (h : rk_colok L B0 u0 c) {k : Nat} (hk : k ∈ L) (hm : rk_mt c.1 B0 u0 k) : ∃ i, i < c.2.2.1 ∧ c.2.2.2.1 i = rk_part c.1 c.2.1 k := by
  have h1 := h.1 (fun p => rk_if (p = rk_part c.1 c.2.1 k) 1)
  have h2 : 0 < rk_sum L (fun j => rk_if (rk_mt c.1 B0 u0 j) (rk_if (rk_part c.1 c.2.1 j = rk_part c.1 c.2.1 k) 1)) := rk_sum_pos.mpr ⟨k, hk, by rw [rk_if_t hm, rk_if_t rfl]; exact Nat.one_pos⟩
  rw [← h1] at h2
  obtain ⟨i, hi, h3⟩ := rk_sum_pos.mp h2
  refine ⟨i, List.mem_range.mp hi, ?_⟩
  by_cases e : c.2.2.2.1 i = rk_part c.1 c.2.1 k
  · exact e
  · rw [rk_if_f e] at h3
    simp at h3
def rk_hd (L : List Nat) (hd : rk_Pt) (cs : List rk_Col) (B : Nat → Bool) (u : Nat → Nat) (z : Nat) : Prop :=
  ∃ v, rk_okV v ∧ rk_ext B u v ∧ (∀ c, c ∈ cs → rk_inst c.1 v ∈ L) ∧ rk_inst hd v = z
theorem rk_hd_step {L : List Nat} (hL : ∀ k, k ∈ L → k < 32768) {hd : rk_Pt} {B0 : Nat → Bool} {u0 : Nat → Nat} {c : rk_Col} {cs : List rk_Col} {B : Nat → Bool} {u : Nat → Nat} (hu : rk_okV u) (h0 : ∀ x, B0 x = true → B x = true ∧ u0 x = u x) (hc : rk_colok L B0 u0 c) (hp : ∀ d, d ∈ cs → rk_shr2 B0 c d) (hH : ∀ x, rk_in c.1 x → B x = true → B0 x = true ∨ c.2.1 x = true) (hh : ∀ x, rk_in hd x → rk_in c.1 x → c.2.1 x = true ∨ B x = true) (z : Nat) :
    rk_hd L hd (c :: cs) B u z ↔ ∃ i, i < c.2.2.1 ∧ rk_cons c.1 (fun x => c.2.1 x && B x) u (c.2.2.2.1 i) ∧ rk_hd L hd cs (fun x => B x || c.2.1 x) (rk_bind c.1 (fun x => c.2.1 x && !B x) (c.2.2.2.1 i) u) z := by
  constructor
  · rintro ⟨v, hv, he, hi, hz⟩
    have hk : rk_inst c.1 v ∈ L := hi c List.mem_cons_self
    obtain ⟨s1, -⟩ := rk_step (K := c.2.1) (hL _ hk) hu h0 hc.2.2 hH
    obtain ⟨a1, a2, a3⟩ := s1 v hv he rfl
    obtain ⟨i, b1, b2⟩ := rk_col_at hc hk a1
    exact ⟨i, b1, by rw [b2]; exact a2, v, hv, by rw [b2]; exact a3, fun d hd => hi d (List.mem_cons_of_mem _ hd), hz⟩
  · rintro ⟨i, hi, hcn, v, hv, he, hr, hz⟩
    obtain ⟨k, hk, hm, hpk⟩ := rk_col_of hc hi
    rw [← hpk] at hcn he
    obtain ⟨-, s2⟩ := rk_step (K := c.2.1) (hL _ hk) hu h0 hc.2.2 hH
    obtain ⟨t1, t2, t3, t4⟩ := s2 hm hcn v hv he
    refine ⟨rk_mix c.1 k v, t1, t2, fun d hd => ?_, ?_⟩
    · rcases List.mem_cons.mp hd with rfl | h
      · rw [t3]
        exact hk
      · rw [← rk_inst_congr (v := v) (fun x hx => t4 x (fun hin => ?_))]
        · exact hr d h
        · rcases (hp d h x hin hx).1 with y | y
          · exact Or.inl y
          · exact Or.inr (h0 x y).1
    · rw [← hz]
      exact (rk_inst_congr (fun x hx => t4 x (fun hin => hh x hx hin))).symm
/-- with no column left there is one head, if its variables are known -/
theorem rk_hd_nil {L : List Nat} {hd : rk_Pt} {B : Nat → Bool} {u : Nat → Nat} (hu : rk_okV u) (hk : ∀ x, rk_in hd x → B x = true) (z : Nat) : rk_hd L hd [] B u z ↔ z = rk_inst hd u := by
  constructor
  · rintro ⟨v, hv, he, -, hz⟩
    rw [← hz]
    exact rk_inst_congr (fun x hx => he x (hk x hx))
  · intro h
    exact ⟨u, hu, fun _ _ => rfl, fun c hc => absurd hc List.not_mem_nil, h.symm⟩
/-- a head whose variables are known is one code -/
theorem rk_hd_known {L : List Nat} {hd : rk_Pt} {cs : List rk_Col} {B : Nat → Bool} {u : Nat → Nat} (hk : ∀ x, rk_in hd x → B x = true) {z : Nat} (h : rk_hd L hd cs B u z) : z = rk_inst hd u := by
  obtain ⟨v, hv, he, -, hz⟩ := h
  rw [← hz]
  exact rk_inst_congr (fun x hx => he x (hk x hx))
/-! rules: which variables of a pattern stand elsewhere too; the closing argument -/
def rk_nth (r : rk_Ru) (i : Nat) : rk_Pt := r.1.getD i (0, 0, 0)
def rk_shd (r : rk_Ru) (i x : Nat) : Prop := rk_in (rk_nth r i) x ∧ (rk_in r.2 x ∨ ∃ j, j < r.1.length ∧ j ≠ i ∧ rk_in (rk_nth r j) x)
theorem rk_nth_mem {r : rk_Ru} {i : Nat} (h : i < r.1.length) : rk_nth r i ∈ r.1 := by
  unfold rk_nth
  rw [List.getD_eq_getElem?_getD, List.getElem?_eq_getElem h]
  exact List.getElem_mem h
theorem rk_mem_nth {r : rk_Ru} {P : rk_Pt} (h : P ∈ r.1) : ∃ i, i < r.1.length ∧ rk_nth r i = P := by
  obtain ⟨i, hi, e⟩ := List.getElem_of_mem h
  refine ⟨i, hi, ?_⟩
  unfold rk_nth
  rw [List.getD_eq_getElem?_getD, List.getElem?_eq_getElem hi]
  exact e
/-- the cases of r with the newest of S at place i have their heads in X, or S without the newest has as good a one -/
def rk_drv (r : rk_Ru) (i : Nat) (S S1 : Nat → Prop) (X : Nat → Prop) : Prop :=
  ∀ v, rk_okV v → ¬ S (rk_inst (rk_nth r i) v) → (∀ j, j < r.1.length → S1 (rk_inst (rk_nth r j) v)) → X (rk_inst r.2 v) ∨ ∃ w, rk_okV w ∧ S (rk_inst (rk_nth r i) w) ∧ ∀ x, rk_shd r i x → w x = v x
theorem rk_drv_mono {r : rk_Ru} {i : Nat} {S S1 X Y : Nat → Prop} (h : rk_drv r i S S1 X) (hXY : ∀ k, X k → Y k) : rk_drv r i S S1 Y := fun v a b d => (h v a b d).imp (hXY _) id
theorem rk_reach {r : rk_Ru} {S S1 X : Nat → Prop} (hS1 : ∀ k, S k → S1 k) (hprev : ∀ v, rk_case r S v → X (rk_inst r.2 v)) (hd : ∀ i, i < r.1.length → rk_drv r i S S1 X) : ∀ v, rk_case r S1 v → X (rk_inst r.2 v) := by
  have key : ∀ n j, r.1.length - j = n → j ≤ r.1.length → ∀ v, rk_okV v → (∀ i, i < j → S (rk_inst (rk_nth r i) v)) → (∀ i, i < r.1.length → S1 (rk_inst (rk_nth r i) v)) → X (rk_inst r.2 v) := by
    intro n
    induction n with
    | zero =>
      intro j h1 h2 v hv ha _
      refine hprev v ⟨hv, fun P hP => ?_⟩
      obtain ⟨i, hi, rfl⟩ := rk_mem_nth hP
      exact ha i (by omega)
    | succ n ih =>
      intro j h1 h2 v hv ha hb
      by_cases hj : S (rk_inst (rk_nth r j) v)
      · refine ih (j + 1) (by omega) (by omega) v hv (fun i hi => ?_) hb
        by_cases e : i = j
        · rw [e]
          exact hj
        · exact ha i (by omega)
      · rcases hd j (by omega) v hv hj hb with h | ⟨w, hw, hS, hx⟩
        · exact h
        · have hm : rk_mt (rk_nth r j) (fun _ => false) w (rk_inst (rk_nth r j) w) := (rk_mt_iff (rk_inst_lt hw) (fun x hx => by cases hx)).mpr ⟨w, hw, (fun x hx => by cases hx), rfl⟩
          obtain ⟨u, eu⟩ : ∃ u, u = rk_mix (rk_nth r j) (rk_inst (rk_nth r j) w) v := ⟨_, rfl⟩
          have hu1 : ∀ x, rk_in (rk_nth r j) x → u x = w x := fun x ⟨q, hq, e⟩ => by
            rw [eu, rk_mix_at hm hq e, rk_dg_inst hw rfl hq e]
          have hu2 : ∀ x, ¬ rk_in (rk_nth r j) x → u x = v x := fun x h => by
            rw [eu, rk_mix_off h]
          have hok : rk_okV u := fun x => by
            by_cases h : rk_in (rk_nth r j) x
            · rw [hu1 x h]
              exact hw x
            · rw [hu2 x h]
              exact hv x
          have e1 : rk_inst (rk_nth r j) u = rk_inst (rk_nth r j) w := rk_inst_congr hu1
          have e2 : ∀ i, i < r.1.length → i ≠ j → rk_inst (rk_nth r i) u = rk_inst (rk_nth r i) v := fun i hi hne => rk_inst_congr (fun x hin => by
            by_cases h : rk_in (rk_nth r j) x
            · rw [hu1 x h]
              exact hx x ⟨h, Or.inr ⟨i, hi, hne, hin⟩⟩
            · exact hu2 x h)
          have e3 : rk_inst r.2 u = rk_inst r.2 v := rk_inst_congr (fun x hin => by
            by_cases h : rk_in (rk_nth r j) x
            · rw [hu1 x h]
              exact hx x ⟨h, Or.inl hin⟩
            · exact hu2 x h)
          rw [← e3]
          refine ih (j + 1) (by omega) (by omega) u hok (fun i hi => ?_) (fun i hi => ?_)
          · by_cases e : i = j
            · rw [e, e1]
              exact hS
            · rw [e2 i (by omega) e]
              exact ha i (by omega)
          · by_cases e : i = j
            · rw [e, e1]
              exact hS1 _ hS
            · rw [e2 i hi e]
              exact hb i hi
  intro v hc
  exact key _ 0 rfl (Nat.zero_le _) v hc.1 (fun i hi => absurd hi (Nat.not_lt_zero i)) (fun i hi => hc.2 _ (rk_nth_mem hi))
