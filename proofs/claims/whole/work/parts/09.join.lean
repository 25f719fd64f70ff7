/-! columns: what fits one pattern of a body, cut down to the variables that matter; joining them -/
def rk_tb (S x : Nat) : Bool := S.testBit x
/-- place j of P has a variable of the set S -/
def rk_ink (P : rk_Pt) (S : Nat → Bool) (j : Nat) : Bool := decide (32 ≤ rk_at P j) && S (rk_at P j - 32)
def rk_part (P : rk_Pt) (K : Nat → Bool) (k : Nat) : Nat := rk_v (rk_ink P K) (rk_dg k)
theorem rk_v_dg {f : Nat → Bool} {w : Nat → Nat} (hw : ∀ j, j < 3 → w j < 32) : ∀ j, j < 3 → f j = true → rk_dg (rk_v f w) j = w j := by
  have hl : ∀ j, j < 3 → (if f j then w j else 0) < 32 := fun j hj => rk_ite_lt (hw j hj)
  refine rk_j3 (fun h => ?_) (fun h => ?_) (fun h => ?_)
  · rw [rk_dg0 (rk_v_lt hw)]
    unfold rk_v
    rw [rk_pk_0 (hl 1 (by omega)) (hl 2 (by omega)), if_pos h]
  · rw [rk_dg1]
    unfold rk_v
    rw [rk_pk_1 (hl 1 (by omega)) (hl 2 (by omega)), if_pos h]
  · rw [rk_dg2]
    unfold rk_v
    rw [rk_pk_2 (hl 2 (by omega)), if_pos h]
theorem rk_part_dg {P : rk_Pt} {K : Nat → Bool} {k j : Nat} (hj : j < 3) (h : rk_ink P K j = true) : rk_dg (rk_part P K k) j = rk_dg k j := rk_v_dg (fun j _ => rk_dg_lt k j) j hj h
theorem rk_part_lt (P : rk_Pt) (K : Nat → Bool) (k : Nat) : rk_part P K k < 32768 := rk_v_lt (fun j _ => rk_dg_lt k j)
/-- a part is one with what is known -/
def rk_cons (P : rk_Pt) (S : Nat → Bool) (u : Nat → Nat) (p : Nat) : Prop := ∀ j, j < 3 → rk_ink P S j = true → rk_dg p j = u (rk_at P j - 32)
/-- the variables of S get their numbers out of p -/
def rk_bindn (P : rk_Pt) (S : Nat → Bool) (p : Nat) (u : Nat → Nat) : Nat → Nat → Nat
  | 0 => u
  | n + 1 => if rk_ink P S n then va_up (rk_bindn P S p u n) (rk_at P n - 32) (rk_dg p n) else rk_bindn P S p u n
def rk_bind (P : rk_Pt) (S : Nat → Bool) (p : Nat) (u : Nat → Nat) : Nat → Nat := rk_bindn P S p u 3
theorem rk_bindn_off {P : rk_Pt} {S : Nat → Bool} {p : Nat} {u : Nat → Nat} {x : Nat} (hx : S x = false) : ∀ n, rk_bindn P S p u n x = u x
  | 0 => rfl
  | n + 1 => by
    show (if rk_ink P S n then va_up (rk_bindn P S p u n) (rk_at P n - 32) (rk_dg p n) else rk_bindn P S p u n) x = u x
    by_cases h : rk_ink P S n = true
    · rw [if_pos h, va_up_ne _ _ (fun e => by
        unfold rk_ink at h
        rw [← e, hx] at h
        simp at h), rk_bindn_off hx n]
    · rw [if_neg h, rk_bindn_off hx n]
theorem rk_bind_off {P : rk_Pt} {S : Nat → Bool} {p : Nat} {u : Nat → Nat} {x : Nat} (hx : S x = false) : rk_bind P S p u x = u x := rk_bindn_off hx 3
/-- equal items, equal numbers -/
def rk_agr (P : rk_Pt) (S : Nat → Bool) (p : Nat) : Prop := ∀ i, i < 3 → ∀ j, j < 3 → rk_ink P S i = true → rk_at P i = rk_at P j → rk_dg p i = rk_dg p j
theorem rk_bindn_at {P : rk_Pt} {S : Nat → Bool} {p : Nat} {u : Nat → Nat} (ha : rk_agr P S p) {j : Nat} (hj : rk_ink P S j = true) : ∀ n, n ≤ 3 → j < n → rk_bindn P S p u n (rk_at P j - 32) = rk_dg p j
  | 0, _, h => absurd h (Nat.not_lt_zero j)
  | n + 1, hn, h => by
    show (if rk_ink P S n then va_up (rk_bindn P S p u n) (rk_at P n - 32) (rk_dg p n) else rk_bindn P S p u n) (rk_at P j - 32) = rk_dg p j
    have hj32 : 32 ≤ rk_at P j := by
      unfold rk_ink at hj
      simp at hj
      exact hj.1
    by_cases hi : rk_ink P S n = true
    · have hn32 : 32 ≤ rk_at P n := by
        unfold rk_ink at hi
        simp at hi
        exact hi.1
      rw [if_pos hi]
      by_cases e : rk_at P j - 32 = rk_at P n - 32
      · rw [e, va_up_self]
        exact ha n (by omega) j (by omega) hi (by omega)
      · rw [va_up_ne _ _ e]
        have hne : j ≠ n := fun z => e (by rw [z])
        exact rk_bindn_at ha hj n (by omega) (by omega)
    · rw [if_neg hi]
      have hne : j ≠ n := fun z => hi (by rw [← z]; exact hj)
      exact rk_bindn_at ha hj n (by omega) (by omega)
theorem rk_bind_at {P : rk_Pt} {S : Nat → Bool} {p : Nat} {u : Nat → Nat} (ha : rk_agr P S p) {j : Nat} (h3 : j < 3) (hj : rk_ink P S j = true) : rk_bind P S p u (rk_at P j - 32) = rk_dg p j := rk_bindn_at ha hj 3 (Nat.le_refl 3) h3
theorem rk_bindn_ok {P : rk_Pt} {S : Nat → Bool} {p : Nat} {u : Nat → Nat} (hu : rk_okV u) : ∀ n, rk_okV (rk_bindn P S p u n)
  | 0 => hu
  | n + 1 => by
    intro x
    show (if rk_ink P S n then va_up (rk_bindn P S p u n) (rk_at P n - 32) (rk_dg p n) else rk_bindn P S p u n) x < 32
    split
    · unfold va_up
      split
      · exact rk_dg_lt _ _
      · exact rk_bindn_ok hu n x
    · exact rk_bindn_ok hu n x
/-- a column: its pattern, the variables that it keeps, how many parts, the parts, how often -/
abbrev rk_Col : Type := rk_Pt × (Nat → Bool) × Nat × (Nat → Nat) × (Nat → Nat)
def rk_iot (n : Nat) : List Nat := List.range n
/-- the column c holds what of L fits its pattern, where the variables in B0 have the values u0 -/
def rk_colok (L : List Nat) (B0 : Nat → Bool) (u0 : Nat → Nat) (c : rk_Col) : Prop :=
  (∀ g : Nat → Nat, rk_sum (List.range c.2.2.1) (fun i => c.2.2.2.2 i * g (c.2.2.2.1 i)) = rk_sum L (fun k => rk_if (rk_mt c.1 B0 u0 k) (g (rk_part c.1 c.2.1 k)))) ∧ (∀ i, i < c.2.2.1 → 0 < c.2.2.2.2 i) ∧ ∀ x, c.2.1 x = true → rk_in c.1 x
noncomputable def rk_cj : List rk_Col → (Nat → Bool) → (Nat → Nat) → Nat
  | [], _, _ => 1
  | c :: cs, B, u => rk_sum (List.range c.2.2.1) (fun i => c.2.2.2.2 i * rk_if (rk_cons c.1 (fun x => c.2.1 x && B x) u (c.2.2.2.1 i)) (rk_cj cs (fun x => B x || c.2.1 x) (rk_bind c.1 (fun x => c.2.1 x && !B x) (c.2.2.2.1 i) u)))
def rk_ext (B : Nat → Bool) (u v : Nat → Nat) : Prop := ∀ x, B x = true → v x = u x
/-- variables of two columns are kept, or known from the start -/
def rk_shr2 (B0 : Nat → Bool) (c d : rk_Col) : Prop := ∀ x, rk_in c.1 x → rk_in d.1 x → (c.2.1 x = true ∨ B0 x = true) ∧ (d.2.1 x = true ∨ B0 x = true)
/-- the assignment that has k's numbers on P's variables, and else v's -/
def rk_mix (P : rk_Pt) (k : Nat) (v : Nat → Nat) (x : Nat) : Nat := if rk_at P 0 = 32 + x then rk_dg k 0 else if rk_at P 1 = 32 + x then rk_dg k 1 else if rk_at P 2 = 32 + x then rk_dg k 2 else v x
theorem rk_mix_ok {P : rk_Pt} {k : Nat} {v : Nat → Nat} (hv : rk_okV v) : rk_okV (rk_mix P k v) := by
  intro x
  unfold rk_mix
  split
  · exact rk_dg_lt _ _
  · split
    · exact rk_dg_lt _ _
    · split
      · exact rk_dg_lt _ _
      · exact hv x
theorem rk_mix_off {P : rk_Pt} {k : Nat} {v : Nat → Nat} {x : Nat} (h : ¬ rk_in P x) : rk_mix P k v x = v x := by
  unfold rk_mix
  rw [if_neg (fun e => h ⟨0, by omega, e⟩), if_neg (fun e => h ⟨1, by omega, e⟩), if_neg (fun e => h ⟨2, by omega, e⟩)]
theorem rk_mix_at {P : rk_Pt} {B : Nat → Bool} {u : Nat → Nat} {k : Nat} {v : Nat → Nat} (hm : rk_mt P B u k) {j x : Nat} (hj : j < 3) (e : rk_at P j = 32 + x) : rk_mix P k v x = rk_dg k j := by
  unfold rk_mix
  by_cases c0 : rk_at P 0 = 32 + x
  · rw [if_pos c0]
    exact hm.2.2 0 j (by omega) hj (by omega)
  · rw [if_neg c0]
    by_cases c1 : rk_at P 1 = 32 + x
    · rw [if_pos c1]
      exact hm.2.2 1 j (by omega) hj (by omega)
    · rw [if_neg c1]
      by_cases c2 : rk_at P 2 = 32 + x
      · rw [if_pos c2]
        exact hm.2.2 2 j (by omega) hj (by omega)
      · exfalso
        rcases (show j = 0 ∨ j = 1 ∨ j = 2 by omega) with rfl | rfl | rfl
        · exact c0 e
        · exact c1 e
        · exact c2 e
theorem rk_mix_inst {P : rk_Pt} {B : Nat → Bool} {u : Nat → Nat} {k : Nat} {v : Nat → Nat} (hk : k < 32768) (hm : rk_mt P B u k) (hv : rk_okV v) : rk_inst P (rk_mix P k v) = k := by
  symm
  rw [rk_is_inst (rk_mix_ok hv) hk]
  intro j hj
  unfold rk_val
  by_cases hn : rk_at P j < 32
  · rw [if_pos hn]
    exact hm.1 j hj hn
  · rw [if_neg hn]
    exact (rk_mix_at hm hj (by omega)).symm
theorem rk_dg_inst {P : rk_Pt} {v : Nat → Nat} {k j x : Nat} (hv : rk_okV v) (h : rk_inst P v = k) (hj : j < 3) (e : rk_at P j = 32 + x) : rk_dg k j = v x := by
  rw [← h, rk_inst_dg hv j hj]
  unfold rk_val
  rw [if_neg (by omega), e, Nat.add_sub_cancel_left]
theorem rk_ink_of {P : rk_Pt} {S : Nat → Bool} {j x : Nat} (e : rk_at P j = 32 + x) (h : S x = true) : rk_ink P S j = true := by
  unfold rk_ink
  rw [e, Nat.add_sub_cancel_left, h]
  simp
theorem rk_ink_spec {P : rk_Pt} {S : Nat → Bool} {j : Nat} (h : rk_ink P S j = true) : rk_at P j = 32 + (rk_at P j - 32) ∧ S (rk_at P j - 32) = true := by
  unfold rk_ink at h
  simp at h
  exact ⟨by omega, h.2⟩
theorem rk_part_agr {P : rk_Pt} {B : Nat → Bool} {u : Nat → Nat} {K S : Nat → Bool} {k : Nat} (hm : rk_mt P B u k) (hS : ∀ x, S x = true → K x = true) : rk_agr P S (rk_part P K k) := by
  intro i hi j hj h e
  have h1 := rk_ink_spec h
  have hK : rk_ink P K i = true := rk_ink_of h1.1 (hS _ h1.2)
  have hK2 : rk_ink P K j = true := rk_ink_of (by rw [← e]; exact h1.1) (hS _ h1.2)
  rw [rk_part_dg hi hK, rk_part_dg hj hK2]
  exact hm.2.2 i j hi hj e
/-- one step of a join: with the triple k at the first column -/
theorem rk_step {P : rk_Pt} {K B0 B : Nat → Bool} {u0 u : Nat → Nat} {k : Nat} (hk : k < 32768) (hu : rk_okV u) (h0 : ∀ x, B0 x = true → B x = true ∧ u0 x = u x) (hK : ∀ x, K x = true → rk_in P x) (hH : ∀ x, rk_in P x → B x = true → B0 x = true ∨ K x = true) :
    (∀ v, rk_okV v → rk_ext B u v → rk_inst P v = k → rk_mt P B0 u0 k ∧ rk_cons P (fun x => K x && B x) u (rk_part P K k) ∧ rk_ext (fun x => B x || K x) (rk_bind P (fun x => K x && !B x) (rk_part P K k) u) v) ∧
    (rk_mt P B0 u0 k → rk_cons P (fun x => K x && B x) u (rk_part P K k) → ∀ v, rk_okV v → rk_ext (fun x => B x || K x) (rk_bind P (fun x => K x && !B x) (rk_part P K k) u) v → rk_okV (rk_mix P k v) ∧ rk_ext B u (rk_mix P k v) ∧ rk_inst P (rk_mix P k v) = k ∧ ∀ x, (rk_in P x → K x = true ∨ B x = true) → v x = rk_mix P k v x) := by
  constructor
  · intro v hv he hi
    have hm : rk_mt P B0 u0 k := (rk_mt_iff hk (fun x hx => by rw [(h0 x hx).2]; exact hu x)).mpr ⟨v, hv, fun x hx => by rw [he x (h0 x hx).1, (h0 x hx).2], hi⟩
    refine ⟨hm, fun j hj h => ?_, fun x hx => ?_⟩
    · obtain ⟨e, hs⟩ := rk_ink_spec h
      simp at hs
      rw [rk_part_dg hj (rk_ink_of e hs.1), rk_dg_inst hv hi hj e, he _ hs.2]
    · by_cases hB : B x = true
      · rw [rk_bind_off (by simp [hB]), he x hB]
      · have hKx : K x = true := by
          simp at hx
          rcases hx with z | z
          · exact absurd z hB
          · exact z
        obtain ⟨j, hj, e⟩ := hK x hKx
        have hB' : B x = false := by simpa using hB
        have hink : rk_ink P (fun x => K x && !B x) j = true := rk_ink_of e (by simp [hKx, hB'])
        have hb := rk_bind_at (u := u) (rk_part_agr (S := fun x => K x && !B x) hm (fun y hy => by simp at hy; exact hy.1)) hj hink
        rw [e, Nat.add_sub_cancel_left] at hb
        rw [hb, rk_part_dg hj (rk_ink_of e hKx), rk_dg_inst hv hi hj e]
  · intro hm hc v hv he
    have known : ∀ j x, j < 3 → rk_at P j = 32 + x → B x = true → rk_dg k j = u x := by
      intro j x hj e hB
      rcases hH x ⟨j, hj, e⟩ hB with z | z
      · have := hm.2.1 j hj (by omega) (by rw [e, Nat.add_sub_cancel_left]; exact z)
        rw [this, e, Nat.add_sub_cancel_left, (h0 x z).2]
      · have h1 := hc j hj (rk_ink_of e (by simp [z, hB]))
        rw [rk_part_dg hj (rk_ink_of e z), e, Nat.add_sub_cancel_left] at h1
        exact h1
    refine ⟨rk_mix_ok hv, fun x hB => ?_, rk_mix_inst hk hm hv, fun x hx => ?_⟩
    · by_cases hin : rk_in P x
      · obtain ⟨j, hj, e⟩ := hin
        rw [rk_mix_at hm hj e, known j x hj e hB]
      · rw [rk_mix_off hin, he x (by simp [hB]), rk_bind_off (by simp [hB])]
    · by_cases hin : rk_in P x
      · obtain ⟨j, hj, e⟩ := id hin
        rw [rk_mix_at hm hj e]
        by_cases hB : B x = true
        · rw [he x (by simp [hB]), rk_bind_off (by simp [hB]), known j x hj e hB]
        · have hKx : K x = true := by
            rcases hx hin with z | z
            · exact z
            · exact absurd z hB
          have hB' : B x = false := by simpa using hB
          have hink : rk_ink P (fun x => K x && !B x) j = true := rk_ink_of e (by simp [hKx, hB'])
          have hb := rk_bind_at (u := u) (rk_part_agr (S := fun x => K x && !B x) hm (fun y hy => by simp at hy; exact hy.1)) hj hink
          rw [e, Nat.add_sub_cancel_left] at hb
          rw [he x (by simp [hKx]), hb, rk_part_dg hj (rk_ink_of e hKx)]
      · rw [rk_mix_off hin]
theorem rk_bind_ok {P : rk_Pt} {S : Nat → Bool} {p : Nat} {u : Nat → Nat} (hu : rk_okV u) : rk_okV (rk_bind P S p u) := rk_bindn_ok hu 3
/-- the count of a join is how many rows of triples there are -/
theorem rk_cj_tup {L : List Nat} (hL : ∀ k, k ∈ L → k < 32768) {B0 : Nat → Bool} {u0 : Nat → Nat} : ∀ {cs : List rk_Col} {B : Nat → Bool} {u : Nat → Nat}, rk_okV u → (∀ x, B0 x = true → B x = true ∧ u0 x = u x) → (∀ c, c ∈ cs → rk_colok L B0 u0 c) → cs.Pairwise (rk_shr2 B0) → (∀ c, c ∈ cs → ∀ x, rk_in c.1 x → B x = true → B0 x = true ∨ c.2.1 x = true) →
    rk_cj cs B u = rk_tup L (cs.map (fun c => c.1)) (rk_ext B u)
  | [], B, u, hu, _, _, _, _ => (rk_if_t ⟨u, hu, fun _ _ => rfl⟩).symm
  | c :: cs, B, u, hu, h0, hc, hp, hH => by
    obtain ⟨hs, -, hK⟩ := hc c List.mem_cons_self
    have hp1 := (List.pairwise_cons.mp hp).1
    have hp2 := (List.pairwise_cons.mp hp).2
    show rk_sum (List.range c.2.2.1) (fun i => c.2.2.2.2 i * rk_if (rk_cons c.1 (fun x => c.2.1 x && B x) u (c.2.2.2.1 i)) (rk_cj cs (fun x => B x || c.2.1 x) (rk_bind c.1 (fun x => c.2.1 x && !B x) (c.2.2.2.1 i) u))) = rk_sum L (fun k => rk_tup L (cs.map (fun c => c.1)) (fun v => rk_ext B u v ∧ rk_inst c.1 v = k))
    rw [hs (fun p => rk_if (rk_cons c.1 (fun x => c.2.1 x && B x) u p) (rk_cj cs (fun x => B x || c.2.1 x) (rk_bind c.1 (fun x => c.2.1 x && !B x) p u)))]
    refine rk_sum_congr (fun k hk => ?_)
    obtain ⟨s1, s2⟩ := rk_step (K := c.2.1) (hL k hk) hu h0 hK (hH c List.mem_cons_self)
    by_cases hm : rk_mt c.1 B0 u0 k
    · rw [rk_if_t hm]
      by_cases hcn : rk_cons c.1 (fun x => c.2.1 x && B x) u (rk_part c.1 c.2.1 k)
      · rw [rk_if_t hcn, rk_cj_tup hL (rk_bind_ok hu) (fun x hx => ⟨by simp [(h0 x hx).1], by rw [rk_bind_off (by simp [(h0 x hx).1])]; exact (h0 x hx).2⟩) (fun d hd => hc d (List.mem_cons_of_mem _ hd)) hp2 (fun d hd x hx hB => ?_)]
        · refine rk_tup_congr (fun v hv he => ?_) (fun v hv he => ⟨v, hv, (s1 v hv he.1 he.2).2.2, fun _ _ _ _ => rfl⟩)
          obtain ⟨t1, t2, t3, t4⟩ := s2 hm hcn v hv he
          refine ⟨rk_mix c.1 k v, t1, ⟨t2, t3⟩, fun P hP x hx => t4 x (fun hin => ?_)⟩
          obtain ⟨d, hd, rfl⟩ := List.mem_map.mp hP
          rcases (hp1 d hd x hin hx).1 with z | z
          · exact Or.inl z
          · exact Or.inr (h0 x z).1
        · by_cases hB1 : B x = true
          · exact hH d (List.mem_cons_of_mem _ hd) x hx hB1
          · have hKx : c.2.1 x = true := by
              simp at hB
              rcases hB with z | z
              · exact absurd z hB1
              · exact z
            exact ((hp1 d hd x (hK x hKx) hx).2).symm
      · rw [rk_if_f hcn, rk_tup_none (fun v hv hF => hcn (s1 v hv hF.1 hF.2).2.1)]
    · rw [rk_if_f hm, rk_tup_none (fun v hv hF => hm (s1 v hv hF.1 hF.2).1)]
