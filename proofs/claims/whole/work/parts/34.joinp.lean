/-! joins depend on what is known alone; masks against sets -/
theorem rk_tb_and (a b : Nat) : rk_tb (a &&& b) = fun x => rk_tb a x && rk_tb b x := by
  funext x
  exact Nat.testBit_and a b x
theorem rk_tb_or (a b : Nat) : rk_tb (a ||| b) = fun x => rk_tb a x || rk_tb b x := by
  funext x
  exact Nat.testBit_or a b x
theorem rk_tb_an (a b : Nat) : rk_tb (rk_an a b) = fun x => rk_tb a x && !rk_tb b x := by
  funext x
  exact rk_an_tb a b x
theorem rk_bindn_eq {P : rk_Pt} {S : Nat → Bool} {p : Nat} {u u' : Nat → Nat} {x : Nat} : ∀ n, (∃ j, j < n ∧ rk_at P j = 32 + x ∧ S x = true) → rk_bindn P S p u n x = rk_bindn P S p u' n x
  | 0, ⟨j, h, _⟩ => absurd h (Nat.not_lt_zero j)
  | n + 1, ⟨j, hj, e, hS⟩ => by
    show (if rk_ink P S n then va_up (rk_bindn P S p u n) (rk_at P n - 32) (rk_dg p n) else rk_bindn P S p u n) x = (if rk_ink P S n then va_up (rk_bindn P S p u' n) (rk_at P n - 32) (rk_dg p n) else rk_bindn P S p u' n) x
    by_cases hi : rk_ink P S n = true
    · rw [if_pos hi, if_pos hi]
      by_cases hx : x = rk_at P n - 32
      · rw [hx, va_up_self, va_up_self]
      · rw [va_up_ne _ _ hx, va_up_ne _ _ hx]
        exact rk_bindn_eq n ⟨j, by
          by_cases z : j = n
          · subst z
            omega
          · omega, e, hS⟩
    · rw [if_neg hi, if_neg hi]
      exact rk_bindn_eq n ⟨j, by
        by_cases z : j = n
        · subst z
          exact absurd (rk_ink_of e hS) hi
        · omega, e, hS⟩
/-- binding makes of assignments that agree on B ones that agree on B and on what is bound -/
theorem rk_bind_ext {P : rk_Pt} {K B : Nat → Bool} {p : Nat} {u u' : Nat → Nat} (hK : ∀ x, K x = true → rk_in P x) (h : ∀ x, B x = true → u x = u' x) : ∀ x, (B x || K x) = true → rk_bind P (fun x => K x && !B x) p u x = rk_bind P (fun x => K x && !B x) p u' x := by
  intro x hx
  by_cases hB : B x = true
  · rw [rk_bind_off (by simp [hB]), rk_bind_off (by simp [hB])]
    exact h x hB
  · have hB' : B x = false := by simpa using hB
    have hKx : K x = true := by simpa [hB'] using hx
    obtain ⟨j, hj, e⟩ := hK x hKx
    exact rk_bindn_eq 3 ⟨j, hj, e, by simp [hKx, hB']⟩
theorem rk_cons_congr {P : rk_Pt} {K B : Nat → Bool} {p : Nat} {u u' : Nat → Nat} (h : ∀ x, B x = true → u x = u' x) : rk_cons P (fun x => K x && B x) u p ↔ rk_cons P (fun x => K x && B x) u' p := by
  constructor
  · intro g j hj hi
    have := (rk_ink_spec hi).2
    simp at this
    rw [g j hj hi, h _ this.2]
  · intro g j hj hi
    have := (rk_ink_spec hi).2
    simp at this
    rw [g j hj hi, h _ this.2]
theorem rk_cj_congr : ∀ {cs : List rk_Col} {B : Nat → Bool} {u u' : Nat → Nat}, (∀ c, c ∈ cs → ∀ x, c.2.1 x = true → rk_in c.1 x) → (∀ x, B x = true → u x = u' x) → rk_cj cs B u = rk_cj cs B u'
  | [], _, _, _, _, _ => rfl
  | c :: cs, B, u, u', hK, h => by
    refine rk_sum_congr (fun i _ => ?_)
    congr 1
    refine rk_if_congr (rk_cons_congr h) (fun _ => ?_)
    exact rk_cj_congr (fun d hd => hK d (List.mem_cons_of_mem _ hd)) (rk_bind_ext (hK c List.mem_cons_self) h)
theorem rk_cons_sel {P : rk_Pt} {S : Nat → Bool} {u : Nat → Nat} {p : Nat} (hp : p < 32768) (hu : rk_okV u) : p &&& rk_m (rk_ink P S) = rk_v (rk_ink P S) (fun j => u (rk_at P j - 32)) ↔ rk_cons P S u p := rk_sel hp (fun j _ => hu _)
theorem rk_colD_drop {L : List rk_Col} {i : Nat} (h : i < L.length) : L.drop i = L.getD i rk_col0 :: L.drop (i + 1) := by
  rw [List.drop_eq_getElem_cons h, List.getD_eq_getElem?_getD, List.getElem?_eq_getElem h]
  rfl
theorem rk_colD_mem {L : List rk_Col} {i : Nat} (h : i < L.length) : L.getD i rk_col0 ∈ L := by
  rw [List.getD_eq_getElem?_getD, List.getElem?_eq_getElem h]
  exact List.getElem_mem h
