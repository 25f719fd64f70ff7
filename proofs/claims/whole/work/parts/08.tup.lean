/-! how many rows of triples, one for each pattern, some assignment makes -/
noncomputable def rk_if (p : Prop) (a : Nat) : Nat := @ite Nat p (Classical.propDecidable p) a 0
theorem rk_if_t {p : Prop} {a : Nat} (h : p) : rk_if p a = a := if_pos h
theorem rk_if_f {p : Prop} {a : Nat} (h : ¬ p) : rk_if p a = 0 := if_neg h
theorem rk_if_congr {p q : Prop} {a b : Nat} (h : p ↔ q) (e : p → a = b) : rk_if p a = rk_if q b := by
  by_cases hp : p
  · rw [rk_if_t hp, rk_if_t (h.mp hp), e hp]
  · rw [rk_if_f hp, rk_if_f (fun z => hp (h.mpr z))]
def rk_sum (L : List Nat) (g : Nat → Nat) : Nat := (L.map g).sum
theorem rk_sum_nil (g : Nat → Nat) : rk_sum [] g = 0 := rfl
theorem rk_sum_cons (a : Nat) (L : List Nat) (g : Nat → Nat) : rk_sum (a :: L) g = g a + rk_sum L g := by simp [rk_sum]
theorem rk_sum_app (L K : List Nat) (g : Nat → Nat) : rk_sum (L ++ K) g = rk_sum L g + rk_sum K g := by simp [rk_sum]
theorem rk_sum_congr : ∀ {L : List Nat} {g h : Nat → Nat}, (∀ k, k ∈ L → g k = h k) → rk_sum L g = rk_sum L h
  | [], _, _, _ => rfl
  | a :: L, g, h, e => by rw [rk_sum_cons, rk_sum_cons, e a List.mem_cons_self, rk_sum_congr (L := L) (fun k hk => e k (List.mem_cons_of_mem _ hk))]
theorem rk_sum_0 : ∀ {L : List Nat} {g : Nat → Nat}, (∀ k, k ∈ L → g k = 0) → rk_sum L g = 0
  | [], _, _ => rfl
  | a :: L, g, e => by rw [rk_sum_cons, e a List.mem_cons_self, rk_sum_0 (L := L) (fun k hk => e k (List.mem_cons_of_mem _ hk))]
theorem rk_sum_perm {L K : List Nat} (h : List.Perm L K) (g : Nat → Nat) : rk_sum L g = rk_sum K g := by
  induction h with
  | nil => rfl
  | cons x _ ih => rw [rk_sum_cons, rk_sum_cons, ih]
  | swap x y l => rw [rk_sum_cons, rk_sum_cons, rk_sum_cons, rk_sum_cons]; omega
  | trans _ _ h1 h2 => rw [h1, h2]
noncomputable def rk_tup (L : List Nat) : List rk_Pt → ((Nat → Nat) → Prop) → Nat
  | [], F => rk_if (∃ v, rk_okV v ∧ F v) 1
  | P :: Ps, F => rk_sum L (fun k => rk_tup L Ps (fun v => F v ∧ rk_inst P v = k))
theorem rk_tup_none {L : List Nat} : ∀ {Ps : List rk_Pt} {F : (Nat → Nat) → Prop}, (∀ v, rk_okV v → ¬ F v) → rk_tup L Ps F = 0
  | [], F, h => rk_if_f (fun ⟨v, h1, h2⟩ => h v h1 h2)
  | P :: Ps, F, h => rk_sum_0 (fun k _ => rk_tup_none (fun v h1 h2 => h v h1 h2.1))
theorem rk_tup_congr {L : List Nat} : ∀ {Ps : List rk_Pt} {F G : (Nat → Nat) → Prop},
    (∀ v, rk_okV v → F v → ∃ w, rk_okV w ∧ G w ∧ ∀ P, P ∈ Ps → ∀ x, rk_in P x → v x = w x) → (∀ v, rk_okV v → G v → ∃ w, rk_okV w ∧ F w ∧ ∀ P, P ∈ Ps → ∀ x, rk_in P x → v x = w x) → rk_tup L Ps F = rk_tup L Ps G
  | [], F, G, h1, h2 => rk_if_congr ⟨fun ⟨v, a, b⟩ => let ⟨w, c, d, _⟩ := h1 v a b; ⟨w, c, d⟩, fun ⟨v, a, b⟩ => let ⟨w, c, d, _⟩ := h2 v a b; ⟨w, c, d⟩⟩ (fun _ => rfl)
  | P :: Ps, F, G, h1, h2 => by
    refine rk_sum_congr (fun k _ => rk_tup_congr (Ps := Ps) (fun v hv hF => ?_) (fun v hv hG => ?_))
    · obtain ⟨w, a, b, d⟩ := h1 v hv hF.1
      exact ⟨w, a, ⟨b, by rw [← hF.2]; exact (rk_inst_congr (fun x hx => d P List.mem_cons_self x hx)).symm⟩, fun Q hQ => d Q (List.mem_cons_of_mem _ hQ)⟩
    · obtain ⟨w, a, b, d⟩ := h2 v hv hG.1
      exact ⟨w, a, ⟨b, by rw [← hG.2]; exact (rk_inst_congr (fun x hx => d P List.mem_cons_self x hx)).symm⟩, fun Q hQ => d Q (List.mem_cons_of_mem _ hQ)⟩
theorem rk_tup_perm {L K : List Nat} (h : List.Perm L K) : ∀ (Ps : List rk_Pt) (F : (Nat → Nat) → Prop), rk_tup L Ps F = rk_tup K Ps F
  | [], F => rfl
  | P :: Ps, F => by
    show rk_sum L (fun k => rk_tup L Ps (fun v => F v ∧ rk_inst P v = k)) = rk_sum K (fun k => rk_tup K Ps (fun v => F v ∧ rk_inst P v = k))
    rw [rk_sum_perm h]
    exact rk_sum_congr (fun k _ => rk_tup_perm h Ps _)
/-- how many cases of the rule r give the code k -/
noncomputable def rk_sup (L : List Nat) (r : rk_Ru) (k : Nat) : Nat := rk_tup L r.1 (fun v => rk_inst r.2 v = k)
noncomputable def rk_support (L : List Nat) (rs : List rk_Ru) (k : Nat) : Nat := (rs.map (fun r => rk_sup L r k)).sum
theorem rk_support_perm {L K : List Nat} (h : List.Perm L K) (rs : List rk_Ru) (k : Nat) : rk_support L rs k = rk_support K rs k := by
  unfold rk_support rk_sup
  congr 2
  funext r
  exact rk_tup_perm h _ _
