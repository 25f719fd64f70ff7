/-! all cases of a rule, one after another: what has been met so far -/
def rk_ocs (r : rk_Ru) : Nat → Nat → Nat
  | 0, _ => 0
  | d + 1, x => rk_ocs r d x + rk_oc (rk_nth r d) 3 x
theorem rk_ocs_le (r : rk_Ru) (x : Nat) : ∀ d, rk_ocs r d x ≤ 3 * d
  | 0 => Nat.le_refl 0
  | d + 1 => by
    show rk_ocs r d x + rk_oc (rk_nth r d) 3 x ≤ 3 * (d + 1)
    have h1 := rk_ocs_le r x d
    have h2 := rk_oc_le (rk_nth r d) x 3
    omega
theorem rk_ocs_pos {r : rk_Ru} {x : Nat} : ∀ {d : Nat}, 0 < rk_ocs r d x ↔ ∃ j, j < d ∧ rk_in (rk_nth r j) x
  | 0 => by simp [rk_ocs]
  | d + 1 => by
    show 0 < rk_ocs r d x + rk_oc (rk_nth r d) 3 x ↔ _
    have ih := rk_ocs_pos (r := r) (x := x) (d := d)
    have h3 : 0 < rk_oc (rk_nth r d) 3 x ↔ rk_in (rk_nth r d) x := rk_oc_pos
    constructor
    · intro h
      by_cases e : 0 < rk_oc (rk_nth r d) 3 x
      · exact ⟨d, by omega, h3.mp e⟩
      · obtain ⟨j, h1, h2⟩ := ih.mp (by omega)
        exact ⟨j, by omega, h2⟩
    · rintro ⟨j, h1, h2⟩
      by_cases e : j = d
      · subst e
        have := h3.mpr h2
        omega
      · have := ih.mpr ⟨j, by omega, h2⟩
        omega
theorem rk_in_lt {P : rk_Pt} {x : Nat} (hP : rk_okP P) (h : rk_in P x) : x < 8 := by
  obtain ⟨j, hj, e⟩ := h
  have := hP j hj
  omega
def rk_pre (r : rk_Ru) (w : Nat → Nat) (d : Nat) (v : Nat → Nat) : Prop := ∀ j, j < d → rk_inst (rk_nth r j) v = w j
theorem rk_pre_agree {r : rk_Ru} {w : Nat → Nat} {d : Nat} {u v : Nat → Nat} (hu : rk_okV u) (hv : rk_okV v) (h1 : rk_pre r w d u) (h2 : rk_pre r w d v) : ∀ x, 0 < rk_ocs r d x → v x = u x := fun x hx => by
  obtain ⟨j, hj, hin⟩ := rk_ocs_pos.mp hx
  exact rk_inst_inj hv hu ((h2 j hj).trans (h1 j hj).symm) hin
theorem rk_pre_keep {r : rk_Ru} {w : Nat → Nat} {d : Nat} {vx vb : Nat → Nat} (hok : ∀ j, j < d → rk_okP (rk_nth r j)) (h1 : rk_pre r w d (rk_as vx)) (h2 : ∀ x, x < 8 → 0 < rk_ocs r d x → vb (x + 1) = vx (x + 1)) : rk_pre r w d (rk_as vb) := fun j hj => by
  rw [← h1 j hj]
  exact rk_inst_congr (fun x hx => h2 x (rk_in_lt (hok j hj) hx) (rk_ocs_pos.mpr ⟨j, hj, hx⟩))
theorem rk_no_pre {r : rk_Ru} {w : Nat → Nat} {d k : Nat} {vx : Nat → Nat} (hvx : ∀ i, vx i < 32) (h1 : rk_pre r w d (rk_as vx)) (hno : ¬ ∃ v, rk_okV v ∧ (∀ x, x < 8 → 0 < rk_ocs r d x → v x = vx (x + 1)) ∧ rk_inst (rk_nth r d) v = k) : ∀ v, rk_okV v → rk_pre r w d v → rk_inst (rk_nth r d) v ≠ k := fun v hv hp e =>
  hno ⟨v, hv, fun x _ hx => rk_pre_agree (rk_as_ok hvx) hv h1 hp x hx, e⟩
theorem rk_pre_s {r : rk_Ru} {w : Nat → Nat} {d : Nat} {v : Nat → Nat} : rk_pre r w (d + 1) v ↔ rk_pre r w d v ∧ rk_inst (rk_nth r d) v = w d :=
  ⟨fun h => ⟨fun j hj => h j (by omega), h d (by omega)⟩, fun h j hj => by
    by_cases e : j = d
    · rw [e]
      exact h.2
    · exact h.1 j (by omega)⟩
theorem rk_pre_congr {r : rk_Ru} {w w' : Nat → Nat} {d : Nat} {v : Nat → Nat} (h : ∀ j, j < d → w j = w' j) (hp : rk_pre r w d v) : rk_pre r w' d v := fun j hj => (hp j hj).trans (h j hj)
/-- head: once the whole body is met -/
theorem rk_head_same {r : rk_Ru} (hok : rk_okR r) {w : Nat → Nat} {u v : Nat → Nat} (hu : rk_okV u) (hv : rk_okV v) (h1 : rk_pre r w r.1.length u) (h2 : rk_pre r w r.1.length v) : rk_inst r.2 v = rk_inst r.2 u := rk_inst_congr (fun x hx => by
  obtain ⟨P, hP, hin⟩ := hok.2.2.2.2 x hx
  obtain ⟨j, hj, rfl⟩ := rk_mem_nth hP
  exact rk_pre_agree hu hv h1 h2 x (rk_ocs_pos.mpr ⟨j, hj, hin⟩))
theorem rk_sum_skip {L : List Nat} {g : Nat → Nat} {q : Nat} : ∀ t, q ≤ t → t ≤ L.length → (∀ t', q ≤ t' → t' < t → g (L.getD t' 0) = 0) → rk_sum (L.take t) g = rk_sum (L.take q) g
  | 0, h1, _, _ => by rw [show q = 0 by omega]
  | t + 1, h1, h2, h3 => by
    by_cases e : q = t + 1
    · rw [e]
    · rw [rk_take_succ (by omega), rk_sum_app, rk_sum_cons, rk_sum_nil, h3 t (by omega) (by omega), rk_sum_skip t (by omega) (by omega) (fun t' a b => h3 t' a (by omega))]
      omega
/-! counting -/
def rk_w (L : List Nat) (p : Nat → Nat) (j : Nat) : Nat := L.getD (p j) 0
noncomputable def rk_G (L : List Nat) (r : rk_Ru) (p : Nat → Nat) (c d k : Nat) : Nat := rk_tup L (r.1.drop (d + 1)) (fun v => (rk_inst r.2 v = c ∧ rk_pre r (rk_w L p) d v) ∧ rk_inst (rk_nth r d) v = k)
noncomputable def rk_acc (L : List Nat) (r : rk_Ru) (p : Nat → Nat) (c : Nat) : Nat → Nat
  | 0 => 0
  | d + 1 => rk_acc L r p c d + rk_sum (L.take (p d)) (rk_G L r p c d)
noncomputable def rk_tot (L : List Nat) (r : rk_Ru) (p : Nat → Nat) (c : Nat) : Nat → Nat
  | 0 => rk_sup L r c
  | d + 1 => rk_acc L r p c (d + 1)
theorem rk_G_congr {L : List Nat} {r : rk_Ru} {p p' : Nat → Nat} {c d k : Nat} (h : ∀ j, j < d → p j = p' j) : rk_G L r p c d k = rk_G L r p' c d k := by
  unfold rk_G
  congr 1
  funext v
  refine propext ⟨fun a => ⟨⟨a.1.1, rk_pre_congr (fun j hj => ?_) a.1.2⟩, a.2⟩, fun a => ⟨⟨a.1.1, rk_pre_congr (fun j hj => ?_) a.1.2⟩, a.2⟩⟩
  · unfold rk_w
    rw [h j hj]
  · unfold rk_w
    rw [h j hj]
theorem rk_acc_congr {L : List Nat} {r : rk_Ru} {p p' : Nat → Nat} {c : Nat} : ∀ {d : Nat}, (∀ j, j < d → p j = p' j) → rk_acc L r p c d = rk_acc L r p' c d
  | 0, _ => rfl
  | d + 1, h => by
    show rk_acc L r p c d + rk_sum (L.take (p d)) (rk_G L r p c d) = rk_acc L r p' c d + rk_sum (L.take (p' d)) (rk_G L r p' c d)
    rw [rk_acc_congr (fun j hj => h j (by omega)), h d (by omega)]
    congr 1
    exact rk_sum_congr (fun k _ => rk_G_congr (fun j hj => h j (by omega)))
theorem rk_acc_s (L : List Nat) (r : rk_Ru) (p : Nat → Nat) (c d q : Nat) : rk_acc L r (va_up p d q) c (d + 1) = rk_acc L r p c d + rk_sum (L.take q) (rk_G L r p c d) := by
  show rk_acc L r (va_up p d q) c d + rk_sum (L.take (va_up p d q d)) (rk_G L r (va_up p d q) c d) = _
  rw [va_up_self, rk_acc_congr (p' := p) (fun j hj => va_up_ne _ _ (by omega))]
  congr 1
  exact rk_sum_congr (fun k _ => rk_G_congr (fun j hj => va_up_ne _ _ (by omega)))
theorem rk_G_all {L : List Nat} {r : rk_Ru} {p : Nat → Nat} {c d : Nat} (hd : d < r.1.length) : rk_sum L (rk_G L r p c d) = rk_tup L (r.1.drop d) (fun v => rk_inst r.2 v = c ∧ rk_pre r (rk_w L p) d v) := by
  have e : r.1.drop d = rk_nth r d :: r.1.drop (d + 1) := by
    rw [List.drop_eq_getElem_cons hd]
    congr 1
    unfold rk_nth
    rw [List.getD_eq_getElem?_getD, List.getElem?_eq_getElem hd]
    rfl
  rw [e]
  rfl
/-- the counts so far -/
def rk_I1 (L : List Nat) (r : rk_Ru) (sp sx p : Nat → Nat) (D : Nat) : Prop := ∀ c, sx c = sp c + rk_tot L r p c D
theorem rk_I1_start {L : List Nat} {r : rk_Ru} {sp p : Nat → Nat} (h : p 0 = 0) : rk_I1 L r sp sp p 1 := fun c => by
  show sp c = sp c + (0 + rk_sum (L.take (p 0)) (rk_G L r p c 0))
  rw [h, List.take_zero, rk_sum_nil]
  rfl
theorem rk_I1_skip {L : List Nat} {r : rk_Ru} {sp sx p : Nat → Nat} {d t : Nat} (h : rk_I1 L r sp sx p (d + 1)) (h1 : p d ≤ t) (h2 : t ≤ L.length) (hno : ∀ t', p d ≤ t' → t' < t → ∀ v, rk_okV v → rk_pre r (rk_w L p) d v → rk_inst (rk_nth r d) v ≠ L.getD t' 0) : rk_I1 L r sp sx (va_up p d t) (d + 1) := fun c => by
  rw [h c]
  congr 1
  show rk_acc L r p c d + rk_sum (L.take (p d)) (rk_G L r p c d) = rk_acc L r (va_up p d t) c (d + 1)
  rw [rk_acc_s, rk_sum_skip t h1 h2 (fun t' a b => rk_tup_none (fun v hv g => hno t' a b v hv g.1.2 g.2))]
theorem rk_I1_up {L : List Nat} {r : rk_Ru} {sp sx p : Nat → Nat} {d : Nat} (hd : d < r.1.length) (h : rk_I1 L r sp sx (va_up p d L.length) (d + 1)) (hp : ∀ j, j < d → p j < L.length) : rk_I1 L r sp sx (va_up p (d - 1) (p (d - 1) + 1)) d := fun c => by
  rw [h c]
  congr 1
  show rk_acc L r (va_up p d L.length) c (d + 1) = _
  rw [rk_acc_s, List.take_length, rk_G_all hd]
  cases d with
  | zero =>
    show 0 + _ = rk_tup L r.1 (fun v => rk_inst r.2 v = c)
    rw [Nat.zero_add, List.drop_zero]
    congr 1
    funext v
    exact propext ⟨fun a => a.1, fun a => ⟨a, fun j hj => absurd hj (Nat.not_lt_zero j)⟩⟩
  | succ e =>
    show rk_acc L r p c (e + 1) + _ = rk_acc L r (va_up p e (p e + 1)) c (e + 1)
    rw [rk_acc_s, rk_take_succ (hp e (by omega)), rk_sum_app, rk_sum_cons, rk_sum_nil]
    show rk_acc L r p c e + rk_sum (L.take (p e)) (rk_G L r p c e) + _ = rk_acc L r p c e + (rk_sum (L.take (p e)) (rk_G L r p c e) + (rk_G L r p c e (L.getD (p e) 0) + 0))
    have : rk_tup L (r.1.drop (e + 1)) (fun v => rk_inst r.2 v = c ∧ rk_pre r (rk_w L p) (e + 1) v) = rk_G L r p c e (L.getD (p e) 0) := by
      unfold rk_G
      congr 1
      funext v
      exact propext ⟨fun a => ⟨⟨a.1, (rk_pre_s.mp a.2).1⟩, (rk_pre_s.mp a.2).2⟩, fun a => ⟨a.1.1, rk_pre_s.mpr ⟨a.1.2, a.2⟩⟩⟩
    rw [this]
    omega
theorem rk_I1_down {L : List Nat} {r : rk_Ru} {sp sx p : Nat → Nat} {d : Nat} (h : rk_I1 L r sp sx p (d + 1)) : rk_I1 L r sp sx (va_up p (d + 1) 0) (d + 2) := fun c => by
  rw [h c]
  congr 1
  show rk_acc L r p c (d + 1) = rk_acc L r (va_up p (d + 1) 0) c (d + 1 + 1)
  rw [rk_acc_s, List.take_zero, rk_sum_nil]
  rfl
theorem rk_I1_give {L : List Nat} {r : rk_Ru} (hok : rk_okR r) {sp sx p : Nat → Nat} {d t : Nat} {u : Nat → Nat} (hd : d + 1 = r.1.length) (ht : t < L.length) (hu : rk_okV u) (hpre : rk_pre r (rk_w L p) d u) (hin : rk_inst (rk_nth r d) u = L.getD t 0) (h : rk_I1 L r sp sx (va_up p d t) (d + 1)) : rk_I1 L r sp (va_up sx (rk_inst r.2 u) (sx (rk_inst r.2 u) + 1)) (va_up p d (t + 1)) (d + 1) := fun c => by
  have hc := h c
  have e1 : rk_tot L r (va_up p d t) c (d + 1) = rk_acc L r p c d + rk_sum (L.take t) (rk_G L r p c d) := rk_acc_s _ _ _ _ _ _
  have e2 : rk_tot L r (va_up p d (t + 1)) c (d + 1) = rk_acc L r p c d + rk_sum (L.take (t + 1)) (rk_G L r p c d) := rk_acc_s _ _ _ _ _ _
  rw [e2, rk_take_succ ht, rk_sum_app, rk_sum_cons, rk_sum_nil]
  rw [e1] at hc
  have hW : ∀ v, rk_pre r (rk_w L p) d v → rk_inst (rk_nth r d) v = L.getD t 0 → rk_pre r (rk_w L (va_up p d t)) r.1.length v := fun v a b => by
    rw [← hd]
    refine rk_pre_s.mpr ⟨rk_pre_congr (fun j hj => ?_) a, ?_⟩
    · unfold rk_w
      rw [va_up_ne _ _ (by omega)]
    · unfold rk_w
      rw [va_up_self]
      exact b
  have hG : rk_G L r p c d (L.getD t 0) = if c = rk_inst r.2 u then 1 else 0 := by
    unfold rk_G
    rw [hd, List.drop_length]
    show rk_if _ 1 = _
    by_cases e : c = rk_inst r.2 u
    · rw [if_pos e]
      exact rk_if_t ⟨u, hu, ⟨e.symm, hpre⟩, hin⟩
    · rw [if_neg e]
      exact rk_if_f (fun ⟨v, hv, ⟨g1, g2⟩, g3⟩ => e (by rw [← g1]; exact rk_head_same hok hu hv (hW u hpre hin) (hW v g2 g3)))
  rw [hG]
  by_cases e : c = rk_inst r.2 u
  · rw [if_pos e, ← e, va_up_self]
    omega
  · rw [if_neg e, va_up_ne _ _ e]
    omega
/-! coverage -/
def rk_cov (L0 L : List Nat) (r : rk_Ru) (p : Nat → Nat) (D : Nat) (v : Nat → Nat) : Prop := ∃ j, j < D ∧ rk_pre r (rk_w L p) j v ∧ rk_inst (rk_nth r j) v ∈ L0.take (p j) ∧ ∀ l, j < l → l < r.1.length → rk_inst (rk_nth r l) v ∈ L0
def rk_I0 (L0 L : List Nat) (r : rk_Ru) (p : Nat → Nat) : Nat → Prop
  | 0 => ∀ v, rk_case r (· ∈ L0) v → rk_inst r.2 v ∈ L
  | d + 1 => ∀ v, rk_okV v → rk_cov L0 L r p (d + 1) v → rk_inst r.2 v ∈ L
theorem rk_mem_take {L : List Nat} {k t : Nat} (h : k ∈ L.take t) : ∃ t', t' < t ∧ t' < L.length ∧ L.getD t' 0 = k := by
  obtain ⟨i, hi, e⟩ := List.mem_iff_getElem.mp h
  rw [List.length_take] at hi
  refine ⟨i, by omega, by omega, ?_⟩
  rw [List.getElem_take] at e
  rw [List.getD_eq_getElem?_getD, List.getElem?_eq_getElem (by omega), ← e]
  rfl
theorem rk_take_mem2 {L : List Nat} {t' t : Nat} (h1 : t' < t) (h2 : t' < L.length) : L.getD t' 0 ∈ L.take t := by
  rw [List.getD_eq_getElem?_getD, List.getElem?_eq_getElem h2]
  show L[t'] ∈ L.take t
  rw [List.mem_iff_getElem]
  exact ⟨t', by rw [List.length_take]; omega, by rw [List.getElem_take]⟩
theorem rk_I0_start {L0 L : List Nat} {r : rk_Ru} {p : Nat → Nat} (h : p 0 = 0) : rk_I0 L0 L r p 1 := fun v _ ⟨j, hj, _, h1, _⟩ => by
  have hj : j < 1 := hj
  rw [show j = 0 by omega, h, List.take_zero] at h1
  cases h1
theorem rk_w_up {L : List Nat} {p : Nat → Nat} {d q j : Nat} (h : j < d) : rk_w L (va_up p d q) j = rk_w L p j := by
  unfold rk_w
  rw [va_up_ne _ _ (by omega)]
theorem rk_I0_skip {L0 N : List Nat} {r : rk_Ru} {p : Nat → Nat} {d t : Nat} (h : rk_I0 L0 (L0 ++ N) r p (d + 1)) (hno : ∀ t', p d ≤ t' → t' < t → ∀ v, rk_okV v → rk_pre r (rk_w (L0 ++ N) p) d v → rk_inst (rk_nth r d) v ≠ (L0 ++ N).getD t' 0) : rk_I0 L0 (L0 ++ N) r (va_up p d t) (d + 1) := fun v hv ⟨j, hj, g1, g2, g3⟩ => by
  have g1' : rk_pre r (rk_w (L0 ++ N) p) j v := rk_pre_congr (fun l hl => rk_w_up (by omega)) g1
  by_cases e : j = d
  · subst e
    rw [va_up_self] at g2
    obtain ⟨t', a1, a2, a3⟩ := rk_mem_take g2
    by_cases e2 : t' < p j
    · exact h v hv ⟨j, hj, g1', by rw [← a3]; exact rk_take_mem2 e2 a2, g3⟩
    · exact absurd (by rw [rk_getD_app a2, a3]) (hno t' (by omega) a1 v hv g1')
  · rw [va_up_ne _ _ e] at g2
    exact h v hv ⟨j, hj, g1', g2, g3⟩
theorem rk_I0_up {L0 N : List Nat} {r : rk_Ru} {p : Nat → Nat} {d : Nat} (hd : d < r.1.length) (h : rk_I0 L0 (L0 ++ N) r (va_up p d (L0 ++ N).length) (d + 1)) : rk_I0 L0 (L0 ++ N) r (va_up p (d - 1) (p (d - 1) + 1)) d := by
  have hall : ∀ k, k ∈ L0 → k ∈ L0.take (va_up p d (L0 ++ N).length d) := fun k hk => by
    rw [va_up_self, List.take_of_length_le (by rw [List.length_append]; omega)]
    exact hk
  cases d with
  | zero => exact fun v hc => h v hc.1 ⟨0, by omega, fun j hj => absurd hj (Nat.not_lt_zero j), hall _ (hc.2 _ (rk_nth_mem hd)), fun l _ hl => hc.2 _ (rk_nth_mem hl)⟩
  | succ e =>
    intro v hv ⟨j, hj, g1, g2, g3⟩
    have g2 : rk_inst (rk_nth r j) v ∈ L0.take (va_up p e (p e + 1) j) := g2
    have g1 : rk_pre r (rk_w (L0 ++ N) (va_up p e (p e + 1))) j v := g1
    have g1' : rk_pre r (rk_w (L0 ++ N) (va_up p (e + 1) (L0 ++ N).length)) j v := rk_pre_congr (fun l hl => by rw [rk_w_up (by omega), rk_w_up (by omega)]) g1
    by_cases q : j = e
    · subst q
      rw [va_up_self] at g2
      obtain ⟨t', a1, a2, a3⟩ := rk_mem_take g2
      by_cases e2 : t' < p j
      · exact h v hv ⟨j, by omega, g1', by rw [va_up_ne _ _ (by omega), ← a3]; exact rk_take_mem2 e2 a2, g3⟩
      · refine h v hv ⟨j + 1, by omega, rk_pre_s.mpr ⟨g1', ?_⟩, hall _ (g3 (j + 1) (by omega) hd), fun l h1 h2 => g3 l (by omega) h2⟩
        rw [rk_w_up (by omega)]
        unfold rk_w
        rw [show p j = t' by omega, rk_getD_app a2, a3]
    · rw [va_up_ne _ _ q] at g2
      exact h v hv ⟨j, by omega, g1', by rw [va_up_ne _ _ (by omega)]; exact g2, g3⟩
theorem rk_I0_down {L0 L : List Nat} {r : rk_Ru} {p : Nat → Nat} {d : Nat} (h : rk_I0 L0 L r p (d + 1)) : rk_I0 L0 L r (va_up p (d + 1) 0) (d + 2) := fun v hv ⟨j, hj, g1, g2, g3⟩ => by
  by_cases e : j = d + 1
  · subst e
    rw [va_up_self, List.take_zero] at g2
    cases g2
  · rw [va_up_ne _ _ e] at g2
    exact h v hv ⟨j, by omega, rk_pre_congr (fun l hl => rk_w_up (by omega)) g1, g2, g3⟩
theorem rk_I0_give {L0 N N' : List Nat} {r : rk_Ru} (hok : rk_okR r) {p : Nat → Nat} {d t : Nat} {u : Nat → Nat} (hd : d + 1 = r.1.length) (hp : ∀ j, j < d → p j < (L0 ++ N).length) (hu : rk_okV u) (hpre : rk_pre r (rk_w (L0 ++ N) p) d u) (hin : rk_inst (rk_nth r d) u = (L0 ++ N).getD t 0) (hz : rk_inst r.2 u ∈ (L0 ++ N) ++ N') (h : rk_I0 L0 (L0 ++ N) r (va_up p d t) (d + 1)) : rk_I0 L0 ((L0 ++ N) ++ N') r (va_up p d (t + 1)) (d + 1) := fun v hv ⟨j, hj, g1, g2, g3⟩ => by
  have g1' : rk_pre r (rk_w (L0 ++ N) p) j v := rk_pre_congr (fun l hl => by rw [rk_w_up (by omega)]; unfold rk_w; rw [rk_getD_app (hp l (by omega))]) g1
  have g1'' : rk_pre r (rk_w (L0 ++ N) (va_up p d t)) j v := rk_pre_congr (fun l hl => (rk_w_up (by omega)).symm) g1'
  by_cases e : j = d
  · subst e
    rw [va_up_self] at g2
    obtain ⟨t', a1, a2, a3⟩ := rk_mem_take g2
    by_cases e2 : t' < t
    · exact List.mem_append_left _ (h v hv ⟨j, hj, g1'', by rw [va_up_self, ← a3]; exact rk_take_mem2 e2 a2, g3⟩)
    · have ht : t' = t := by omega
      subst ht
      have hW : ∀ v, rk_pre r (rk_w (L0 ++ N) p) j v → rk_inst (rk_nth r j) v = (L0 ++ N).getD t' 0 → rk_pre r (rk_w (L0 ++ N) (va_up p j t')) r.1.length v := fun v a b => by
        rw [← hd]
        refine rk_pre_s.mpr ⟨rk_pre_congr (fun l hl => (rk_w_up (by omega)).symm) a, ?_⟩
        unfold rk_w
        rw [va_up_self]
        exact b
      rw [rk_head_same hok hu hv (hW u hpre hin) (hW v g1' (by rw [rk_getD_app a2, a3]))]
      exact hz
  · rw [va_up_ne _ _ e] at g2
    exact List.mem_append_left _ (h v hv ⟨j, hj, g1'', by rw [va_up_ne _ _ e]; exact g2, g3⟩)
theorem rk_body_case {L : List Nat} {r : rk_Ru} {p : Nat → Nat} {d t : Nat} {u : Nat → Nat} (hd : d + 1 = r.1.length) (hp : ∀ j, j < d → p j < L.length) (ht : t < L.length) (hu : rk_okV u) (hpre : rk_pre r (rk_w L p) d u) (hin : rk_inst (rk_nth r d) u = L.getD t 0) : rk_case r (· ∈ L) u := ⟨hu, fun P hP => by
  obtain ⟨j, hj, rfl⟩ := rk_mem_nth hP
  by_cases e : j = d
  · rw [e, hin]
    exact rk_getD_mem ht
  · rw [hpre j (by omega)]
    exact rk_getD_mem (hp j (by omega))⟩
/-! the measure -/
def rk_mes (p : Nat → Nat) : Nat → Nat
  | 0 => 110174432
  | 1 => 364816 * p 0
  | 2 => 364816 * p 0 + 1208 * p 1 + 1
  | _ => 364816 * p 0 + 1208 * p 1 + 4 * p 2 + 2
theorem rk_mes_le {p : Nat → Nat} {D : Nat} (hD : D ≤ 3) (h : ∀ j, j < D → p j ≤ 300) : rk_mes p D ≤ 110174432 := by
  rcases (show D = 0 ∨ D = 1 ∨ D = 2 ∨ D = 3 by omega) with rfl | rfl | rfl | rfl
  · exact Nat.le_refl _
  · have h0 := h 0 (by omega)
    show 364816 * p 0 ≤ _
    omega
  · have h0 := h 0 (by omega)
    have h1 := h 1 (by omega)
    show 364816 * p 0 + 1208 * p 1 + 1 ≤ _
    omega
  · have h0 := h 0 (by omega)
    have h1 := h 1 (by omega)
    have h2 := h 2 (by omega)
    show 364816 * p 0 + 1208 * p 1 + 4 * p 2 + 2 ≤ _
    omega
theorem rk_mes_up {p : Nat → Nat} {d : Nat} (hd : d < 3) (h : ∀ j, j < d + 1 → p j ≤ 300) : rk_mes p (d + 1) < rk_mes (va_up p (d - 1) (p (d - 1) + 1)) d := by
  rcases (show d = 0 ∨ d = 1 ∨ d = 2 by omega) with rfl | rfl | rfl
  · have h0 := h 0 (by omega)
    show 364816 * p 0 < 110174432
    omega
  · have h1 := h 1 (by omega)
    show 364816 * p 0 + 1208 * p 1 + 1 < 364816 * (va_up p 0 (p 0 + 1)) 0
    rw [va_up_self]
    omega
  · have h2 := h 2 (by omega)
    show 364816 * p 0 + 1208 * p 1 + 4 * p 2 + 2 < 364816 * (va_up p 1 (p 1 + 1)) 0 + 1208 * (va_up p 1 (p 1 + 1)) 1 + 1
    rw [va_up_self, va_up_ne _ _ (by decide)]
    omega
theorem rk_mes_down {p : Nat → Nat} {d t : Nat} (hd : d < 2) (h : p d ≤ t) : rk_mes p (d + 1) < rk_mes (va_up (va_up p d t) (d + 1) 0) (d + 2) := by
  rcases (show d = 0 ∨ d = 1 by omega) with rfl | rfl
  · show 364816 * p 0 < 364816 * (va_up (va_up p 0 t) 1 0) 0 + 1208 * (va_up (va_up p 0 t) 1 0) 1 + 1
    rw [va_up_self, va_up_ne _ _ (by decide), va_up_self]
    omega
  · show 364816 * p 0 + 1208 * p 1 + 1 < 364816 * (va_up (va_up p 1 t) 2 0) 0 + 1208 * (va_up (va_up p 1 t) 2 0) 1 + 4 * (va_up (va_up p 1 t) 2 0) 2 + 2
    rw [va_up_self, va_up_ne (va_up p 1 t) _ (by decide), va_up_ne (va_up p 1 t) _ (by decide), va_up_self, va_up_ne _ _ (by decide)]
    omega
theorem rk_mes_give {p : Nat → Nat} {d t : Nat} (hd : d < 3) (h : p d ≤ t) : rk_mes p (d + 1) < rk_mes (va_up p d (t + 1)) (d + 1) := by
  rcases (show d = 0 ∨ d = 1 ∨ d = 2 by omega) with rfl | rfl | rfl
  · show 364816 * p 0 < 364816 * (va_up p 0 (t + 1)) 0
    rw [va_up_self]
    omega
  · show 364816 * p 0 + 1208 * p 1 + 1 < 364816 * (va_up p 1 (t + 1)) 0 + 1208 * (va_up p 1 (t + 1)) 1 + 1
    rw [va_up_self, va_up_ne _ _ (by decide)]
    omega
  · show 364816 * p 0 + 1208 * p 1 + 4 * p 2 + 2 < 364816 * (va_up p 2 (t + 1)) 0 + 1208 * (va_up p 2 (t + 1)) 1 + 4 * (va_up p 2 (t + 1)) 2 + 2
    rw [va_up_self, va_up_ne _ _ (by decide), va_up_ne _ _ (by decide)]
    omega
/-- the rules, as the reference keeps them -/
def m_rul (it : Nat → Int32) (bd : Nat → Nat) (rs : List rk_Ru) : Prop :=
  rs.length ≤ 12 ∧ ∀ k, k < rs.length → rk_okR (rk_rth rs k) ∧ bd k = (rk_rth rs k).1.length ∧ (∀ j, j < (rk_rth rs k).1.length → m_pt it (12 * k + 3 * j) (rk_nth (rk_rth rs k) j)) ∧ m_pt it (12 * k + 3 * (rk_rth rs k).1.length) (rk_rth rs k).2
