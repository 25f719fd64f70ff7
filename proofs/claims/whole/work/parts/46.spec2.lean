/-! more calls: what they answer -/
def sp_holds (said : Nat → Bool) (rs : List rk_Ru) (a b c : Int32) (r : Int32) : Prop :=
  ((¬ ∃ k, rk_tri a b c k) ∧ r = -1) ∨ ∃ k, rk_tri a b c k ∧ ((said k = true ∧ r = 1) ∨ (said k = false ∧ rk_lfp said rs k ∧ r = 2) ∨ (said k = false ∧ ¬ rk_lfp said rs k ∧ r = 0))
def sp_support (said : Nat → Bool) (rs : List rk_Ru) (a b c : Int32) (r : Int32) : Prop :=
  ((¬ ∃ k, rk_tri a b c k) ∧ r = -1) ∨ ∃ k, rk_tri a b c k ∧ ∃ L, rk_holds said rs L ∧ r = nI (rk_support L rs k)
def sp_size (said : Nat → Bool) (rs : List rk_Ru) (r : Int32) : Prop := ∃ L, rk_holds said rs L ∧ r = nI L.length
def rk_nx (X : Nat → Prop) (n : Int32) (r : Int32) : Prop := (r = -2 ∧ ∀ j, X j → ¬ n < nI j) ∨ ∃ m, X m ∧ r = nI m ∧ n < nI m ∧ ∀ j, X j → n < nI j → m ≤ j
def sp_next (said : Nat → Bool) (rs : List rk_Ru) (n r : Int32) : Prop := rk_nx (rk_lfp said rs) n r
def sp_fitting (said : Nat → Bool) (rs : List rk_Ru) (a b c : Int32) (r : Int32) : Prop :=
  ((¬ ∃ P, rk_pti a b c P) ∧ r = -1) ∨ ∃ P, rk_pti a b c P ∧ ∃ L, rk_holds said rs L ∧ r = nI (rk_sum L (fun k => rk_if (rk_fits P k) 1))
def sp_clear (said : Nat → Bool) (rs : List rk_Ru) (r : Int32) : Prop := ∃ L, rk_holds said rs L ∧ r = nI (L.filter said).length
/-- the least code so far -/
theorem rk_nx_iff {X Y : Nat → Prop} {n r : Int32} (h : ∀ j, X j ↔ Y j) (hx : rk_nx X n r) : rk_nx Y n r := by
  rcases hx with ⟨h1, h2⟩ | ⟨m, h1, h2, h3, h4⟩
  · exact Or.inl ⟨h1, fun j hj => h2 j ((h j).mpr hj)⟩
  · exact Or.inr ⟨m, (h m).mp h1, h2, h3, fun j hj => h4 j ((h j).mpr hj)⟩
theorem rk_nx_skip {X : Nat → Prop} {n r : Int32} {c : Nat} (hx : rk_nx X n r) (h : ¬ n < nI c) : rk_nx (fun j => X j ∨ j = c) n r := by
  rcases hx with ⟨h1, h2⟩ | ⟨m, h1, h2, h3, h4⟩
  · exact Or.inl ⟨h1, fun j hj => hj.elim (h2 j) (fun e => by rw [e]; exact h)⟩
  · exact Or.inr ⟨m, Or.inl h1, h2, h3, fun j hj hn => hj.elim (fun g => h4 j g hn) (fun e => absurd (by rw [← e]; exact hn) h)⟩
theorem rk_nx_less {X : Nat → Prop} {n r : Int32} {c : Nat} (hx : rk_nx X n r) (h : n < nI c) (hX : ∀ j, X j → j < 32768) (hc : c < 32768) (hr : r = -2 ∨ nI c < r) : rk_nx (fun j => X j ∨ j = c) n (nI c) := by
  refine Or.inr ⟨c, Or.inr rfl, rfl, h, fun j hj hn => ?_⟩
  rcases hj with g | g
  · rcases hx with ⟨h1, h2⟩ | ⟨m, h1, h2, h3, h4⟩
    · exact absurd hn (h2 j g)
    · have hm := h4 j g hn
      rcases hr with e | e
      · rw [h2] at e
        exact absurd e (by
          have := hX m h1
          intro z
          have z2 : (nI m).toInt = (-2 : Int32).toInt := by rw [z]
          rw [nI_toInt (by omega)] at z2
          have : (-2 : Int32).toInt = -2 := by decide
          omega)
      · rw [h2] at e
        have := (nI_ltI (by omega) (by have := hX m h1; omega)).mp e
        omega
  · omega
theorem rk_nx_keep {X : Nat → Prop} {n r : Int32} {c : Nat} (hx : rk_nx X n r) (hX : ∀ j, X j → j < 32768) (hc : c < 32768) (hr : ¬ r = -2) (hle : r ≤ nI c) : rk_nx (fun j => X j ∨ j = c) n r := by
  rcases hx with ⟨h1, h2⟩ | ⟨m, h1, h2, h3, h4⟩
  · exact absurd h1 hr
  · refine Or.inr ⟨m, Or.inl h1, h2, h3, fun j hj hn => hj.elim (fun g => h4 j g hn) (fun e => ?_)⟩
    rw [h2] at hle
    have := (nI_leI (by have := hX m h1; omega) (by omega)).mp hle
    omega
theorem rk_take_or {L : List Nat} {i : Nat} (h : i < L.length) : ∀ j, (j ∈ L.take i ∨ j = L.getD i 0) ↔ j ∈ L.take (i + 1) := by
  intro j
  rw [rk_take_succ h, List.mem_append, List.mem_singleton]
theorem rk_empty_holds {rs : List rk_Ru} (h : ∀ r, r ∈ rs → 0 < r.1.length) : rk_holds (fun _ => false) rs [] := by
  refine ⟨List.nodup_nil, by simp, fun k => ⟨fun hk => absurd hk List.not_mem_nil, fun hk => ?_⟩⟩
  refine absurd (hk (fun _ => False) (fun j hj => by cases hj) (fun r hr v hc => ?_)) (fun z => z)
  obtain ⟨P, hP⟩ := List.exists_mem_of_length_pos (h r hr)
  exact hc.2 P hP
theorem rk_rest {said : Nat → Bool} {L : List Nat} (hn : L.Nodup) {i : Nat} (h : i < L.length) : (fun k => said k && decide (k ∉ L.take i)) (L.getD i 0) = said (L.getD i 0) := by
  have : L.getD i 0 ∉ L.take i := fun z => by
    have h1 : (L.take (i + 1)).Nodup := List.Nodup.sublist (List.take_sublist _ _) hn
    rw [rk_take_succ h] at h1
    exact (List.nodup_append.mp h1).2.2 _ z _ (List.mem_singleton.mpr rfl) rfl
  show (said (L.getD i 0) && decide (L.getD i 0 ∉ L.take i)) = said (L.getD i 0)
  rw [decide_eq_true this, Bool.and_true]
theorem rk_rest_t {said : Nat → Bool} {L : List Nat} {i : Nat} (h : i < L.length) : va_up (fun k => said k && decide (k ∉ L.take i)) (L.getD i 0) false = fun k => said k && decide (k ∉ L.take (i + 1)) := by
  funext k
  have e1 := rk_take_or h k
  by_cases e : k = L.getD i 0
  · rw [e, va_up_self]
    have : L.getD i 0 ∈ L.take (i + 1) := rk_take_last h
    simp only [this, not_true_eq_false, decide_false, Bool.and_false]
  · rw [va_up_ne _ _ e]
    congr 1
    refine decide_eq_decide.mpr (not_congr ⟨fun z => e1.mp (Or.inl z), fun z => (e1.mpr z).resolve_right e⟩)
theorem rk_rest_f {said : Nat → Bool} {L : List Nat} {i : Nat} (h : i < L.length) (hs : said (L.getD i 0) = false) : (fun k => said k && decide (k ∉ L.take i)) = fun k => said k && decide (k ∉ L.take (i + 1)) := by
  funext k
  have e1 := rk_take_or h k
  by_cases e : k = L.getD i 0
  · rw [e, hs]
    rfl
  · congr 1
    exact decide_eq_decide.mpr (not_congr ⟨fun z => e1.mp (Or.inl z), fun z => (e1.mpr z).resolve_right e⟩)
theorem rk_rest_end {said : Nat → Bool} {L : List Nat} (h : ∀ j, said j = true → j ∈ L) : (fun k => said k && decide (k ∉ L.take L.length)) = fun _ => false := by
  funext k
  rw [List.take_length]
  cases e : said k
  · rfl
  · simp [h k e]
theorem rk_sum_take {rs : List rk_Ru} {f : rk_Ru → Nat} {i : Nat} (h : i < rs.length) : ((rs.take (i + 1)).map f).sum = ((rs.take i).map f).sum + f (rk_rth rs i) := by
  rw [List.take_add_one, List.map_append, List.sum_append, List.getElem?_eq_getElem h]
  unfold rk_rth
  rw [List.getD_eq_getElem?_getD, List.getElem?_eq_getElem h]
  simp
