/-! what a constructor makes: fresh cells beside what was there -/
def mw_gr (M Mc : mw_M) (a : Nat) (ns : List Nat) : Prop :=
  (∀ z e, z ≠ a → M z = some e → z ∉ ns ∧ Mc z = some e) ∧ (a :: ns).Nodup ∧ ∀ z, z ∈ a :: ns → ∃ e, Mc z = some e
theorem mw_gr_0 {M : mw_M} {a : Nat} {e : va_E} (h : M a = some e) : mw_gr M M a [] :=
  ⟨fun z e _ h => ⟨List.not_mem_nil, h⟩, List.nodup_cons.mpr ⟨List.not_mem_nil, List.nodup_nil⟩, fun z hz => ⟨e, by rw [List.mem_singleton.mp hz]; exact h⟩⟩
theorem mw_gr_def {Mc : mw_M} {b : Nat} {x : va_E} {ns : List Nat} (h : ∀ z, z ∈ ns → ∃ e, Mc z = some e) : ∀ z, z ∈ ns → ∃ e, va_up Mc b (some x) z = some e := fun z hz => by
  by_cases e : z = b
  · rw [e, va_up_self]
    exact ⟨x, rfl⟩
  · rw [va_up_ne _ _ e]
    exact h z hz
theorem mw_gr_put {M Mc : mw_M} {a : Nat} {ns : List Nat} {x : va_E} (h : mw_gr M Mc a ns) : mw_gr M (va_up Mc a (some x)) a ns :=
  ⟨fun z e hz he => ⟨(h.1 z e hz he).1, by rw [va_up_ne _ _ hz]; exact (h.1 z e hz he).2⟩, h.2.1, mw_gr_def h.2.2⟩
theorem mw_gr_upd {M Mc : mw_M} {a b : Nat} {ns : List Nat} {x : va_E} (h : mw_gr M Mc a ns) (hb : b ∈ ns) : mw_gr M (va_up Mc b (some x)) a ns :=
  ⟨fun z e hz he => ⟨(h.1 z e hz he).1, by rw [va_up_ne _ _ (fun g => (h.1 z e hz he).1 (by rw [g]; exact hb))]; exact (h.1 z e hz he).2⟩, h.2.1, mw_gr_def h.2.2⟩
theorem mw_gr_cons {a b : Nat} {ns : List Nat} (h : (a :: ns).Nodup) (h1 : b ≠ a) (h2 : b ∉ ns) : (a :: b :: ns).Nodup := by
  rw [List.nodup_cons] at h ⊢
  exact ⟨fun z => (List.mem_cons.mp z).elim (fun g => h1 g.symm) h.1, List.nodup_cons.mpr ⟨h2, h.2⟩⟩
theorem mw_gr_new {M Mc : mw_M} {a b : Nat} {ns : List Nat} {x : va_E} (h : mw_gr M Mc a ns) (hb : Mc b = none) : mw_gr M (va_up Mc b (some x)) a (b :: ns) := by
  have hd : ∀ z, (∃ e, Mc z = some e) → z ≠ b := fun z ⟨e, he⟩ g => by rw [g, hb] at he; cases he
  refine ⟨fun z e hz he => ?_, mw_gr_cons h.2.1 (fun g => hd _ (h.2.2 a List.mem_cons_self) g.symm) (fun g => hd _ (h.2.2 b (List.mem_cons_of_mem _ g)) rfl), fun z hz => ?_⟩
  · have hk := h.1 z e hz he
    have hne := hd z ⟨e, hk.2⟩
    exact ⟨fun g => (List.mem_cons.mp g).elim hne hk.1, by rw [va_up_ne _ _ hne]; exact hk.2⟩
  · by_cases e : z = b
    · rw [e, va_up_self]
      exact ⟨x, rfl⟩
    · rw [va_up_ne _ _ e]
      refine h.2.2 z ?_
      rcases List.mem_cons.mp hz with g | g
      · rw [g]
        exact List.mem_cons_self
      · exact List.mem_cons_of_mem _ ((List.mem_cons.mp g).resolve_left e)
theorem mw_gr_sub {M Mc M1 : mw_M} {a q : Nat} {ns ks : List Nat} (h : mw_gr M Mc a (q :: ns)) (h1 : mw_gr Mc M1 q ks) : mw_gr M M1 a (q :: (ks ++ ns)) := by
  have hkp : ∀ z, (∃ e, Mc z = some e) → z ≠ q → z ∉ ks ∧ ∃ e, M1 z = some e := fun z ⟨e, he⟩ hz => ⟨(h1.1 z e hz he).1, e, (h1.1 z e hz he).2⟩
  have ha : a ≠ q := fun g => (List.nodup_cons.mp h.2.1).1 (by rw [g]; exact List.mem_cons_self)
  have hqn : q ∉ ns := (List.nodup_cons.mp (List.nodup_cons.mp h.2.1).2).1
  have han : a ∉ ns := fun g => (List.nodup_cons.mp h.2.1).1 (List.mem_cons_of_mem _ g)
  have hak : a ∉ ks := (hkp a (h.2.2 a List.mem_cons_self) ha).1
  have hqk : q ∉ ks := (List.nodup_cons.mp h1.2.1).1
  have hns : ∀ z, z ∈ ns → z ∉ ks ∧ ∃ e, M1 z = some e := fun z hz => hkp z (h.2.2 z (List.mem_cons_of_mem _ (List.mem_cons_of_mem _ hz))) (fun g => hqn (by rw [← g]; exact hz))
  refine ⟨fun z e hz he => ?_, ?_, fun z hz => ?_⟩
  · obtain ⟨g1, g2⟩ := h.1 z e hz he
    have hzq : z ≠ q := fun g => g1 (by rw [g]; exact List.mem_cons_self)
    obtain ⟨g3, g4⟩ := h1.1 z e hzq g2
    exact ⟨fun g => (List.mem_cons.mp g).elim hzq (fun g => (List.mem_append.mp g).elim g3 (fun g => g1 (List.mem_cons_of_mem _ g))), g4⟩
  · refine List.nodup_cons.mpr ⟨fun g => (List.mem_cons.mp g).elim ha (fun g => (List.mem_append.mp g).elim hak han), List.nodup_cons.mpr ⟨fun g => (List.mem_append.mp g).elim hqk hqn, List.nodup_append.mpr ⟨(List.nodup_cons.mp h1.2.1).2, (List.nodup_cons.mp (List.nodup_cons.mp h.2.1).2).2, fun x hx y hy e => (hns y hy).1 (by rw [← e]; exact hx)⟩⟩⟩
  · rcases List.mem_cons.mp hz with g | g
    · rw [g]
      exact (hkp a (h.2.2 a List.mem_cons_self) ha).2
    · rcases List.mem_cons.mp g with g | g
      · rw [g]
        exact h1.2.2 q List.mem_cons_self
      · rcases List.mem_append.mp g with g | g
        · exact h1.2.2 z (List.mem_cons_of_mem _ g)
        · exact (hns z g).2
theorem mw_gr_pat {cI : ClassId} {M M1 : mw_M} {a b q : Nat} {P : rk_Pt} (h : k_pax cI M1 a P b q) (hk : ∀ z e, z ≠ a → M z = some e → z ≠ b ∧ z ≠ q ∧ M1 z = some e) : mw_gr M M1 a [] := by
  obtain ⟨-, fb, fq, h1, -⟩ := h
  exact ⟨fun z e hz he => ⟨List.not_mem_nil, (hk z e hz he).2.2⟩, List.nodup_cons.mpr ⟨List.not_mem_nil, List.nodup_nil⟩, fun z hz => by rw [List.mem_singleton.mp hz]; exact ⟨_, h1⟩⟩
theorem mw_gr_inj {f : Nat → Nat} : ∀ {l : List Nat}, (l.map f).Nodup → ∀ i, i ∈ l → ∀ j, j ∈ l → f i = f j → i = j
  | [], _, i, hi, _, _, _ => absurd hi List.not_mem_nil
  | x :: l, h, i, hi, j, hj, e => by
    rw [List.map_cons, List.nodup_cons] at h
    rcases List.mem_cons.mp hi with g1 | g1 <;> rcases List.mem_cons.mp hj with g2 | g2
    · rw [g1, g2]
    · exact absurd (List.mem_map.mpr ⟨j, g2, by rw [← e, g1]⟩) h.1
    · exact absurd (List.mem_map.mpr ⟨i, g1, by rw [e, g2]⟩) h.1
    · exact mw_gr_inj h.2 i g1 j g2 e
