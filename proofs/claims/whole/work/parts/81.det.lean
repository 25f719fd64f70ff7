/-! both sides answer alike -/
theorem sp_say_u {said : Nat → Bool} {rs : List rk_Ru} {a b c r r' : Int32} {s1 s2 : Nat → Bool} (h : sp_say said rs a b c r s1) (h' : sp_say said rs a b c r' s2) : r = r' ∧ s1 = s2 := by
  rcases h with ⟨g1, g2, g3⟩ | ⟨k, t1, g⟩ <;> rcases h' with ⟨f1, f2, f3⟩ | ⟨k', t2, f⟩
  · exact ⟨g2.trans f2.symm, g3.trans f3.symm⟩
  · exact absurd ⟨k', t2⟩ g1
  · exact absurd ⟨k, t1⟩ f1
  · have e := rk_tri_u t1 t2
    subst e
    rcases g with ⟨a1, a2, a3⟩ | ⟨a1, a2, a3, a4⟩ | ⟨a1, a2, a3, a4⟩ <;> rcases f with ⟨b1, b2, b3⟩ | ⟨b1, b2, b3, b4⟩ | ⟨b1, b2, b3, b4⟩
    · exact ⟨a2.trans b2.symm, a3.trans b3.symm⟩
    · rw [a1] at b1; cases b1
    · rw [a1] at b1; cases b1
    · rw [a1] at b1; cases b1
    · exact ⟨a2.trans b2.symm, a3.trans b3.symm⟩
    · exact absurd b4 a4
    · rw [a1] at b1; cases b1
    · exact absurd a4 b4
    · exact ⟨a2.trans b2.symm, a3.trans b3.symm⟩
theorem sp_unsay_u {said : Nat → Bool} {a b c r r' : Int32} {s1 s2 : Nat → Bool} (h : sp_unsay said a b c r s1) (h' : sp_unsay said a b c r' s2) : r = r' ∧ s1 = s2 := by
  rcases h with ⟨g1, g2, g3⟩ | ⟨k, t1, g⟩ <;> rcases h' with ⟨f1, f2, f3⟩ | ⟨k', t2, f⟩
  · exact ⟨g2.trans f2.symm, g3.trans f3.symm⟩
  · exact absurd ⟨k', t2⟩ g1
  · exact absurd ⟨k, t1⟩ f1
  · have e := rk_tri_u t1 t2
    subst e
    rcases g with ⟨a1, a2, a3⟩ | ⟨a1, a2, a3⟩ <;> rcases f with ⟨b1, b2, b3⟩ | ⟨b1, b2, b3⟩
    · exact ⟨a2.trans b2.symm, a3.trans b3.symm⟩
    · rw [a1] at b1; cases b1
    · rw [a1] at b1; cases b1
    · exact ⟨a2.trans b2.symm, a3.trans b3.symm⟩
theorem sp_pattern_u {dr d1 d2 : List rk_Pt} {a b c r r' : Int32} (h : sp_pattern dr a b c r d1) (h' : sp_pattern dr a b c r' d2) : r = r' ∧ d1 = d2 := by
  rcases h with ⟨g1, g2, g3⟩ | ⟨P, t1, g⟩ <;> rcases h' with ⟨f1, f2, f3⟩ | ⟨P', t2, f⟩
  · exact ⟨g2.trans f2.symm, g3.trans f3.symm⟩
  · exact absurd ⟨P', t2⟩ g1
  · exact absurd ⟨P, t1⟩ f1
  · have e := rk_pti_u t1 t2
    subst e
    rcases g with ⟨a1, a2, a3⟩ | ⟨a1, a2, a3⟩ <;> rcases f with ⟨b1, b2, b3⟩ | ⟨b1, b2, b3⟩
    · exact ⟨a2.trans b2.symm, a3.trans b3.symm⟩
    · omega
    · omega
    · exact ⟨a2.trans b2.symm, a3.trans b3.symm⟩
theorem sp_rule_u {said : Nat → Bool} {rs r1 r2 : List rk_Ru} {dr d1 d2 : List rk_Pt} {r r' : Int32} (h : sp_rule said rs dr r r1 d1) (h' : sp_rule said rs dr r' r2 d2) : r = r' ∧ r1 = r2 ∧ d1 = d2 := by
  rcases h with ⟨a1, a2, a3, a4⟩ | ⟨a1, a0, a2, a3, a4⟩ | ⟨a1, a0, am, a2, a3, a4⟩ | ⟨a1, a0, am, a2, a3, a4⟩ <;> rcases h' with ⟨b1, b2, b3, b4⟩ | ⟨b1, b0, b2, b3, b4⟩ | ⟨b1, b0, bm, b2, b3, b4⟩ | ⟨b1, b0, bm, b2, b3, b4⟩
  · exact ⟨a2.trans b2.symm, a3.trans b3.symm, a4.trans b4.symm⟩
  · exact absurd b1 a1
  · exact absurd b1 a1
  · exact absurd b1 a1
  · exact absurd a1 b1
  · exact ⟨a2.trans b2.symm, a3.trans b3.symm, a4.trans b4.symm⟩
  · omega
  · omega
  · exact absurd a1 b1
  · omega
  · exact ⟨a2.trans b2.symm, a3.trans b3.symm, a4.trans b4.symm⟩
  · exact absurd bm am
  · exact absurd a1 b1
  · omega
  · exact absurd am bm
  · exact ⟨a2.trans b2.symm, a3.trans b3.symm, a4.trans b4.symm⟩
theorem sp_unrule_u {rs r1 r2 : List rk_Ru} {k r r' : Int32} (hl : rs.length ≤ 12) (h : sp_unrule rs k r r1) (h' : sp_unrule rs k r' r2) : r = r' ∧ r1 = r2 := by
  rcases h with ⟨g1, g2, g3⟩ | ⟨i, t1, t2, g2, g3⟩ <;> rcases h' with ⟨f1, f2, f3⟩ | ⟨j, u1, u2, f2, f3⟩
  · exact ⟨g2.trans f2.symm, g3.trans f3.symm⟩
  · exact absurd ⟨j, u1, u2⟩ g1
  · exact absurd ⟨i, t1, t2⟩ f1
  · have e := (nI_eq (by omega) (by omega)).mp (t2.symm.trans u2)
    subst e
    exact ⟨g2.trans f2.symm, g3.trans f3.symm⟩
theorem sp_holds_u {said : Nat → Bool} {rs : List rk_Ru} {a b c r r' : Int32} (h : sp_holds said rs a b c r) (h' : sp_holds said rs a b c r') : r = r' := by
  rcases h with ⟨g1, g2⟩ | ⟨k, t1, g⟩ <;> rcases h' with ⟨f1, f2⟩ | ⟨k', t2, f⟩
  · exact g2.trans f2.symm
  · exact absurd ⟨k', t2⟩ g1
  · exact absurd ⟨k, t1⟩ f1
  · have e := rk_tri_u t1 t2
    subst e
    rcases g with ⟨a1, a2⟩ | ⟨a1, a3, a2⟩ | ⟨a1, a3, a2⟩ <;> rcases f with ⟨b1, b2⟩ | ⟨b1, b3, b2⟩ | ⟨b1, b3, b2⟩
    · exact a2.trans b2.symm
    · rw [a1] at b1; cases b1
    · rw [a1] at b1; cases b1
    · rw [a1] at b1; cases b1
    · exact a2.trans b2.symm
    · exact absurd a3 b3
    · rw [a1] at b1; cases b1
    · exact absurd b3 a3
    · exact a2.trans b2.symm
theorem sp_support_u {said : Nat → Bool} {rs : List rk_Ru} {a b c r r' : Int32} (h : sp_support said rs a b c r) (h' : sp_support said rs a b c r') : r = r' := by
  rcases h with ⟨g1, g2⟩ | ⟨k, t1, L, g1, g2⟩ <;> rcases h' with ⟨f1, f2⟩ | ⟨k', t2, K, f1, f2⟩
  · exact g2.trans f2.symm
  · exact absurd ⟨k', t2⟩ g1
  · exact absurd ⟨k, t1⟩ f1
  · have e := rk_tri_u t1 t2
    subst e
    rw [g2, f2, rk_support_perm (rk_holds_perm g1 f1)]
theorem sp_size_u {said : Nat → Bool} {rs : List rk_Ru} {r r' : Int32} (h : sp_size said rs r) (h' : sp_size said rs r') : r = r' := by
  obtain ⟨L, g1, g2⟩ := h
  obtain ⟨K, f1, f2⟩ := h'
  rw [g2, f2, (rk_holds_perm g1 f1).length_eq]
theorem sp_next_u {said : Nat → Bool} {rs : List rk_Ru} {n r r' : Int32} (h : sp_next said rs n r) (h' : sp_next said rs n r') : r = r' := by
  rcases h with ⟨g1, g2⟩ | ⟨m, g1, g2, g3, g4⟩ <;> rcases h' with ⟨f1, f2⟩ | ⟨k, f1, f2, f3, f4⟩
  · exact g1.trans f1.symm
  · exact absurd f3 (g2 k f1)
  · exact absurd g3 (f2 m g1)
  · have h1 := g4 k f1 f3
    have h2 := f4 m g1 g3
    rw [g2, f2, show m = k by omega]
theorem sp_fitting_u {said : Nat → Bool} {rs : List rk_Ru} {a b c r r' : Int32} (h : sp_fitting said rs a b c r) (h' : sp_fitting said rs a b c r') : r = r' := by
  rcases h with ⟨g1, g2⟩ | ⟨P, t1, L, g1, g2⟩ <;> rcases h' with ⟨f1, f2⟩ | ⟨P', t2, K, f1, f2⟩
  · exact g2.trans f2.symm
  · exact absurd ⟨P', t2⟩ g1
  · exact absurd ⟨P, t1⟩ f1
  · have e := rk_pti_u t1 t2
    subst e
    rw [g2, f2, rk_sum_perm (rk_holds_perm g1 f1)]
theorem sp_clear_u {said : Nat → Bool} {rs : List rk_Ru} {r r' : Int32} (h : sp_clear said rs r) (h' : sp_clear said rs r') : r = r' := by
  obtain ⟨L, g1, g2⟩ := h
  obtain ⟨K, f1, f2⟩ := h'
  rw [g2, f2, ((rk_holds_perm g1 f1).filter said).length_eq]
