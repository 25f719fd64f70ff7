/-! the reference's whole state -/
def m_kp (cI cZ : ClassId) (ad : Nat → Nat) (cw : Nat → va_E) (S : Nat → Bool) (rs : List rk_Ru) (dr : List rk_Pt) (L : List Nat) : Prop :=
  cw 1 = .inl (cZ, 32768, .inl (rk_bf S)) ∧ m_row cI cZ ad cw rs.length dr.length L ∧ (∃ sp : Nat → Nat, cw 3 = .inl (cI, 32768, .inl (rk_nf sp)) ∧ ∀ c, c < 32768 → sp c = rk_support L rs c) ∧ (∃ (it : Nat → Int32) (bd : Nat → Nat), cw 5 = .inl (cI, 156, .inl it) ∧ cw 6 = .inl (cI, 13, .inl (rk_nf bd)) ∧ m_rul it bd rs) ∧ (dr.length ≤ 4 ∧ ∃ df : Nat → Int32, cw 7 = .inl (cI, 12, .inl df) ∧ ∀ i, i < dr.length → m_pt df (3 * i) (rk_dn dr i)) ∧ m_s8 cI cw ∧ ∃ q : Nat → Int32, cw 11 = .inl (cI, 3, .inl q)
def m_ks (cI cZ : ClassId) (B : mw_M) (ad : Nat → Nat) (S : Nat → Bool) (rs : List rk_Ru) (dr : List rk_Pt) (M : mw_M) : Prop :=
  ∃ cw L, M = mw_ov B ad cw 12 ∧ m_ov B ad ∧ m_kp cI cZ ad cw S rs dr L ∧ rk_holds S rs L ∧ ∀ j, S j = true → j < 32768
theorem rk_up_back {S : Nat → Bool} {k : Nat} {b c : Bool} (h : S k = b) : va_up (va_up S k c) k b = S := by
  funext j
  by_cases e : j = k
  · rw [e, va_up_self, h]
  · rw [va_up_ne _ _ e, va_up_ne _ _ e]
theorem rk_fits_ex {P : rk_Pt} {k : Nat} (hk : k < 32768) : rk_fits P k ↔ ∃ v, rk_okV v ∧ rk_inst P v = k := by
  unfold rk_fits
  rw [rk_mt_iff hk (fun x hx => by cases hx)]
  exact ⟨fun ⟨v, h1, _, h2⟩ => ⟨v, h1, h2⟩, fun ⟨v, h1, h2⟩ => ⟨v, h1, (fun x hx => by cases hx), h2⟩⟩
theorem rk_range_filter {S : Nat → Bool} {L : List Nat} (hn : L.Nodup) (hS : ∀ j, S j = true → j ∈ L) (hsd : ∀ j, S j = true → j < 32768) : ((List.range 32768).filter S).length = (L.filter S).length := by
  refine (rk_perm (List.Nodup.sublist List.filter_sublist List.nodup_range) (List.Nodup.sublist List.filter_sublist hn) (fun k => ?_)).length_eq
  rw [List.mem_filter, List.mem_filter, List.mem_range]
  exact ⟨fun h => ⟨hS k h.2, h.2⟩, fun h => ⟨hsd k h.2, h.2⟩⟩
theorem rk_range_up {S : Nat → Bool} {i : Nat} : ((List.range (i + 1)).filter S).length = ((List.range i).filter S).length + if S i = true then 1 else 0 := by
  rw [List.range_succ, List.filter_append, List.length_append]
  congr 1
  cases h : S i
  · simp [h]
  · simp [h]
theorem rk_holds_empty {S : Nat → Bool} {rs : List rk_Ru} {L : List Nat} (h : rk_holds S rs L) (hS : S = fun _ => false) (hr : ∀ r, r ∈ rs → 0 < r.1.length) : L = [] := by
  subst hS
  have h1 := rk_holds_perm h (rk_empty_holds hr)
  exact List.eq_nil_of_length_eq_zero h1.length_eq
theorem m_pt3 {P : rk_Pt} {f : Nat → Int32} {a : Nat} {x y z : Int32} (h : rk_pti x y z P) : m_pt (upd (upd (upd f a x) (a + 1) y) (a + 2) z) a P := by
  refine ⟨h.1, rk_j3 ?_ ?_ ?_⟩
  · rw [pk_un (by omega), pk_un (by omega), Nat.add_zero, pk_us]
    exact h.2.1
  · rw [pk_un (by omega), pk_us]
    exact h.2.2.1
  · rw [pk_us]
    exact h.2.2.2
theorem m_pt_s {P : rk_Pt} {f g : Nat → Int32} {a b : Nat} (h : m_pt f a P) (hg : ∀ i, i < 3 → g (b + i) = f (a + i)) : m_pt g b P := ⟨h.1, fun i hi => (hg i hi).trans (h.2 i hi)⟩
theorem rk_dn_app {dr : List rk_Pt} {P : rk_Pt} {i : Nat} (h : i < dr.length) : rk_dn (dr ++ [P]) i = rk_dn dr i := rk_ptD_app h
theorem rk_dn_last (dr : List rk_Pt) (P : rk_Pt) : rk_dn (dr ++ [P]) dr.length = P := rk_ptD_last dr P
