/-! what the calls answer, in terms of what is said, the rules and the patterns in the making -/
theorem rk_clo_closed {rs : List rk_Ru} {L : List Nat} : rk_clo rs L ↔ rk_closed rs (· ∈ L) := by
  constructor
  · intro h r hr v hc
    obtain ⟨i, hi, rfl⟩ := rk_mem_rth hr
    exact h i hi v hc
  · intro h i hi v hc
    exact h _ (rk_rth_mem hi) v hc
theorem rk_holds_clo {said : Nat → Bool} {rs : List rk_Ru} {L : List Nat} (h : rk_holds said rs L) : rk_clo rs L := by
  rw [rk_clo_closed]
  intro r hr v hc
  exact (h.2.2 _).mpr (rk_lfp_closed r hr v (rk_case_mono hc (fun k hk => (h.2.2 k).mp hk)))
theorem rk_gen_lfp {said : Nat → Bool} {rs : List rk_Ru} {L0 : List Nat} {z : Nat} (h0 : ∀ k, k ∈ L0 → rk_lfp said rs k) (h : rk_gen L0 rs z) : rk_lfp said rs z := fun X h1 h2 => h X (fun k hk => h0 k hk X h1 h2) h2
theorem rk_holds_of {said : Nat → Bool} {rs : List rk_Ru} {L0 N1 : List Nat} (hn : (L0 ++ N1).Nodup) (h3 : (L0 ++ N1).length ≤ 300) (h0 : ∀ k, k ∈ L0 → rk_lfp said rs k) (hs : ∀ j, said j = true → j ∈ L0 ++ N1) (hg : ∀ z, z ∈ N1 → rk_gen L0 rs z) (hc : rk_clo rs (L0 ++ N1)) : rk_holds said rs (L0 ++ N1) :=
  ⟨hn, h3, fun k => ⟨fun hk => (List.mem_append.mp hk).elim (h0 k) (fun h => rk_gen_lfp h0 (hg k h)), fun h => h (· ∈ L0 ++ N1) hs (rk_clo_closed.mp hc)⟩⟩
theorem rk_much_of {said : Nat → Bool} {rs : List rk_Ru} {L0 : List Nat} (h0 : ∀ k, k ∈ L0 → rk_lfp said rs k) (hm : rk_many L0 rs) : rk_much said rs := by
  obtain ⟨K, h1, h2, h3⟩ := hm
  exact ⟨K, h1, h2, fun k hk => rk_gen_lfp h0 (h3 k hk)⟩
theorem rk_up_le {said : Nat → Bool} {k : Nat} : ∀ j, said j = true → va_up said k true j = true := by
  intro j hj
  by_cases e : j = k
  · rw [e, va_up_self]
  · rw [va_up_ne _ _ e]
    exact hj
theorem rk_dn_le {said : Nat → Bool} {k : Nat} : ∀ j, va_up said k false j = true → said j = true := by
  intro j hj
  by_cases e : j = k
  · rw [e, va_up_self] at hj
    cases hj
  · rw [va_up_ne _ _ e] at hj
    exact hj
theorem rk_up_lt {said : Nat → Bool} {k : Nat} (hs : ∀ j, said j = true → j < 32768) (hk : k < 32768) : ∀ j, va_up said k true j = true → j < 32768 := by
  intro j hj
  by_cases e : j = k
  · rw [e]
    exact hk
  · rw [va_up_ne _ _ e] at hj
    exact hs j hj
theorem rk_holds_more {said : Nat → Bool} {rs : List rk_Ru} {L : List Nat} {k : Nat} (h : rk_holds said rs L) (hk : k ∈ L) : rk_holds (va_up said k true) rs L := by
  refine ⟨h.1, h.2.1, fun z => ⟨fun hz => rk_lfp_mono rk_up_le (fun _ h => h) ((h.2.2 z).mp hz), fun hz => hz (· ∈ L) (fun j hj => ?_) (rk_clo_closed.mp (rk_holds_clo h))⟩⟩
  by_cases e : j = k
  · rw [e]
    exact hk
  · rw [va_up_ne _ _ e] at hj
    exact (h.2.2 j).mpr (rk_lfp_said hj)
/-- fewer said, fewer rules: what stays of the row, and what follows from it -/
theorem rk_less_no {said said' : Nat → Bool} {rs rs' : List rk_Ru} {L : List Nat} (h : rk_holds said rs L) (hs : ∀ j, said' j = true → said j = true) (hr : ∀ r, r ∈ rs' → r ∈ rs) : ∀ K : List Nat, K.Nodup → (∀ z, z ∈ K → rk_gen (L.filter said') rs' z) → K.length ≤ 300 := by
  intro K hK hg
  refine Nat.le_trans (rk_nodup_le hK (fun z hz => ?_)) h.2.1
  refine (h.2.2 z).mpr (rk_lfp_mono hs hr (rk_gen_lfp (fun k hk => ?_) (hg z hz)))
  exact rk_lfp_said (List.mem_filter.mp hk).2
theorem rk_less {said said' : Nat → Bool} {rs rs' : List rk_Ru} {L N1 : List Nat} (h : rk_holds said rs L) (hs : ∀ j, said' j = true → said j = true) (hn : (L.filter said' ++ N1).Nodup) (h3 : (L.filter said' ++ N1).length ≤ 300) (hg : ∀ z, z ∈ N1 → rk_gen (L.filter said') rs' z) (hc : rk_clo rs' (L.filter said' ++ N1)) : rk_holds said' rs' (L.filter said' ++ N1) :=
  rk_holds_of hn h3 (fun k hk => rk_lfp_said (List.mem_filter.mp hk).2) (fun j hj => List.mem_append_left _ (List.mem_filter.mpr ⟨(h.2.2 j).mpr (rk_lfp_said (hs j hj)), hj⟩)) hg hc
/-! the calls -/
def sp_say (said : Nat → Bool) (rs : List rk_Ru) (a b c : Int32) (r : Int32) (said' : Nat → Bool) : Prop :=
  ((¬ ∃ k, rk_tri a b c k) ∧ r = -1 ∧ said' = said) ∨ ∃ k, rk_tri a b c k ∧ ((said k = true ∧ r = 0 ∧ said' = said) ∨ (said k = false ∧ r = 1 ∧ said' = va_up said k true ∧ ¬ rk_much (va_up said k true) rs) ∨ (said k = false ∧ r = -3 ∧ said' = said ∧ rk_much (va_up said k true) rs))
def sp_unsay (said : Nat → Bool) (a b c : Int32) (r : Int32) (said' : Nat → Bool) : Prop :=
  ((¬ ∃ k, rk_tri a b c k) ∧ r = -1 ∧ said' = said) ∨ ∃ k, rk_tri a b c k ∧ ((said k = false ∧ r = 0 ∧ said' = said) ∨ (said k = true ∧ r = 1 ∧ said' = va_up said k false))
/-- the keeper's whole state stands in the world M, over the frozen B0 -/
def k_ks (cI cP cR cC : ClassId) (B0 : mw_M) (ad : Nat → Nat) (pm sm ca : Nat) (said : Nat → Bool) (rs : List rk_Ru) (dr : List rk_Pt) (M : mw_M) : Prop :=
  ∃ B cw L, M = mw_ov B ad cw 21 ∧ (∀ q e, B0 q = some e → B q = some e) ∧ k_ov B ad ∧ k_fz B ad pm sm ∧ k_kp cI cP cR cC B ad cw pm sm ca said rs dr L ∧ rk_holds said rs L ∧ ∀ j, said j = true → j < 32768
