/-! new cells beside the keeper's own -/
def mw_rm (M : mw_M) (ad : Nat → Nat) : Nat → mw_M
  | 0 => M
  | n + 1 => va_up (mw_rm M ad n) (ad n) none
theorem mw_rm_off {M : mw_M} {ad : Nat → Nat} {q : Nat} : ∀ {n : Nat}, (∀ i, i < n → ad i ≠ q) → mw_rm M ad n q = M q
  | 0, _ => rfl
  | n + 1, h => by
    show va_up (mw_rm M ad n) (ad n) none q = M q
    rw [va_up_ne _ _ (Ne.symm (h n (Nat.lt_succ_self n)))]
    exact mw_rm_off (fun i hi => h i (Nat.lt_succ_of_lt hi))
theorem mw_rm_at {M : mw_M} {ad : Nat → Nat} {i : Nat} : ∀ {n : Nat}, i < n → mw_rm M ad n (ad i) = none
  | 0, h => absurd h (Nat.not_lt_zero i)
  | n + 1, h => by
    show va_up (mw_rm M ad n) (ad n) none (ad i) = none
    by_cases e : ad i = ad n
    · rw [e, va_up_self]
    · rw [va_up_ne _ _ e]
      have hne : i ≠ n := fun z => e (by rw [z])
      exact mw_rm_at (by omega)
theorem mw_rm_ov {M : mw_M} {ad : Nat → Nat} {cw : Nat → va_E} {n : Nat} (hj : mw_inj ad n) (h : ∀ i, i < n → M (ad i) = some (cw i)) : mw_ov (mw_rm M ad n) ad cw n = M := by
  funext q
  by_cases hq : ∃ i, i < n ∧ ad i = q
  · obtain ⟨i, hi, rfl⟩ := hq
    rw [mw_ov_at hj hi, h i hi]
  · have h1 : ∀ j, j < n → ad j ≠ q := fun j hj2 e => hq ⟨j, hj2, e⟩
    rw [mw_ov_off h1, mw_rm_off h1]
theorem k_grow {B : mw_M} {ad : Nat → Nat} {cw : Nat → va_E} {M1 : mw_M} (ho : k_ov B ad) (hk : ∀ z e, mw_ov B ad cw 21 z = some e → M1 z = some e) : ∃ B1, M1 = mw_ov B1 ad cw 21 ∧ k_ov B1 ad ∧ (∀ q e, B q = some e → B1 q = some e) ∧ ∀ q e, M1 q = some e → (∀ i, i < 21 → ad i ≠ q) → B1 q = some e := by
  refine ⟨mw_rm M1 ad 21, (mw_rm_ov ho.1 (fun i hi => hk _ _ (mw_ov_at ho.1 hi))).symm, ⟨ho.1, fun i hi => mw_rm_at hi⟩, fun q e h => ?_, fun q e h hq => by rw [mw_rm_off hq]; exact h⟩
  rw [mw_rm_off (fun i hi z => by rw [← z, ho.2 i hi] at h; cases h)]
  exact hk q e (mw_ov_fr ho.2 h)
/-- a pattern made beside the keeper's cells -/
theorem k_newpat {cI : ClassId} {B : mw_M} {ad : Nat → Nat} {cw : Nat → va_E} {M1 : mw_M} {q0 b q : Nat} {P : rk_Pt} {x : va_E} (ho : k_ov B ad) (hn : mw_ov B ad cw 21 q0 = none) (hp : k_pax cI M1 q0 P b q) (hk : ∀ z e, z ≠ q0 → va_up (mw_ov B ad cw 21) q0 (some x) z = some e → z ≠ b ∧ z ≠ q ∧ M1 z = some e) : ∃ B1, M1 = mw_ov B1 ad cw 21 ∧ k_ov B1 ad ∧ (∀ q e, B q = some e → B1 q = some e) ∧ k_pat cI B1 q0 P ∧ B q0 = none := by
  have hz : ∀ z e, mw_ov B ad cw 21 z = some e → z ≠ q0 ∧ z ≠ b ∧ z ≠ q ∧ M1 z = some e := fun z e h => by
    have hne : z ≠ q0 := fun g => by rw [g, hn] at h; cases h
    exact ⟨hne, hk z e hne (by rw [va_up_ne _ _ hne]; exact h)⟩
  obtain ⟨B1, e1, h1, h2, h3⟩ := k_grow ho (fun z e h => (hz z e h).2.2.2)
  have hoff : ∀ i, i < 21 → ad i ≠ q0 ∧ ad i ≠ b ∧ ad i ≠ q := fun i hi => by
    obtain ⟨g1, g2, g3, -⟩ := hz (ad i) _ (mw_ov_at ho.1 hi)
    exact ⟨g1, g2, g3⟩
  refine ⟨B1, e1, h1, h2, k_pax_pat hp (fun e h => h3 _ _ h (fun i hi => (hoff i hi).1)) (fun e h => h3 _ _ h (fun i hi => (hoff i hi).2.1)) (fun e h => h3 _ _ h (fun i hi => (hoff i hi).2.2)), ?_⟩
  cases hB : B q0 with
  | none => rfl
  | some e =>
    have := mw_ov_fr (c := cw) ho.2 hB
    rw [hn] at this
    cases this
/-! the keeper's cells over a larger frozen part -/
theorem k_made_mono {cI cP cR : ClassId} {B B1 : mw_M} {cw : Nat → va_E} {rs : List rk_Ru} (h : k_made cI cP cR B cw rs) (hB : ∀ q e, B q = some e → B1 q = some e) : k_made cI cP cR B1 cw rs := by
  obtain ⟨h1, fm, h2, h3⟩ := h
  refine ⟨h1, fm, h2, fun i hi => ?_⟩
  obtain ⟨a, g1, g2, g3⟩ := h3 i hi
  exact ⟨a, g1, k_rule_mono g2 hB, g3⟩
theorem k_dr_mono {cI cP : ClassId} {B B1 : mw_M} {cw : Nat → va_E} {dr : List rk_Pt} (h : k_dr cI cP B cw dr) (hB : ∀ q e, B q = some e → B1 q = some e) : k_dr cI cP B1 cw dr := by
  obtain ⟨h1, fm, h2, h3⟩ := h
  refine ⟨h1, fm, h2, fun i hi => ?_⟩
  obtain ⟨a, g1, g2⟩ := h3 i hi
  exact ⟨a, g1, k_pat_mono g2 hB⟩
theorem k_svs_mono {cI cC : ClassId} {B B1 : mw_M} {ad : Nat → Nat} {cw : Nat → va_E} {ca : Nat} (h : ∃ cc u, k_sv cI cC B ad cw ca cc u) (hB : ∀ q e, B q = some e → B1 q = some e) : ∃ cc u, k_sv cI cC B1 ad cw ca cc u := by
  obtain ⟨cc, u, a1, a2, a3, fa, a4, a5⟩ := h
  exact ⟨cc, u, a1, a2, a3, fa, hB _ _ a4, a5⟩
theorem k_kp_mono {cI cP cR cC : ClassId} {B B1 : mw_M} {ad : Nat → Nat} {cw : Nat → va_E} {pm sm ca : Nat} {said : Nat → Bool} {rs : List rk_Ru} {dr : List rk_Pt} {L : List Nat} (h : k_kp cI cP cR cC B ad cw pm sm ca said rs dr L) (hB : ∀ q e, B q = some e → B1 q = some e) : k_kp cI cP cR cC B1 ad cw pm sm ca said rs dr L :=
  ⟨h.1, h.2.1, k_svs_mono h.2.2.1 hB, h.2.2.2.1, h.2.2.2.2.1, k_made_mono h.2.2.2.2.2.1 hB, k_dr_mono h.2.2.2.2.2.2 hB⟩
theorem k_fz_mono {B B1 : mw_M} {ad : Nat → Nat} {pm sm : Nat} (h : k_fz B ad pm sm) (hB : ∀ q e, B q = some e → B1 q = some e) : k_fz B1 ad pm sm := ⟨hB _ _ h.1, hB _ _ h.2⟩
def sp_pattern (dr : List rk_Pt) (a b c : Int32) (r : Int32) (dr' : List rk_Pt) : Prop :=
  ((¬ ∃ P, rk_pti a b c P) ∧ r = -1 ∧ dr' = dr) ∨ ∃ P, rk_pti a b c P ∧ ((4 ≤ dr.length ∧ r = -3 ∧ dr' = dr) ∨ (dr.length < 4 ∧ r = nI (dr.length + 1) ∧ dr' = dr ++ [P]))
theorem rk_ptD_app {L K : List rk_Pt} {i : Nat} (h : i < L.length) : (L ++ K).getD i (0, 0, 0) = L.getD i (0, 0, 0) := by
  rw [List.getD_eq_getElem?_getD, List.getD_eq_getElem?_getD, List.getElem?_append_left h]
theorem rk_ptD_last (L : List rk_Pt) (x : rk_Pt) : (L ++ [x]).getD L.length (0, 0, 0) = x := by
  rw [List.getD_eq_getElem?_getD, List.getElem?_append_right (Nat.le_refl _)]
  simp
