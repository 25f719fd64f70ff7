/-! one derivation step: what each way through it gives -/
theorem rk_take_new {L : List Nat} {a k : Nat} (ha : a < L.length) (h1 : ¬ k ∈ L.take a) (h2 : k ∈ L.take (a + 1)) : k = L.getD a 0 := by
  rw [rk_take_succ ha] at h2
  rcases List.mem_append.mp h2 with z | z
  · exact absurd z h1
  · exact List.mem_singleton.mp z
theorem rk_take_last {L : List Nat} {a : Nat} (ha : a < L.length) : L.getD a 0 ∈ L.take (a + 1) := by
  rw [rk_take_succ ha]
  simp
theorem rk_take_mem {L : List Nat} {a j : Nat} (hj : j < a) (ha : a ≤ L.length) : L.getD j 0 ∈ L.take a := by
  rw [← rk_getD_take hj]
  exact rk_getD_mem (by rw [List.length_take]; omega)
theorem rk_fits_of {P : rk_Pt} {v : Nat → Nat} (hv : rk_okV v) : rk_fits P (rk_inst P v) := (rk_mt_iff (rk_inst_lt hv) (fun x hx => by cases hx)).mpr ⟨v, hv, (fun x hx => by cases hx), rfl⟩
theorem rk_bind_fit {P : rk_Pt} {S : Nat → Bool} {q : Nat} {u : Nat → Nat} (hf : rk_fits P q) : ∀ j x, j < 3 → rk_at P j = 32 + x → S x = true → rk_bind P S q u x = rk_dg q j := by
  intro j x hj e hS
  have ha : rk_agr P S q := fun i hi k hk _ z => hf.2.2 i k hi hk z
  have := rk_bind_at (u := u) ha hj (rk_ink_of e hS)
  rw [e, Nat.add_sub_cancel_left] at this
  exact this
theorem rk_drv_nofit {r : rk_Ru} {wi : Nat} {L : List Nat} {a : Nat} {X : Nat → Prop} (ha : a < L.length) (hwi : wi < r.1.length) (hnf : ¬ rk_fits (rk_nth r wi) (L.getD a 0)) : rk_drv r wi (· ∈ L.take a) (· ∈ L.take (a + 1)) X := by
  intro v hv h1 h2
  exact absurd (by rw [← rk_take_new ha h1 (h2 wi hwi)]; exact rk_fits_of hv) hnf
theorem rk_drv_before {r : rk_Ru} {wi : Nat} {L : List Nat} {a j : Nat} {X : Nat → Prop} {u : Nat → Nat} (ha : a < L.length) (hlt : ∀ k, k ∈ L → k < 32768) (hwi : wi < r.1.length) (hu : rk_okV u) (hub : ∀ j x, j < 3 → rk_at (rk_nth r wi) j = 32 + x → rk_tb (rk_shm r wi) x = true → u x = rk_dg (L.getD a 0) j) (hj : j < a) (hm : rk_mt (rk_nth r wi) (rk_tb (rk_shm r wi)) u (L.getD j 0)) : rk_drv r wi (· ∈ L.take a) (· ∈ L.take (a + 1)) X := by
  intro v hv h1 h2
  have e := rk_take_new ha h1 (h2 wi hwi)
  obtain ⟨w, hw, hB, hi⟩ := (rk_mt_iff (hlt _ (rk_getD_mem (by omega))) (fun x _ => hu x)).mp hm
  refine Or.inr ⟨w, hw, by show rk_inst (rk_nth r wi) w ∈ L.take a; rw [hi]; exact rk_take_mem hj (by omega), fun x hx => ?_⟩
  have hb : rk_tb (rk_shm r wi) x = true := rk_shm_tb.mpr hx
  obtain ⟨i, hi3, ei⟩ := hx.1
  rw [hB x hb, hub i x hi3 ei hb]
  exact rk_dg_inst hv e hi3 ei
theorem rk_drv_empty {r : rk_Ru} {wi : Nat} {L : List Nat} {a j : Nat} {X : Nat → Prop} {u : Nat → Nat} (ha : a < L.length) (hwi : wi < r.1.length) (hu : rk_okV u) (hub : ∀ j x, j < 3 → rk_at (rk_nth r wi) j = 32 + x → rk_tb (rk_shm r wi) x = true → u x = rk_dg (L.getD a 0) j) (hj : j < r.1.length) (hm : ∀ k, k ∈ L.take (a + 1) → ¬ rk_mt (rk_nth r j) (rk_tb (rk_shm r wi)) u k) : rk_drv r wi (· ∈ L.take a) (· ∈ L.take (a + 1)) X := by
  intro v hv h1 h2
  have e := rk_take_new ha h1 (h2 wi hwi)
  refine absurd ((rk_mt_iff (rk_inst_lt hv) (fun x _ => hu x)).mpr ⟨v, hv, fun x hx => ?_, rfl⟩) (hm _ (h2 j hj))
  obtain ⟨i, hi3, ei⟩ := (rk_shm_tb.mp hx).1
  rw [hub i x hi3 ei hx]
  exact (rk_dg_inst hv e hi3 ei).symm
theorem rk_drv_join {r : rk_Ru} {wi : Nat} {L : List Nat} {a : Nat} {X : Nat → Prop} (ha : a < L.length) (hwi : wi < r.1.length) (hX : ∀ z, (∃ v, rk_okV v ∧ rk_inst (rk_nth r wi) v = L.getD a 0 ∧ (∀ j, j < r.1.length → j ≠ wi → rk_inst (rk_nth r j) v ∈ L.take (a + 1)) ∧ rk_inst r.2 v = z) → X z) : rk_drv r wi (· ∈ L.take a) (· ∈ L.take (a + 1)) X := by
  intro v hv h1 h2
  exact Or.inl (hX _ ⟨v, hv, rk_take_new ha h1 (h2 wi hwi), fun j hj _ => h2 j hj, rfl⟩)
theorem rk_case_of {r : rk_Ru} {wi q : Nat} {S : Nat → Prop} {v : Nat → Nat} (hv : rk_okV v) (hq : S q) (h1 : rk_inst (rk_nth r wi) v = q) (h2 : ∀ j, j < r.1.length → j ≠ wi → S (rk_inst (rk_nth r j) v)) : rk_case r S v := by
  refine ⟨hv, fun P hP => ?_⟩
  obtain ⟨i, hi, rfl⟩ := rk_mem_nth hP
  by_cases e : i = wi
  · rw [e, h1]
    exact hq
  · exact h2 i hi e
/-- the columns of a rule join well, from a place of the body -/
theorem rk_jn_of {L : List Nat} {r : rk_Ru} {b wo : Nat} {cf : Nat → rk_Col} {u : Nat → Nat} (hu : rk_okV u) (hcf : ∀ j, j < r.1.length → j ≠ wo → rk_iscol r b j (cf j) ∧ rk_colok L (rk_tb b) u (cf j)) (hh : ∀ x, rk_in r.2 x → rk_tb b x = true ∨ ∃ j, j < r.1.length ∧ j ≠ wo ∧ rk_in (rk_nth r j) x) : rk_jn L (rk_tb b) u r.2 (rk_cols r wo cf r.1.length) (rk_tb b) u := by
  have hkb : ∀ j x, j < r.1.length → j ≠ wo → rk_in r.2 x → rk_in (rk_nth r j) x → (cf j).2.1 x = true ∨ rk_tb b x = true := by
    intro j x hj hne hx hin
    rw [(hcf j hj hne).1.2, rk_tb_an]
    have : rk_tb (rk_shm r j) x = true := rk_shm_tb.mpr ⟨hin, Or.inl hx⟩
    cases e : rk_tb b x
    · exact Or.inl (by simp [this, e])
    · exact Or.inr rfl
  refine ⟨hu, fun x hx => ⟨hx, rfl⟩, fun c hc => ?_, rk_cols_pw (fun i j hij hj hi hj2 => rk_shr2_of (hcf i (by omega) hi).1 (hcf j hj hj2).1 (by omega) hj (by omega)), fun c hc x _ hB => Or.inl hB, fun c hc x hx hin => ?_, fun x hx => ?_⟩
  · obtain ⟨j, h1, h2, rfl⟩ := rk_cols_mem.mp hc
    exact (hcf j h1 h2).2
  · obtain ⟨j, h1, h2, rfl⟩ := rk_cols_mem.mp hc
    rw [(hcf j h1 h2).1.1] at hin
    exact hkb j x h1 h2 hx hin
  · rcases hh x hx with z | ⟨j, h1, h2, h3⟩
    · exact Or.inl z
    · rcases hkb j x h1 h2 hx h3 with z | z
      · exact Or.inr ⟨cf j, rk_cols_mem.mpr ⟨j, h1, h2, rfl⟩, z⟩
      · exact Or.inl z
/-- all the columns: their patterns are the body -/
theorem rk_cols_all {r : rk_Ru} {wo : Nat} {cf : Nat → rk_Col} : ∀ {n : Nat}, n ≤ wo → n ≤ r.1.length → (∀ j, j < n → (cf j).1 = rk_nth r j) → (rk_cols r wo cf n).map (fun c => c.1) = r.1.take n
  | 0, _, _, _ => by simp [rk_cols]
  | n + 1, h, hn, hc => by
    show (rk_cols r wo cf n ++ (if n = wo then [] else [cf n])).map (fun c => c.1) = r.1.take (n + 1)
    rw [if_neg (by omega), List.map_append, rk_cols_all (by omega) (by omega) (fun j hj => hc j (by omega)), List.take_add_one]
    congr 1
    rw [List.map_cons, hc n (by omega), List.getElem?_eq_getElem (by omega)]
    unfold rk_nth
    rw [List.getD_eq_getElem?_getD, List.getElem?_eq_getElem (by omega)]
    rfl
/-- the count of the whole join is the support that the rule gives -/
theorem rk_cj_sup {L : List Nat} (hL : ∀ k, k ∈ L → k < 32768) {r : rk_Ru} {wo q : Nat} {cf : Nat → rk_Col} {u : Nat → Nat} (hq : q < 32768) (hwo : r.1.length ≤ wo) (hu : rk_okV u) (hf : rk_fits r.2 q) (hub : ∀ j x, j < 3 → rk_at r.2 j = 32 + x → rk_tb (rk_vars r.2) x = true → u x = rk_dg q j) (hcf : ∀ j, j < r.1.length → j ≠ wo → rk_iscol r (rk_vars r.2) j (cf j) ∧ rk_colok L (rk_tb (rk_vars r.2)) u (cf j)) : rk_cj (rk_cols r wo cf r.1.length) (rk_tb (rk_vars r.2)) u = rk_sup L r q := by
  have hjn := rk_jn_of hu hcf (fun x hx => Or.inl (rk_vars_tb.mpr hx))
  rw [rk_cj_tup hL hu hjn.2.1 hjn.2.2.1 hjn.2.2.2.1 hjn.2.2.2.2.1, rk_cols_all hwo (Nat.le_refl _) (fun j hj => (hcf j hj (by omega)).1.1), List.take_length]
  unfold rk_sup
  have key : ∀ v, rk_okV v → (rk_ext (rk_tb (rk_vars r.2)) u v ↔ rk_inst r.2 v = q) := by
    intro v hv
    constructor
    · intro h
      symm
      rw [rk_is_inst hv hq]
      intro j hj
      unfold rk_val
      by_cases hn : rk_at r.2 j < 32
      · rw [if_pos hn]
        exact hf.1 j hj hn
      · rw [if_neg hn]
        have hb : rk_tb (rk_vars r.2) (rk_at r.2 j - 32) = true := rk_vars_tb.mpr ⟨j, hj, by omega⟩
        rw [h _ hb, hub j _ hj (by omega) hb]
    · intro h x hx
      obtain ⟨j, hj, e⟩ := rk_vars_tb.mp hx
      rw [hub j x hj e hx]
      exact (rk_dg_inst hv h hj e).symm
  exact rk_tup_congr (fun v hv h => ⟨v, hv, (key v hv).mp h, fun _ _ _ _ => rfl⟩) (fun v hv h => ⟨v, hv, (key v hv).mpr h, fun _ _ _ _ => rfl⟩)
theorem rk_sup_nofit {L : List Nat} {r : rk_Ru} {q : Nat} (h : ¬ rk_fits r.2 q) : rk_sup L r q = 0 := rk_tup_none (fun v hv e => h (by rw [← e]; exact rk_fits_of hv))
theorem rk_tup_pick {L : List Nat} : ∀ {Ps : List rk_Pt} {F : (Nat → Nat) → Prop} {P : rk_Pt}, P ∈ Ps → (∀ v, rk_okV v → F v → rk_inst P v ∉ L) → rk_tup L Ps F = 0
  | P0 :: Ps, F, P, hP, h => by
    show rk_sum L (fun k => rk_tup L Ps (fun v => F v ∧ rk_inst P0 v = k)) = 0
    refine rk_sum_0 (fun k hk => ?_)
    rcases List.mem_cons.mp hP with rfl | hP
    · exact rk_tup_none (fun v hv z => h v hv z.1 (by rw [z.2]; exact hk))
    · exact rk_tup_pick hP (fun v hv z => h v hv z.1)
theorem rk_sup_empty {L : List Nat} {r : rk_Ru} {q j : Nat} {u : Nat → Nat} (hu : rk_okV u) (hub : ∀ j x, j < 3 → rk_at r.2 j = 32 + x → rk_tb (rk_vars r.2) x = true → u x = rk_dg q j) (hj : j < r.1.length) (hm : ∀ k, k ∈ L → ¬ rk_mt (rk_nth r j) (rk_tb (rk_vars r.2)) u k) : rk_sup L r q = 0 := by
  refine rk_tup_pick (rk_nth_mem hj) (fun v hv e hin => ?_)
  refine hm _ hin ((rk_mt_iff (rk_inst_lt hv) (fun x _ => hu x)).mpr ⟨v, hv, fun x hx => ?_, rfl⟩)
  obtain ⟨i, hi3, ei⟩ := rk_vars_tb.mp hx
  rw [hub i x hi3 ei hx]
  exact (rk_dg_inst hv e hi3 ei).symm
