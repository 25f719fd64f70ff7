/-! the keeper's first state -/
theorem k_start {cI cP cR cC : ClassId} {M M1 : mw_M} {ad : Nat → Nat} {ns : List Nat} {fa fm fd : Nat → Option Nat} (l : List Nat) (hl : ∀ i, i < 24 → i ∈ l) (hgr : mw_gr M M1 (ad 0) ns) (hn : ad 0 :: ns = l.map ad)
    (h0 : M1 (ad 0) = some (k_k0 ad (ad 22) 0 0)) (h1 : M1 (ad 1) = some (.inr (5, [.ref (ad 2), .ref (ad 8), .ref (ad 23), .int (nI 0)]))) (h2 : M1 (ad 2) = some (.inr (1, [.ref (ad 3), .ref (ad 21), .int (nI 0)]))) (h3 : M1 (ad 3) = some (.inl (cI, 300, .inl (rk_nf (fun _ => 0))))) (h4 : M1 (ad 4) = some (.inl (cI, 1024, .inl (fun _ => 0)))) (h5 : M1 (ad 5) = some (.inl (cI, 1024, .inl (fun _ => 0)))) (h6 : M1 (ad 6) = some (.inl (cR, 12, .inr (.inr (.inr (.inr fm)))))) (h7 : M1 (ad 7) = some (.inl (cP, 4, .inr (.inr (.inr (.inr fd)))))) (h8 : M1 (ad 8) = some (.inl (cI, 8, .inl (rk_nf (fun _ => 0))))) (h21 : M1 (ad 21) = some (.inr (0, [.ref (ad 4)]))) (h22 : M1 (ad 22) = some (.inr (0, [.ref (ad 5)]))) (h23 : M1 (ad 23) = some (.inl (cC, 3, .inr (.inr (.inr (.inr fa)))))) (hfa : ∀ d, d < 3 → fa d = some (ad (9 + 4 * d)))
    (hC : ∀ d, d < 3 → ∃ sr, M1 (ad (9 + 4 * d)) = some (.inr (4, [.ref (ad (9 + 4 * d + 1)), .ref (ad (9 + 4 * d + 2)), .ref (ad (9 + 4 * d + 3)), .ref sr, .int (nI 0), .int (nI 0)])) ∧ M1 (ad (9 + 4 * d + 1)) = some (.inl (cI, 300, .inl (rk_nf (fun _ => 0)))) ∧ M1 (ad (9 + 4 * d + 2)) = some (.inl (cI, 300, .inl (rk_nf (fun _ => 0)))) ∧ M1 (ad (9 + 4 * d + 3)) = some (.inl (cI, 1024, .inl (rk_nf (fun _ => 0))))) :
    k_ks cI cP cR cC (va_up M (ad 0) none) ad (ad 21) (ad 22) (ad 23) (fun _ => false) [] [] M1 := by
  have hin : ∀ i, i < 24 → ad i ∈ ad 0 :: ns := fun i hi => by rw [hn]; exact List.mem_map.mpr ⟨i, hl i hi, rfl⟩
  have hinj : ∀ i j, i < 24 → j < 24 → ad i = ad j → i = j := fun i j hi hj e => mw_gr_inj (by rw [← hn]; exact hgr.2.1) i (hl i hi) j (hl j hj) e
  have hj21 : mw_inj ad 21 := fun i j hi hj e => hinj i j (by omega) (by omega) e
  let cw : Nat → va_E := fun i => (M1 (ad i)).getD (.inr (0, []))
  have hcw : ∀ i x, M1 (ad i) = some x → cw i = x := fun i x h => by show (M1 (ad i)).getD _ = x; rw [h]; rfl
  have hall : ∀ i, i < 21 → M1 (ad i) = some (cw i) := fun i hi => by
    obtain ⟨e, he⟩ := hgr.2.2 _ (hin i (by omega))
    rw [he, hcw i e he]
  have hfz : ∀ k, 21 ≤ k → k < 24 → mw_rm M1 ad 21 (ad k) = M1 (ad k) := fun k h1 h2 => mw_rm_off (fun i hi e => by have := hinj i k (by omega) h2 e; omega)
  refine ⟨mw_rm M1 ad 21, cw, [], (mw_rm_ov hj21 hall).symm, fun q e hq => ?_, ⟨hj21, fun i hi => mw_rm_at hi⟩, ⟨?_, ?_⟩, ⟨?_, ⟨fun _ => 0, fun _ => 0, ?_, ?_, ?_, fun i hi => absurd hi (Nat.not_lt_zero i), ?_, Nat.zero_le _, List.nodup_nil, fun k hk => absurd hk List.not_mem_nil⟩, ⟨0, fun _ => 0, ?_, ?_, ?_, fa, ?_, hfa⟩, fun d hd => ?_, ⟨fun _ => 0, ?_, rk_W_0⟩, ⟨Nat.zero_le _, fm, ?_, fun i hi => absurd hi (Nat.not_lt_zero i)⟩, ⟨Nat.zero_le _, fd, ?_, fun i hi => absurd hi (Nat.not_lt_zero i)⟩⟩, rk_empty_holds (fun r hr => absurd hr List.not_mem_nil), fun j hj => by cases hj⟩
  · have hne : q ≠ ad 0 := fun g => by rw [g, va_up_self] at hq; cases hq
    rw [va_up_ne _ _ hne] at hq
    obtain ⟨g1, g2⟩ := hgr.1 q e hne hq
    rw [mw_rm_off (fun i hi g => ?_), g2]
    have := hin i (by omega)
    rw [g] at this
    exact (List.mem_cons.mp this).elim hne g1
  · rw [hfz 21 (by omega) (by omega)]
    exact h21
  · rw [hfz 22 (by omega) (by omega)]
    exact h22
  · exact hcw 0 _ h0
  · exact hcw 2 _ h2
  · exact hcw 3 _ h3
  · exact hcw 4 _ h4
  · have : (fun k => decide (k ∈ ([] : List Nat))) = fun _ => false := by funext k; simp
    rw [this]
    exact rk_W_0
  · exact hcw 1 _ h1
  · exact hcw 8 _ h8
  · intro x
    show 0 < 32
    decide
  · rw [hfz 23 (by omega) (by omega)]
    exact h23
  · obtain ⟨sr, c1, c2, c3, c4⟩ := hC d hd
    exact ⟨sr, 0, 0, fun _ => 0, fun _ => 0, fun _ => 0, ⟨hcw _ _ c1, hcw _ _ c2, hcw _ _ c3, hcw _ _ c4⟩, fun _ => rfl⟩
  · exact hcw 5 _ h5
  · exact hcw 6 _ h6
  · exact hcw 7 _ h7
