/-! what a pattern becomes under an assignment v of the variables; which codes it can become -/
def rk_val (i : Nat) (v : Nat → Nat) : Nat := if i < 32 then i else v (i - 32)
def rk_inst (P : rk_Pt) (v : Nat → Nat) : Nat := rk_pk (rk_val P.1 v) (rk_val P.2.1 v) (rk_val P.2.2 v)
def rk_okV (v : Nat → Nat) : Prop := ∀ x, v x < 32
theorem rk_val_lt {i : Nat} {v : Nat → Nat} (hv : rk_okV v) : rk_val i v < 32 := by
  unfold rk_val
  split
  · assumption
  · exact hv _
theorem rk_inst_lt {P : rk_Pt} {v : Nat → Nat} (hv : rk_okV v) : rk_inst P v < 32768 := rk_pk_lt (rk_val_lt hv) (rk_val_lt hv) (rk_val_lt hv)
theorem rk_inst_dg {P : rk_Pt} {v : Nat → Nat} (hv : rk_okV v) : ∀ j, j < 3 → rk_dg (rk_inst P v) j = rk_val (rk_at P j) v := by
  refine rk_j3 ?_ ?_ ?_
  · rw [rk_dg0 (rk_inst_lt hv)]
    exact rk_pk_0 (rk_val_lt hv) (rk_val_lt hv)
  · exact rk_pk_1 (rk_val_lt hv) (rk_val_lt hv)
  · rw [rk_dg2]
    exact rk_pk_2 (rk_val_lt hv)
theorem rk_code {k : Nat} (hk : k < 32768) : k = rk_pk (rk_dg k 0) (rk_dg k 1) (rk_dg k 2) := by
  rw [rk_dg0 hk, rk_dg1, rk_dg2, rk_pk_of]
theorem rk_is_inst {P : rk_Pt} {v : Nat → Nat} {k : Nat} (hv : rk_okV v) (hk : k < 32768) : k = rk_inst P v ↔ ∀ j, j < 3 → rk_dg k j = rk_val (rk_at P j) v := by
  constructor
  · intro h
    rw [h]
    exact rk_inst_dg hv
  · intro h
    rw [rk_code hk, h 0 (by omega), h 1 (by omega), h 2 (by omega)]
    rfl
/-- x is a variable of P -/
def rk_in (P : rk_Pt) (x : Nat) : Prop := ∃ j, j < 3 ∧ rk_at P j = 32 + x
theorem rk_inst_congr {P : rk_Pt} {v w : Nat → Nat} (h : ∀ x, rk_in P x → v x = w x) : rk_inst P v = rk_inst P w := by
  have key : ∀ j, j < 3 → rk_val (rk_at P j) v = rk_val (rk_at P j) w := by
    intro j hj
    unfold rk_val
    split
    · rfl
    · exact h _ ⟨j, hj, by omega⟩
  unfold rk_inst
  rw [show rk_val P.1 v = rk_val P.1 w from key 0 (by omega), show rk_val P.2.1 v = rk_val P.2.1 w from key 1 (by omega), show rk_val P.2.2 v = rk_val P.2.2 w from key 2 (by omega)]
/-- two assignments that make the same code of P agree on its variables -/
theorem rk_inst_inj {P : rk_Pt} {v w : Nat → Nat} (hv : rk_okV v) (hw : rk_okV w) (h : rk_inst P v = rk_inst P w) {x : Nat} (hx : rk_in P x) : v x = w x := by
  obtain ⟨j, hj, e⟩ := hx
  have h1 := rk_inst_dg (P := P) hv j hj
  have h2 := rk_inst_dg (P := P) hw j hj
  rw [h, h2, e] at h1
  unfold rk_val at h1
  rw [if_neg (by omega), if_neg (by omega), Nat.add_sub_cancel_left] at h1
  exact h1.symm
/-- the code k fits P where the variables in B have the values u -/
def rk_mt (P : rk_Pt) (B : Nat → Bool) (u : Nat → Nat) (k : Nat) : Prop :=
  (∀ j, j < 3 → rk_at P j < 32 → rk_dg k j = rk_at P j) ∧ (∀ j, j < 3 → 32 ≤ rk_at P j → B (rk_at P j - 32) = true → rk_dg k j = u (rk_at P j - 32)) ∧ ∀ i j, i < 3 → j < 3 → rk_at P i = rk_at P j → rk_dg k i = rk_dg k j
theorem rk_mt_iff {P : rk_Pt} {B : Nat → Bool} {u : Nat → Nat} {k : Nat} (hk : k < 32768) (hu : ∀ x, B x = true → u x < 32) : rk_mt P B u k ↔ ∃ v, rk_okV v ∧ (∀ x, B x = true → v x = u x) ∧ rk_inst P v = k := by
  constructor
  · rintro ⟨h1, h2, h3⟩
    refine ⟨fun x => if B x then u x else if rk_at P 0 = 32 + x then rk_dg k 0 else if rk_at P 1 = 32 + x then rk_dg k 1 else if rk_at P 2 = 32 + x then rk_dg k 2 else 0, ?_, ?_, ?_⟩
    · intro x
      dsimp only
      split
      · exact hu x (by assumption)
      · split
        · exact rk_dg_lt _ _
        · split
          · exact rk_dg_lt _ _
          · split
            · exact rk_dg_lt _ _
            · omega
    · intro x hx
      simp [hx]
    · symm
      have hv : rk_okV (fun x => if B x then u x else if rk_at P 0 = 32 + x then rk_dg k 0 else if rk_at P 1 = 32 + x then rk_dg k 1 else if rk_at P 2 = 32 + x then rk_dg k 2 else 0) := by
        intro x
        dsimp only
        split
        · exact hu x (by assumption)
        · split
          · exact rk_dg_lt _ _
          · split
            · exact rk_dg_lt _ _
            · split
              · exact rk_dg_lt _ _
              · omega
      rw [rk_is_inst hv hk]
      intro j hj
      unfold rk_val
      by_cases hn : rk_at P j < 32
      · rw [if_pos hn]
        exact h1 j hj hn
      · rw [if_neg hn]
        have e : 32 + (rk_at P j - 32) = rk_at P j := by omega
        dsimp only
        rw [e]
        by_cases hB : B (rk_at P j - 32) = true
        · rw [if_pos hB]
          exact h2 j hj (by omega) hB
        · rw [if_neg hB]
          by_cases c0 : rk_at P 0 = rk_at P j
          · rw [if_pos c0]
            exact h3 j 0 hj (by omega) c0.symm
          · rw [if_neg c0]
            by_cases c1 : rk_at P 1 = rk_at P j
            · rw [if_pos c1]
              exact h3 j 1 hj (by omega) c1.symm
            · rw [if_neg c1]
              by_cases c2 : rk_at P 2 = rk_at P j
              · rw [if_pos c2]
                exact h3 j 2 hj (by omega) c2.symm
              · exfalso
                rcases (show j = 0 ∨ j = 1 ∨ j = 2 by omega) with rfl | rfl | rfl
                · exact c0 rfl
                · exact c1 rfl
                · exact c2 rfl
  · rintro ⟨v, hv, hB, rfl⟩
    refine ⟨fun j hj hn => ?_, fun j hj hn hb => ?_, fun i j hi hj e => ?_⟩
    · rw [rk_inst_dg hv j hj]
      unfold rk_val
      rw [if_pos hn]
    · rw [rk_inst_dg hv j hj, ← hB _ hb]
      unfold rk_val
      rw [if_neg (by omega)]
    · rw [rk_inst_dg hv i hi, rk_inst_dg hv j hj, e]
