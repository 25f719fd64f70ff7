/-! items and patterns: a number is itself (below 32), the variable -1 - x is 32 + x (x below 8) -/
def rk_iv (i : Nat) : Int32 := if i < 32 then nI i else nI 31 - nI i
theorem rk_item {x : Int32} (h1 : ¬ x < -8) (h2 : x < 32) : ∃ i, i < 40 ∧ x = rk_iv i := by
  have e1 : ¬ x.toInt < -8 := fun h => h1 (Int32.lt_iff_toInt_lt.mpr (by simpa using h))
  have e2 : x.toInt < 32 := by simpa using Int32.lt_iff_toInt_lt.mp h2
  by_cases h : x.toInt < 0
  · refine ⟨(31 - x.toInt).toNat, by omega, Int32.toInt_inj.mp ?_⟩
    unfold rk_iv
    rw [if_neg (by omega), pk_sub_toInt (by omega) (by omega)]
    omega
  · refine ⟨x.toInt.toNat, by omega, Int32.toInt_inj.mp ?_⟩
    unfold rk_iv
    rw [if_pos (by omega), nI_toInt (by omega)]
    omega
theorem rk_iv_lo : ∀ i, i < 40 → (rk_iv i < 0 ↔ 32 ≤ i) := by decide +kernel
theorem rk_iv_ok : ∀ i, i < 40 → ¬ rk_iv i < -8 ∧ rk_iv i < 32 := by decide +kernel
theorem rk_iv_inj : ∀ i, i < 40 → ∀ j, j < 40 → (rk_iv i = rk_iv j ↔ i = j) := by decide +kernel
theorem rk_iv_num : ∀ i, i < 32 → rk_iv i = nI i := by decide +kernel
theorem rk_iv_slot : ∀ i, i < 40 → 32 ≤ i → ((-1) - rk_iv i) &&& 7 = nI (i - 32) := by decide +kernel
theorem rk_iv_bit : ∀ x, x < 8 → (1 : Int32) <<< (nI x &&& 31) = nI (2 ^ x) := by decide +kernel
abbrev rk_Pt : Type := Nat × Nat × Nat
def rk_at (P : rk_Pt) (j : Nat) : Nat := match j with
  | 0 => P.1
  | 1 => P.2.1
  | _ => P.2.2
def rk_okP (P : rk_Pt) : Prop := ∀ j, j < 3 → rk_at P j < 40
theorem rk_j3 {p : Nat → Prop} (h0 : p 0) (h1 : p 1) (h2 : p 2) : ∀ j, j < 3 → p j := by
  intro j hj
  rcases (show j = 0 ∨ j = 1 ∨ j = 2 by omega) with rfl | rfl | rfl
  · exact h0
  · exact h1
  · exact h2
/-! masks over the three places of a code -/
def rk_m (f : Nat → Bool) : Nat := rk_pk (if f 0 then 31 else 0) (if f 1 then 31 else 0) (if f 2 then 31 else 0)
def rk_v (f : Nat → Bool) (w : Nat → Nat) : Nat := rk_pk (if f 0 then w 0 else 0) (if f 1 then w 1 else 0) (if f 2 then w 2 else 0)
def rk_dg (k j : Nat) : Nat := k / 2 ^ (10 - 5 * j) % 32
theorem rk_dg_lt (k j : Nat) : rk_dg k j < 32 := Nat.mod_lt _ (by omega)
theorem rk_dg0 {k : Nat} (h : k < 32768) : rk_dg k 0 = k / 1024 := by
  unfold rk_dg
  rw [show 2 ^ (10 - 5 * 0) = 1024 from rfl]
  omega
theorem rk_dg1 (k : Nat) : rk_dg k 1 = k / 32 % 32 := rfl
theorem rk_dg2 (k : Nat) : rk_dg k 2 = k % 32 := by
  unfold rk_dg
  rw [show 2 ^ (10 - 5 * 2) = 1 from rfl, Nat.div_one]
theorem rk_and_31 {x : Nat} (h : x < 32) : x &&& 31 = x := by
  rw [show (31 : Nat) = 2 ^ 5 - 1 from rfl, Nat.and_two_pow_sub_one_eq_mod]
  exact Nat.mod_eq_of_lt h
theorem rk_ite_lt {b : Bool} {x : Nat} (h : x < 32) : (if b then x else 0) < 32 := by
  cases b <;> simp [h]
theorem rk_and_ite (b : Bool) {x : Nat} (h : x < 32) : x &&& (if b then 31 else 0) = if b then x else 0 := by
  cases b
  · simp
  · simpa using rk_and_31 h
/-- what a mask leaves of a code -/
theorem rk_mask (f : Nat → Bool) {k : Nat} (hk : k < 32768) : k &&& rk_m f = rk_v f (rk_dg k) := by
  have h0 : k / 1024 < 32 := by omega
  have h1 : k / 32 % 32 < 32 := by omega
  have h2 : k % 32 < 32 := by omega
  have e : k &&& rk_m f = rk_pk (k / 1024) (k / 32 % 32) (k % 32) &&& rk_m f := by rw [rk_pk_of]
  rw [e]
  unfold rk_m rk_v
  rw [rk_and3 h1 h2 (rk_ite_lt (by omega)) (rk_ite_lt (by omega)), rk_and_ite _ h0, rk_and_ite _ h1, rk_and_ite _ h2, rk_dg0 hk, rk_dg1, rk_dg2]
theorem rk_v_eq {f : Nat → Bool} {w u : Nat → Nat} (hw : ∀ j, j < 3 → w j < 32) (hu : ∀ j, j < 3 → u j < 32) : rk_v f w = rk_v f u ↔ ∀ j, j < 3 → f j = true → w j = u j := by
  unfold rk_v
  rw [rk_pk_inj (rk_ite_lt (hw 1 (by omega))) (rk_ite_lt (hw 2 (by omega))) (rk_ite_lt (hu 1 (by omega))) (rk_ite_lt (hu 2 (by omega)))]
  constructor
  · rintro ⟨a, b, d⟩
    refine rk_j3 (fun h => ?_) (fun h => ?_) (fun h => ?_)
    · simpa [h] using a
    · simpa [h] using b
    · simpa [h] using d
  · intro h
    refine ⟨?_, ?_, ?_⟩
    · cases e : f 0
      · simp
      · simpa using h 0 (by omega) e
    · cases e : f 1
      · simp
      · simpa using h 1 (by omega) e
    · cases e : f 2
      · simp
      · simpa using h 2 (by omega) e
theorem rk_sel {f : Nat → Bool} {w : Nat → Nat} {k : Nat} (hk : k < 32768) (hw : ∀ j, j < 3 → w j < 32) : k &&& rk_m f = rk_v f w ↔ ∀ j, j < 3 → f j = true → rk_dg k j = w j := by
  rw [rk_mask f hk, rk_v_eq (fun j _ => rk_dg_lt k j) hw]
theorem rk_m_lt (f : Nat → Bool) : rk_m f < 32768 := rk_pk_lt (rk_ite_lt (by omega)) (rk_ite_lt (by omega)) (rk_ite_lt (by omega))
theorem rk_v_lt {f : Nat → Bool} {w : Nat → Nat} (hw : ∀ j, j < 3 → w j < 32) : rk_v f w < 32768 := rk_pk_lt (rk_ite_lt (hw 0 (by omega))) (rk_ite_lt (hw 1 (by omega))) (rk_ite_lt (hw 2 (by omega)))
theorem rk_ite_or (a b : Bool) : (if a then (31 : Nat) else 0) ||| (if b then 31 else 0) = if (a || b) then 31 else 0 := by
  cases a <;> cases b <;> rfl
theorem rk_m_or (f g : Nat → Bool) : rk_m f ||| rk_m g = rk_m (fun j => f j || g j) := by
  unfold rk_m
  rw [rk_or3 (rk_ite_lt (by omega)) (rk_ite_lt (by omega)) (rk_ite_lt (by omega)) (rk_ite_lt (by omega)), rk_ite_or, rk_ite_or, rk_ite_or]
theorem rk_v_or {f g : Nat → Bool} {w u : Nat → Nat} (hw : ∀ j, j < 3 → w j < 32) (hu : ∀ j, j < 3 → u j < 32) (hd : ∀ j, j < 3 → (f j && g j) = false) : rk_v f w ||| rk_v g u = rk_v (fun j => f j || g j) (fun j => if f j then w j else u j) := by
  have key : ∀ j, j < 3 → (if f j then w j else 0) ||| (if g j then u j else 0) = if (f j || g j) then (if f j then w j else u j) else 0 := by
    intro j hj
    have := hd j hj
    revert this
    cases f j <;> cases g j <;> simp
  unfold rk_v
  rw [rk_or3 (rk_ite_lt (hw 1 (by omega))) (rk_ite_lt (hw 2 (by omega))) (rk_ite_lt (hu 1 (by omega))) (rk_ite_lt (hu 2 (by omega))), key 0 (by omega), key 1 (by omega), key 2 (by omega)]
/-- a loop over the places, as far as place n -/
def rk_upto (f : Nat → Bool) (n : Nat) (j : Nat) : Bool := f j && decide (j < n)
theorem rk_m_0 (f : Nat → Bool) : rk_m (rk_upto f 0) = 0 := by simp [rk_m, rk_upto, rk_pk]
theorem rk_v_0 (f : Nat → Bool) (w : Nat → Nat) : rk_v (rk_upto f 0) w = 0 := by simp [rk_v, rk_upto, rk_pk]
theorem rk_m_3 (f : Nat → Bool) : rk_m (rk_upto f 3) = rk_m f := by simp [rk_m, rk_upto]
theorem rk_v_3 (f : Nat → Bool) (w : Nat → Nat) : rk_v (rk_upto f 3) w = rk_v f w := by simp [rk_v, rk_upto]
theorem rk_pos {j : Nat} (hj : j < 3) {x : Nat} : x * 2 ^ (10 - 5 * j) = rk_v (fun i => decide (i = j)) (fun _ => x) := by
  rcases (show j = 0 ∨ j = 1 ∨ j = 2 by omega) with rfl | rfl | rfl
  · simp [rk_v, rk_pk]; omega
  · simp [rk_v, rk_pk]; omega
  · simp [rk_v, rk_pk]
theorem rk_m_step {f : Nat → Bool} {j : Nat} (hj : j < 3) (h : f j = true) : rk_m (rk_upto f j) ||| 31 * 2 ^ (10 - 5 * j) = rk_m (rk_upto f (j + 1)) := by
  have e : 31 * 2 ^ (10 - 5 * j) = rk_m (fun i => decide (i = j)) := rk_pos hj
  rw [e, rk_m_or]
  congr 1
  funext i
  by_cases hi : i = j
  · subst hi
    simp [rk_upto, h]
  · simp only [rk_upto, hi, decide_false, Bool.or_false]
    congr 1
    exact decide_eq_decide.mpr (by omega)
theorem rk_m_skip {f : Nat → Bool} {j : Nat} (h : f j = false) : rk_m (rk_upto f (j + 1)) = rk_m (rk_upto f j) := by
  congr 1
  funext i
  by_cases hi : i = j
  · subst hi
    simp [rk_upto, h]
  · simp only [rk_upto]
    congr 1
    exact decide_eq_decide.mpr (by omega)
theorem rk_v_step {f : Nat → Bool} {w : Nat → Nat} {j : Nat} (hw : ∀ j, j < 3 → f j = true → w j < 32) (hj : j < 3) (h : f j = true) : rk_v (rk_upto f j) w ||| w j * 2 ^ (10 - 5 * j) = rk_v (rk_upto f (j + 1)) w := by
  have hlt : w j < 32 := hw j hj h
  have e0 : rk_v (rk_upto f j) w = rk_v (rk_upto f j) (fun i => if f i then w i else 0) := by
    unfold rk_v rk_upto
    cases g0 : f 0 <;> cases g1 : f 1 <;> cases g2 : f 2 <;> simp [g0, g1, g2]
  rw [rk_pos hj, e0, rk_v_or (fun i hi => by cases e : f i <;> simp [hw i hi, e]) (fun _ _ => hlt) (fun i _ => by
    by_cases hi : i = j
    · subst hi; simp [rk_upto]
    · simp [hi])]
  rcases (show j = 0 ∨ j = 1 ∨ j = 2 by omega) with rfl | rfl | rfl
  · simp [rk_v, rk_upto, h]
  · cases g0 : f 0 <;> simp [rk_v, rk_upto, h, g0]
  · cases g0 : f 0 <;> cases g1 : f 1 <;> simp [rk_v, rk_upto, h, g0, g1]
theorem rk_v_skip {f : Nat → Bool} {w : Nat → Nat} {j : Nat} (h : f j = false) : rk_v (rk_upto f (j + 1)) w = rk_v (rk_upto f j) w := by
  congr 1
  funext i
  by_cases hi : i = j
  · subst hi
    simp [rk_upto, h]
  · simp only [rk_upto]
    congr 1
    exact decide_eq_decide.mpr (by omega)
/-- the shifts, and a number shifted to a place -/
def rk_shift (j : Nat) : Int32 := nI (10 - 5 * j)
theorem rk_shl {j x : Nat} (hj : j < 3) (hx : x < 32) : nI x <<< (rk_shift j &&& 31) = nI (x * 2 ^ (10 - 5 * j)) := by
  rcases (show j = 0 ∨ j = 1 ∨ j = 2 by omega) with rfl | rfl | rfl
  · exact pk_shlN _ 10 (by decide) (by omega)
  · exact pk_shlN _ 5 (by decide) (by omega)
  · exact pk_shlN _ 0 (by decide) (by omega)
theorem rk_shr {j k : Nat} (hj : j < 3) (hk : k < 32768) : nI k >>> (rk_shift j &&& 31) = nI (k / 2 ^ (10 - 5 * j)) := by
  rcases (show j = 0 ∨ j = 1 ∨ j = 2 by omega) with rfl | rfl | rfl
  · exact pk_shrN (by omega) _ 10 (by decide)
  · exact pk_shrN (by omega) _ 5 (by decide)
  · exact pk_shrN (by omega) _ 0 (by decide)
