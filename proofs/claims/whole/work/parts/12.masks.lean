/-! sets of variables as masks -/
def rk_bits (P : rk_Pt) (j : Nat) : Nat := if rk_at P j < 32 then 0 else 2 ^ (rk_at P j - 32)
def rk_slots (P : rk_Pt) (j : Nat) : Nat := if rk_at P j < 32 then 0 else rk_at P j - 32
def rk_varsn (P : rk_Pt) : Nat → Nat
  | 0 => 0
  | n + 1 => rk_varsn P n ||| rk_bits P n
def rk_vars (P : rk_Pt) : Nat := rk_varsn P 3
theorem rk_bits_tb {P : rk_Pt} {j x : Nat} : (rk_bits P j).testBit x = true ↔ rk_at P j = 32 + x := by
  unfold rk_bits
  split
  · simp
    omega
  · rw [Nat.testBit_two_pow]
    simp
    omega
theorem rk_varsn_tb {P : rk_Pt} {x : Nat} : ∀ n, (rk_varsn P n).testBit x = true ↔ ∃ j, j < n ∧ rk_at P j = 32 + x
  | 0 => by simp [rk_varsn]
  | n + 1 => by
    show (rk_varsn P n ||| rk_bits P n).testBit x = true ↔ _
    rw [Nat.testBit_or, Bool.or_eq_true, rk_varsn_tb n, rk_bits_tb]
    constructor
    · rintro (⟨j, h1, h2⟩ | h)
      · exact ⟨j, by omega, h2⟩
      · exact ⟨n, by omega, h⟩
    · rintro ⟨j, h1, h2⟩
      by_cases e : j = n
      · subst e
        exact Or.inr h2
      · exact Or.inl ⟨j, by omega, h2⟩
theorem rk_vars_tb {P : rk_Pt} {x : Nat} : (rk_vars P).testBit x = true ↔ rk_in P x := rk_varsn_tb 3
theorem rk_bits_lt {P : rk_Pt} (hP : rk_okP P) {j : Nat} (hj : j < 3) : rk_bits P j < 256 := by
  unfold rk_bits
  split
  · omega
  · have h := hP j hj
    have : 2 ^ (rk_at P j - 32) ≤ 2 ^ 7 := Nat.pow_le_pow_right (by omega) (by omega)
    omega
theorem rk_slots_lt {P : rk_Pt} (hP : rk_okP P) {j : Nat} (hj : j < 3) : rk_slots P j < 8 := by
  have h := hP j hj
  unfold rk_slots
  split <;> omega
theorem rk_or_lt {a b : Nat} (ha : a < 256) (hb : b < 256) : a ||| b < 256 := Nat.or_lt_two_pow (n := 8) ha hb
theorem rk_and_lt {a b : Nat} (hb : b < 256) : a &&& b < 256 := Nat.and_lt_two_pow (n := 8) a hb
theorem rk_varsn_lt {P : rk_Pt} (hP : rk_okP P) : ∀ n, n ≤ 3 → rk_varsn P n < 256
  | 0, _ => by show (0 : Nat) < 256; omega
  | n + 1, h => rk_or_lt (rk_varsn_lt hP n (by omega)) (rk_bits_lt hP (by omega))
theorem rk_vars_lt {P : rk_Pt} (hP : rk_okP P) : rk_vars P < 256 := rk_varsn_lt hP 3 (Nat.le_refl 3)
/-- a place's bit against a mask -/
theorem rk_bits_and {P : rk_Pt} {S j : Nat} : rk_bits P j &&& S = 0 ↔ rk_ink P (rk_tb S) j = false := by
  unfold rk_bits rk_ink rk_tb
  by_cases h : rk_at P j < 32
  · rw [if_pos h, Nat.zero_and]
    simp
    omega
  · rw [if_neg h]
    constructor
    · intro e
      have : (2 ^ (rk_at P j - 32) &&& S).testBit (rk_at P j - 32) = false := by rw [e]; simp
      rw [Nat.testBit_and, Nat.testBit_two_pow] at this
      simp at this
      simp [this]
    · intro e
      apply Nat.eq_of_testBit_eq
      intro i
      rw [Nat.testBit_and, Nat.testBit_two_pow]
      by_cases hi : rk_at P j - 32 = i
      · rw [← hi]
        simp at e
        simp [e (by omega)]
      · simp [hi]
def rk_an (a b : Nat) : Nat := a ^^^ (a &&& b)
theorem rk_an_tb (a b x : Nat) : (rk_an a b).testBit x = (a.testBit x && !b.testBit x) := by
  unfold rk_an
  rw [Nat.testBit_xor, Nat.testBit_and]
  cases a.testBit x <;> cases b.testBit x <;> rfl
theorem rk_an_lt {a b : Nat} (ha : a < 256) : rk_an a b < 256 := Nat.xor_lt_two_pow (n := 8) ha (Nat.lt_of_le_of_lt Nat.and_le_left ha)
theorem rk_an_i (a b : Nat) : nI a &&& (nI b ^^^ (-1)) = nI (rk_an a b) := by
  apply Int32.toBitVec_inj.1
  show BitVec.ofNat 32 a &&& (BitVec.ofNat 32 b ^^^ (-1 : Int32).toBitVec) = BitVec.ofNat 32 (rk_an a b)
  apply BitVec.eq_of_getLsbD_eq
  intro i hi
  have hm : (-1 : Int32).toBitVec.getLsbD i = true := b_m1 i hi
  rw [BitVec.getLsbD_and, BitVec.getLsbD_xor, hm, BitVec.getLsbD_ofNat, BitVec.getLsbD_ofNat, BitVec.getLsbD_ofNat, rk_an_tb]
  simp [hi]
theorem rk_an_0 {a b : Nat} : rk_an a b = 0 ↔ ∀ x, a.testBit x = true → b.testBit x = true := by
  constructor
  · intro h x hx
    have := rk_an_tb a b x
    rw [h, hx] at this
    simpa using this
  · intro h
    apply Nat.eq_of_testBit_eq
    intro x
    rw [rk_an_tb]
    cases e : a.testBit x
    · simp
    · simp [h x e]
theorem rk_nI0 {x : Nat} (h : x < 2 ^ 31) : nI x = 0 ↔ x = 0 := by
  rw [← nI_0, nI_eq h (by omega)]
/-! the variables of a rule that stand elsewhere too -/
def rk_elsen (r : rk_Ru) (i : Nat) : Nat → Nat
  | 0 => rk_vars r.2
  | n + 1 => rk_elsen r i n ||| (if n = i then 0 else rk_vars (rk_nth r n))
def rk_shm (r : rk_Ru) (i : Nat) : Nat := rk_vars (rk_nth r i) &&& rk_elsen r i r.1.length
theorem rk_elsen_tb {r : rk_Ru} {i x : Nat} : ∀ n, (rk_elsen r i n).testBit x = true ↔ rk_in r.2 x ∨ ∃ j, j < n ∧ j ≠ i ∧ rk_in (rk_nth r j) x
  | 0 => by
    show (rk_vars r.2).testBit x = true ↔ _
    rw [rk_vars_tb]
    simp
  | n + 1 => by
    show (rk_elsen r i n ||| (if n = i then 0 else rk_vars (rk_nth r n))).testBit x = true ↔ _
    rw [Nat.testBit_or, Bool.or_eq_true, rk_elsen_tb n]
    by_cases e : n = i
    · rw [if_pos e]
      simp only [Nat.zero_testBit, Bool.false_eq_true, or_false]
      constructor
      · rintro (h | ⟨j, h1, h2⟩)
        · exact Or.inl h
        · exact Or.inr ⟨j, by omega, h2⟩
      · rintro (h | ⟨j, h1, h2, h3⟩)
        · exact Or.inl h
        · exact Or.inr ⟨j, by omega, h2, h3⟩
    · rw [if_neg e, rk_vars_tb]
      constructor
      · rintro ((h | ⟨j, h1, h2⟩) | h)
        · exact Or.inl h
        · exact Or.inr ⟨j, by omega, h2⟩
        · exact Or.inr ⟨n, by omega, e, h⟩
      · rintro (h | ⟨j, h1, h2, h3⟩)
        · exact Or.inl (Or.inl h)
        · by_cases e2 : j = n
          · subst e2
            exact Or.inr h3
          · exact Or.inl (Or.inr ⟨j, by omega, h2, h3⟩)
theorem rk_shm_tb {r : rk_Ru} {i x : Nat} : (rk_shm r i).testBit x = true ↔ rk_shd r i x := by
  unfold rk_shm rk_shd
  rw [Nat.testBit_and, Bool.and_eq_true, rk_vars_tb, rk_elsen_tb]
def rk_okR (r : rk_Ru) : Prop := 0 < r.1.length ∧ r.1.length ≤ 3 ∧ (∀ P, P ∈ r.1 → rk_okP P) ∧ rk_okP r.2 ∧ ∀ x, rk_in r.2 x → ∃ P, P ∈ r.1 ∧ rk_in P x
