/-! bits (the families bt, nx_and, nf_sh begin as kit/laws/BITS.to-paste has them), and codes: three numbers below 32 in one -/
def bt (x : Int32) (i : Nat) : Bool := x.toBitVec.getLsbD i
theorem b_or (x y : Int32) (i : Nat) : bt (x ||| y) i = (bt x i || bt y i) := by unfold bt; rw [Int32.toBitVec_or, BitVec.getLsbD_or]
theorem b_and (x y : Int32) (i : Nat) : bt (x &&& y) i = (bt x i && bt y i) := by unfold bt; rw [Int32.toBitVec_and, BitVec.getLsbD_and]
theorem b_xor (x y : Int32) (i : Nat) : bt (x ^^^ y) i = (bt x i ^^ bt y i) := by unfold bt; rw [Int32.toBitVec_xor, BitVec.getLsbD_xor]
theorem b_m1 : ∀ i, i < 32 → bt (-1) i = true := by decide +kernel
theorem b_0 (i : Nat) : bt 0 i = false := BitVec.getLsbD_zero
theorem nx_and (a b : Nat) : nI a &&& nI b = nI (a &&& b) := by
  apply Int32.toBitVec_inj.1
  show BitVec.ofNat 32 a &&& BitVec.ofNat 32 b = BitVec.ofNat 32 (a &&& b)
  apply BitVec.eq_of_getLsbD_eq
  intro i hi
  simp [hi]
theorem nx_or (a b : Nat) : nI a ||| nI b = nI (a ||| b) := by
  apply Int32.toBitVec_inj.1
  show BitVec.ofNat 32 a ||| BitVec.ofNat 32 b = BitVec.ofNat 32 (a ||| b)
  apply BitVec.eq_of_getLsbD_eq
  intro i hi
  simp [hi]
theorem nf_sh : ∀ l, l < 32 → ((1 : Int32) <<< (nI l &&& 31)).toBitVec = BitVec.twoPow 32 l := by decide +kernel
theorem nf_tp : ∀ l, l < 32 → BitVec.twoPow 32 l ≠ 0#32 := by decide +kernel
theorem rk_bit (x : Int32) {j : Nat} (hj : j < 32) : (x &&& ((1 : Int32) <<< (nI j &&& 31))) = 0 ↔ bt x j = false := by
  rw [← Int32.toBitVec_inj, Int32.toBitVec_and, nf_sh j hj, BitVec.and_twoPow]
  show (if x.toBitVec.getLsbD j then BitVec.twoPow 32 j else 0#32) = 0#32 ↔ x.toBitVec.getLsbD j = false
  cases x.toBitVec.getLsbD j
  · simp
  · simp [nf_tp j hj]
theorem rk_bt1 : ∀ j, j < 32 → ∀ i, i < 32 → bt ((1 : Int32) <<< (nI j &&& 31)) i = decide (i = j) := by decide +kernel
theorem rk_and31 {k : Nat} (h : k < 2 ^ 31) : nI k &&& 31 = nI (k % 32) := pk_andN (by omega) 5 (by decide)
theorem rk_shr5 {k : Nat} (h : k < 2 ^ 31) : nI k >>> ((5 : Int32) &&& 31) = nI (k / 32) := pk_shrN h _ 5 (by decide)
theorem rk_shr10 {k : Nat} (h : k < 2 ^ 31) : nI k >>> ((10 : Int32) &&& 31) = nI (k / 1024) := pk_shrN h _ 10 (by decide)
theorem rk_word {k : Nat} (h : k < 32768) : nI (k / 32) &&& 1023 = nI (k / 32) := by
  rw [pk_andN (by omega) 10 (by decide), Nat.mod_eq_of_lt (by omega)]
/-- the words w hold the set S of codes -/
def rk_W (w : Nat → Int32) (S : Nat → Bool) : Prop := ∀ k, k < 32768 → bt (w (k / 32)) (k % 32) = S k
theorem rk_W_has {w : Nat → Int32} {S : Nat → Bool} (h : rk_W w S) {k : Nat} (hk : k < 32768) : (w (k / 32) &&& ((1 : Int32) <<< (nI (k % 32) &&& 31))) = 0 ↔ S k = false := by
  rw [rk_bit _ (Nat.mod_lt _ (by omega)), h k hk]
theorem rk_W_put {w : Nat → Int32} {S : Nat → Bool} (h : rk_W w S) {k : Nat} (hk : k < 32768) : rk_W (upd w (k / 32) (w (k / 32) ||| ((1 : Int32) <<< (nI (k % 32) &&& 31)))) (va_up S k true) := by
  intro j hj
  by_cases e : j / 32 = k / 32
  · rw [e, pk_us, b_or, rk_bt1 _ (Nat.mod_lt _ (by omega)) _ (Nat.mod_lt _ (by omega)), ← e, h j hj]
    by_cases e2 : j = k
    · subst e2
      rw [va_up_self]
      simp
    · rw [va_up_ne _ _ e2, decide_eq_false (by omega), Bool.or_false]
  · rw [pk_un e, h j hj, va_up_ne _ _ (fun z => e (by rw [z]))]
theorem rk_W_drop {w : Nat → Int32} {S : Nat → Bool} (h : rk_W w S) {k : Nat} (hk : k < 32768) : rk_W (upd w (k / 32) (w (k / 32) &&& (((1 : Int32) <<< (nI (k % 32) &&& 31)) ^^^ (-1)))) (va_up S k false) := by
  intro j hj
  by_cases e : j / 32 = k / 32
  · rw [e, pk_us, b_and, b_xor, b_m1 _ (Nat.mod_lt _ (by omega)), rk_bt1 _ (Nat.mod_lt _ (by omega)) _ (Nat.mod_lt _ (by omega)), ← e, h j hj]
    by_cases e2 : j = k
    · subst e2
      rw [va_up_self]
      simp
    · rw [va_up_ne _ _ e2, decide_eq_false (by omega)]
      simp
  · rw [pk_un e, h j hj, va_up_ne _ _ (fun z => e (by rw [z]))]
theorem rk_W_0 : rk_W (fun _ => 0) (fun _ => false) := fun k _ => b_0 _
/-! codes -/
def rk_pk (a b c : Nat) : Nat := 32 * (32 * a + b) + c
theorem rk_and5 {a b c d : Nat} (hb : b < 32) (hd : d < 32) : (32 * a + b) &&& (32 * c + d) = 32 * (a &&& c) + (b &&& d) := by
  have hbd : b &&& d < 2 ^ 5 := Nat.and_lt_two_pow b (show d < 2 ^ 5 from hd)
  apply Nat.eq_of_testBit_eq
  intro i
  rw [Nat.testBit_and, show 32 * a + b = 2 ^ 5 * a + b from rfl, show 32 * c + d = 2 ^ 5 * c + d from rfl, show 32 * (a &&& c) + (b &&& d) = 2 ^ 5 * (a &&& c) + (b &&& d) from rfl, Nat.testBit_two_pow_mul_add a (show b < 2 ^ 5 from hb), Nat.testBit_two_pow_mul_add c (show d < 2 ^ 5 from hd), Nat.testBit_two_pow_mul_add _ hbd]
  split <;> simp
theorem rk_or5 {a b c d : Nat} (hb : b < 32) (hd : d < 32) : (32 * a + b) ||| (32 * c + d) = 32 * (a ||| c) + (b ||| d) := by
  have hbd : b ||| d < 2 ^ 5 := Nat.or_lt_two_pow (show b < 2 ^ 5 from hb) (show d < 2 ^ 5 from hd)
  apply Nat.eq_of_testBit_eq
  intro i
  rw [Nat.testBit_or, show 32 * a + b = 2 ^ 5 * a + b from rfl, show 32 * c + d = 2 ^ 5 * c + d from rfl, show 32 * (a ||| c) + (b ||| d) = 2 ^ 5 * (a ||| c) + (b ||| d) from rfl, Nat.testBit_two_pow_mul_add a (show b < 2 ^ 5 from hb), Nat.testBit_two_pow_mul_add c (show d < 2 ^ 5 from hd), Nat.testBit_two_pow_mul_add _ hbd]
  split <;> simp
theorem rk_and3 {a b c d e f : Nat} (hb : b < 32) (hc : c < 32) (he : e < 32) (hf : f < 32) : rk_pk a b c &&& rk_pk d e f = rk_pk (a &&& d) (b &&& e) (c &&& f) := by
  unfold rk_pk
  rw [rk_and5 hc hf, rk_and5 hb he]
theorem rk_or3 {a b c d e f : Nat} (hb : b < 32) (hc : c < 32) (he : e < 32) (hf : f < 32) : rk_pk a b c ||| rk_pk d e f = rk_pk (a ||| d) (b ||| e) (c ||| f) := by
  unfold rk_pk
  rw [rk_or5 hc hf, rk_or5 hb he]
theorem rk_pk_inj {a b c d e f : Nat} (hb : b < 32) (hc : c < 32) (he : e < 32) (hf : f < 32) : rk_pk a b c = rk_pk d e f ↔ a = d ∧ b = e ∧ c = f := by
  unfold rk_pk
  omega
theorem rk_pk_lt {a b c : Nat} (ha : a < 32) (hb : b < 32) (hc : c < 32) : rk_pk a b c < 32768 := by
  unfold rk_pk
  omega
theorem rk_pk_0 {a b c : Nat} (hb : b < 32) (hc : c < 32) : rk_pk a b c / 1024 = a := by
  unfold rk_pk
  omega
theorem rk_pk_1 {a b c : Nat} (hb : b < 32) (hc : c < 32) : rk_pk a b c / 32 % 32 = b := by
  unfold rk_pk
  omega
theorem rk_pk_2 {a b c : Nat} (hc : c < 32) : rk_pk a b c % 32 = c := by
  unfold rk_pk
  omega
theorem rk_pk_of (k : Nat) : rk_pk (k / 1024) (k / 32 % 32) (k % 32) = k := by
  unfold rk_pk
  omega
