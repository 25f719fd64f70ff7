/-! rows for arrays of truth values; loops with a measure -/
def rk_bf (S : Nat → Bool) : Nat → Int32 := fun k => if S k = true then 1 else 0
theorem rk_bf_upd (S : Nat → Bool) (k : Nat) (b : Bool) : upd (rk_bf S) k (if b = true then 1 else 0) = rk_bf (va_up S k b) := by
  funext j
  by_cases e : j = k
  · subst e
    rw [pk_us]
    show _ = if va_up S j b j = true then 1 else 0
    rw [va_up_self]
  · rw [pk_un e]
    show rk_bf S j = if va_up S k b j = true then 1 else 0
    rw [va_up_ne _ _ e]
    rfl
theorem rk_bf_0 : (fun _ => 0) = rk_bf (fun _ => false) := rfl
section RW2
variable {p : Program} {l : Launch} {e : Env} {R : Room} {s : State} {m : MethodId} {args : Array Value} {below : List Frame} {meth : Method} {c : Code} {H : Heap} {locs : List Loc} {cells slots : Nat} {Q : State → Prop}
variable {cc : ByteArray} {pc nL : Nat} {ls : Array Slot} {rest : List Value} {D : va_G} {cl : List vw_C} {A : Nat → Prop} {a : Nat} {tys : List (ClassId × FieldType)} {M : mw_M} {Ts : List Cond} {own : String}
theorem mw_bald (J : CallFix p m c cc nL s args Ts own) (hK : va_K D cl tys s) (hP : mw_P D cl M A H) (t0 : Nat) {cA : ClassId} {n k : Nat} {S : Nat → Bool} (ha : M a = some (.inl (cA, n, .inl (rk_bf S)))) (ht : tys[t0]? = some (cA, .boolean)) (hk : k < n) (hn : n < 2 ^ 31) (hdg : decode cc pc = .ok (.baload, 1))
    (kk : W p l e R s m args below meth c H locs cells slots Q (F0 m (pc + 1) ls (.int (if S k = true then 1 else 0) :: rest))) : W p l e R s m args below meth c H locs cells slots Q (F0 m pc ls (.int (nI k) :: .ref a :: rest)) :=
  mw_zald J hK hP t0 ha ht (vp_in_nI hk hn) hdg (by rw [nI_clamp (Nat.lt_trans hk hn)]; exact kk)
theorem mw_bast (J : CallFix p m c cc nL s args Ts own) (hK : va_K D cl tys s) (hP : mw_P D cl M A H) (hS : va_S A s.heap H locs) (t0 : Nat) {cA : ClassId} {n k : Nat} {S : Nat → Bool} {b : Bool} {x : Int32} (hb : vp_nar .boolean x = if b = true then 1 else 0) (ha : M a = some (.inl (cA, n, .inl (rk_bf S)))) (ht : tys[t0]? = some (cA, .boolean)) (hk : k < n) (hn : n < 2 ^ 31) (hdg : decode cc pc = .ok (.bastore, 1))
    (kk : ∀ (H1 : Heap) (locs1 : List Loc), mw_P D cl (va_up M a (some (.inl (cA, n, .inl (rk_bf (va_up S k b)))))) A H1 → va_S A s.heap H1 locs1 → W p l e R s m args below meth c H1 locs1 cells slots Q (F0 m (pc + 1) ls rest)) : W p l e R s m args below meth c H locs cells slots Q (F0 m pc ls (.int x :: .int (nI k) :: .ref a :: rest)) := by
  obtain ⟨ws, q0, h1, h3, h2, h4⟩ := mw_row hP ha
  refine va_zast J.1 J.2.1 hK h1 h3 hS q0 t0 h2 ht (vp_in_nI hk hn) hdg fun H1 locs1 g1 g2 g3 => ?_
  rw [nI_clamp (Nat.lt_trans hk hn), hb, rk_bf_upd] at g1 g2
  exact kk H1 locs1 (h4 _ _ g1 g2) g3
theorem mw_newz (J : CallFix p m c cc nL s args Ts own) (harr : (Cond.arrayClass .boolean).before args s = true) (hK : va_K D cl tys s) (hP : mw_P D cl M A H) (hS : va_S A s.heap H locs) (hA : ∀ q, s.heap.size ≤ q → A q) (t0 : Nat) {cA : ClassId} (ht : tys[t0]? = some (cA, .boolean)) {n : Int32} {N' : Nat} (hn : ¬ n < 0) (hN : n.toNatClampNeg = N') (hbytes : N' * componentBytes .boolean ≤ 536870912) (hcells : cells + 1 ≤ R.cells) (hslots : slots + N' ≤ R.slots) (hdg : decode cc pc = .ok (.newarray .boolean, 2))
    (kk : ∀ (q : Nat) (H1 : Heap), M q = none → mw_P D cl (va_up M q (some (.inl (cA, N', .inl (rk_bf (fun _ => false)))))) A H1 → va_S A s.heap H1 locs → W p l e R s m args below meth c H1 locs (cells + 1) (slots + N') Q (F0 m (pc + 2) ls (.ref q :: rest))) : W p l e R s m args below meth c H locs cells slots Q (F0 m pc ls (.int n :: rest)) := by
  obtain ⟨ws, h1, h2, h3⟩ := mw_add hP
  refine va_newa (a0 := (N', .inl (fun _ => 0))) (atype := .boolean) J.1 J.2.1 harr rfl hK h1 h2 hS hA (fun cA => rfl) hn hN hbytes hcells hslots hdg fun q cB H1 g0 g1 g2 g3 => ?_
  have e1 : s.vm.findClass ("[" ++ (FieldType.boolean).toString) = some cB := (g0.2 tys.length (cB, .boolean) (by simp; rfl)).2
  have e2 : s.vm.findClass ("[" ++ (FieldType.boolean).toString) = some cA := (hK.2 t0 _ ht).2
  have e3 : cB = cA := Option.some.inj (e1.symm.trans e2)
  subst e3
  exact kk q H1 (h3 _ _ _ g1 g2).1 (h3 _ _ _ g1 g2).2 g3
end RW2
theorem mw_loopm {W' : Heap → List Loc → Array Slot → Prop} (e : Nat) (I : Nat → Heap → List Loc → Array Slot → Prop)
    (hs : ∀ i H locs ls, i ≤ e → I i H locs ls → (∀ j H1 locs1 ls1, i < j → j ≤ e → I j H1 locs1 ls1 → W' H1 locs1 ls1) → W' H locs ls) :
    ∀ (n i : Nat), e - i ≤ n → i ≤ e → ∀ H locs ls, I i H locs ls → W' H locs ls := by
  intro n
  induction n with
  | zero =>
    intro i hn hi H locs ls h
    exact hs i H locs ls hi h (fun j _ _ _ h1 h2 _ => absurd h1 (by omega))
  | succ n ih =>
    intro i hn hi H locs ls h
    exact hs i H locs ls hi h (fun j H1 locs1 ls1 h1 h2 h3 => ih j (by omega) h2 H1 locs1 ls1 h3)
/-! the reference's cells -/
def m_ov (B : mw_M) (ad : Nat → Nat) : Prop := mw_inj ad 12 ∧ ∀ i, i < 12 → B (ad i) = none
def m_0 (ad : Nat → Nat) (sz ru dn : Nat) : va_E := .inr (7, [.ref (ad 1), .ref (ad 2), .ref (ad 3), .ref (ad 4), .int (nI sz), .ref (ad 5), .ref (ad 6), .int (nI ru), .ref (ad 7), .int (nI dn), .ref (ad 8), .ref (ad 9), .ref (ad 10), .ref (ad 11)])
/-! how often a variable stands in a pattern -/
def rk_oc (P : rk_Pt) : Nat → Nat → Nat
  | 0, _ => 0
  | n + 1, x => rk_oc P n x + if rk_at P n = 32 + x then 1 else 0
theorem rk_oc_pos {P : rk_Pt} {x : Nat} : ∀ {n : Nat}, 0 < rk_oc P n x ↔ ∃ j, j < n ∧ rk_at P j = 32 + x
  | 0 => by simp [rk_oc]
  | n + 1 => by
    show 0 < rk_oc P n x + (if rk_at P n = 32 + x then 1 else 0) ↔ _
    have ih := rk_oc_pos (P := P) (x := x) (n := n)
    constructor
    · intro h
      by_cases e : rk_at P n = 32 + x
      · exact ⟨n, by omega, e⟩
      · rw [if_neg e] at h
        obtain ⟨j, h1, h2⟩ := ih.mp (by omega)
        exact ⟨j, by omega, h2⟩
    · rintro ⟨j, h1, h2⟩
      by_cases e : j = n
      · subst e
        rw [if_pos h2]
        omega
      · have := ih.mpr ⟨j, by omega, h2⟩
        omega
theorem rk_oc_le (P : rk_Pt) (x : Nat) : ∀ n, rk_oc P n x ≤ n
  | 0 => Nat.le_refl 0
  | n + 1 => by
    show rk_oc P n x + (if rk_at P n = 32 + x then 1 else 0) ≤ n + 1
    have := rk_oc_le P x n
    split <;> omega
theorem rk_oc_up (P : rk_Pt) (n x : Nat) : rk_oc P (n + 1) x = rk_oc P n x + if rk_at P n = 32 + x then 1 else 0 := rfl
theorem rk_oc_skip {P : rk_Pt} {n : Nat} (h : rk_at P n < 32) (x : Nat) : rk_oc P (n + 1) x = rk_oc P n x := by
  rw [rk_oc_up, if_neg (by omega)]
  rfl
theorem rk_oc_is {P : rk_Pt} {n x : Nat} (h : rk_at P n = 32 + x) : rk_oc P (n + 1) x = rk_oc P n x + 1 := by rw [rk_oc_up, if_pos h]
theorem rk_oc_ne {P : rk_Pt} {n x y : Nat} (h : rk_at P n = 32 + x) (hy : y ≠ x) : rk_oc P (n + 1) y = rk_oc P n y := by
  rw [rk_oc_up, if_neg (by omega)]
  rfl
theorem rk_iv_neg : ∀ x, x < 8 → -(rk_iv (32 + x)) = nI (x + 1) := by decide +kernel
theorem rk_iv_at (a : Nat) (h : a < 40) : (a < 32 ∧ rk_iv a = nI a ∧ ¬ rk_iv a < 0) ∨ ∃ x, x < 8 ∧ a = 32 + x ∧ rk_iv a < 0 ∧ -(rk_iv a) = nI (x + 1) := by
  by_cases e : a < 32
  · exact Or.inl ⟨e, rk_iv_num a e, fun g => by have := (rk_iv_lo a h).mp g; omega⟩
  · obtain ⟨x, hx, rfl⟩ : ∃ x, x < 8 ∧ a = 32 + x := ⟨a - 32, by omega, by omega⟩
    exact Or.inr ⟨x, hx, rfl, (rk_iv_lo _ h).mpr (by omega), rk_iv_neg x hx⟩
/-- the pattern P stands in f from place a on -/
def m_pt (f : Nat → Int32) (a : Nat) (P : rk_Pt) : Prop := rk_okP P ∧ ∀ i, i < 3 → f (a + i) = rk_iv (rk_at P i)
/-- the assignment in an array of values -/
def rk_as (vl : Nat → Nat) : Nat → Nat := fun x => vl (x + 1)
theorem rk_as_ok {vl : Nat → Nat} (h : ∀ i, vl i < 32) : rk_okV (rk_as vl) := fun x => h (x + 1)
