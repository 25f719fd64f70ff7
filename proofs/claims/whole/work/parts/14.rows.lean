/-! rows for arrays of natural numbers; the static table of shifts; frozen cells beside an overlay -/
section RW1
variable {p : Program} {l : Launch} {e : Env} {R : Room} {s : State} {m : MethodId} {args : Array Value} {below : List Frame} {meth : Method} {c : Code} {H : Heap} {locs : List Loc} {cells slots : Nat} {Q : State → Prop}
variable {cc : ByteArray} {pc nL : Nat} {ls : Array Slot} {rest : List Value} {D : va_G} {cl : List vw_C} {A : Nat → Prop} {a : Nat} {tys : List (ClassId × FieldType)} {M : mw_M} {Ts : List Cond} {own : String}
theorem mw_nald (J : CallFix p m c cc nL s args Ts own) (hK : va_K D cl tys s) (hP : mw_P D cl M A H) (t0 : Nat) {cA : ClassId} {n k : Nat} {f : Nat → Nat} (ha : M a = some (.inl (cA, n, .inl (rk_nf f)))) (ht : tys[t0]? = some (cA, .int)) (hk : k < n) (hn : n < 2 ^ 31) (hdg : decode cc pc = .ok (.iaload, 1))
    (kk : W p l e R s m args below meth c H locs cells slots Q (F0 m (pc + 1) ls (.int (nI (f k)) :: rest))) : W p l e R s m args below meth c H locs cells slots Q (F0 m pc ls (.int (nI k) :: .ref a :: rest)) :=
  mw_ialdN J hK hP t0 ha ht hk hn hdg kk
theorem mw_nast (J : CallFix p m c cc nL s args Ts own) (hK : va_K D cl tys s) (hP : mw_P D cl M A H) (hS : va_S A s.heap H locs) (t0 : Nat) {cA : ClassId} {n k x : Nat} {f : Nat → Nat} (ha : M a = some (.inl (cA, n, .inl (rk_nf f)))) (ht : tys[t0]? = some (cA, .int)) (hk : k < n) (hn : n < 2 ^ 31) (hdg : decode cc pc = .ok (.iastore, 1))
    (kk : ∀ (H1 : Heap) (locs1 : List Loc), mw_P D cl (va_up M a (some (.inl (cA, n, .inl (rk_nf (va_up f k x)))))) A H1 → va_S A s.heap H1 locs1 → W p l e R s m args below meth c H1 locs1 cells slots Q (F0 m (pc + 1) ls rest)) : W p l e R s m args below meth c H locs cells slots Q (F0 m pc ls (.int (nI x) :: .int (nI k) :: .ref a :: rest)) :=
  mw_iastN J hK hP hS t0 ha ht hk hn hdg (by rw [rk_nf_upd]; exact kk)
end RW1
/-- the table of shifts -/
def rk_sht (j : Nat) : Value := .int (rk_shift j)
abbrev k_g (tS : Nat) : mw_G := ([("RuleKeeper", "SHIFTS", "[I", tS, 3, rk_sht)], ["RuleKeeper$Column", "RuleKeeper$Pattern", "RuleKeeper$Rule"], [("RuleKeeper$Pattern", 18, "RuleKeeper", "SHIFTS", "[I", "RuleKeeper")])
abbrev k_tys (cI cZ cP cR cC : ClassId) : List (ClassId × FieldType) := [(cI, .int), (cZ, .boolean), (cP, .object "RuleKeeper$Pattern"), (cR, .object "RuleKeeper$Rule"), (cC, .object "RuleKeeper$Column")]
/-- a cell beside the overlay -/
theorem mw_ov_fr {M : mw_M} {ad : Nat → Nat} {c : Nat → va_E} {n q : Nat} {e : va_E} (hn : ∀ i, i < n → M (ad i) = none) (h : M q = some e) : mw_ov M ad c n q = some e := by
  rw [mw_ov_off (fun i hi z => by rw [← z, hn i hi] at h; cases h)]
  exact h
