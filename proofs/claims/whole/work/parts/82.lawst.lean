/-! THE CLAIM OUT OF ONE WALK OF THE LAW'S BODY. Your part is whole_start (and what it stands on); all else here is the same for every law, but numbers. -/
def R_law : String := "RuleKeeperLaw"
def lw_P (b : Addr) (xs : List Int32) (args : Array Value) (s : State) : Prop := args = #[.ref b] ∧ s.IntsAt b xs ∧ xs.length ≤ 2048 ∧ (Jvm.Cond.and given_1 narrow_1).before args s = true
def lw_Q (_ : Array Value) (s : State) (o : Outcome) (t : State) : Prop := o = .returned (some (.int 1)) ∧ Framed s o t [] 600000 7302250
def lw_Z (below : List Frame) (a : Array Value) (s : State) : State → Prop := fun t => ∃ o, t.status = .running ∧ Ended t below o ∧ lw_Q a s o t
/-- the law's own end, with 1 on the stack, nothing written that was there before, its room as the claim has it -/
theorem lw_ret {p : Program} {l : Launch} {e : Env} {s : State} {m : MethodId} {below : List Frame} {meth : Method} {c : Code} {b : Nat} (hx : p.tables.exec = Jvm.exec) (hb : c.code = code) (hr : meth.sig.returnType = ret) (hlocks : meth.locks = false) {pc : Nat} {H : Heap} {ls : Array Slot} (hdg : decode code pc = .ok (.ireturn, 1)) : W p l e room_1 s m #[Value.ref b] below meth c H [] 600000 7302250 (lw_Z below #[Value.ref b] s) (F0 m pc ls [.int 1]) := by
  intro T hT X
  obtain ⟨fs, hret, hrun, hended, hW, hframe⟩ := X.leave (v := some (.int 1)) (hlocks := hlocks) (fun h => by rw [hr] at h; cases h)
  have hmeth' : T.vm.method? m = some meth := X.method'
  refine ⟨T.setFrames fs, ?_, .returned (some (.int 1)), hrun, hended, rfl, ⟨_, rfl⟩, hW, hframe⟩
  jvm_step X.here [X.here.top, hx, hb, hdg, hmeth', hr, ret, narrow_b1]
  (try refine ⟨rfl, ?_⟩); (try refine ⟨rfl, ?_⟩)
  first | (intro acts; rw [hret _ acts rfl rfl rfl]) | rw [hret _ _ rfl rfl rfl]
  exact Steps.refl _
/-- what holds at the law's entry: the machine, the code, the tables' words (any of lw_tbl by 'hts w (by decide +kernel)'), the script of L ints xs at the cell b, what the Statement gives of the start (any of its parts by flat_of_before) -/
def lw_At (p : Program) (s : State) (m : MethodId) (meth : Method) (c : Code) (b L : Nat) (xs : Nat → Int32) : Prop :=
  p.tables.exec = Jvm.exec ∧ c.code = code ∧ meth.sig.returnType = ret ∧ c.maxLocals = 4 ∧ s.vm.findClass R_law = some m.cls ∧ (∀ w ∈ lw_tbl, w.before #[Value.ref b] s = true) ∧ va_X b L xs s s.heap ∧ b < s.heap.size ∧ meth.locks = false ∧ (Jvm.Cond.and given_1 narrow_1).before #[Value.ref b] s = true
/-! what the law's walk stands on -/
theorem lw_arr {s : State} {args : Array Value} {ty : FieldType} (hty : ty = .int ∨ ty = .boolean) (h : (Cond.arrayClass ty).before args s = true) : ∃ cA : ClassId, ArrOfT s cA ty ∧ va_RA s cA ty := by
  obtain ⟨cA, k, comp, h1, h2, h3⟩ := Cond.arrayClass_spec h
  refine ⟨cA, fun n z => ⟨fun k h => (by cases h), k, h2, comp, h3⟩, ?_⟩
  rcases hty with rfl | rfl
  · exact h1
  · exact h1
theorem lw_arq {s : State} {args : Array Value} {C : String} (h : (Cond.arrayOver (.object C)).before args s = true) : ∃ cA : ClassId, ArrOfT s cA (.object C) ∧ va_RA s cA (.object C) := by
  obtain ⟨comp, cA, k, h1, h2, h3, h4, h5⟩ := Cond.arrayOver_spec h
  exact ⟨cA, fun n z => ⟨fun k h => (by cases h), k, h3, comp, h4⟩, k, comp, h3, h4, h1, h5⟩
theorem lw_in {w : Cond} (i : Nat) (h : tables_1[i]? = some w) : w ∈ lw_tbl := List.mem_append_right _ (List.mem_of_getElem? h)
theorem lw_env {s : State} {b : Nat} (hts : ∀ w ∈ lw_tbl, w.before #[Value.ref b] s = true) (hgv : (Jvm.Cond.and given_1 narrow_1).before #[Value.ref b] s = true) :
    ∃ (D : va_G) (cI cZ cP cR cC : ClassId) (tS : Nat), va_K D k_cl (k_tys cI cZ cP cR cC) s ∧ mw_Z (k_g tS) (fun q => s.heap.size ≤ q) s s.heap := by
  have htg : ∀ w ∈ gw, w.before #[Value.ref b] s = true := fun w hw => hts w (gw_in w hw)
  obtain ⟨c0, i0, h0⟩ := u_known (C := R_Mk) (T := T_Mk) (N := 1) (n := 1) htg i_Mk (htg _ k_31)
  obtain ⟨c1, i1, h1⟩ := u_known (C := R_Tr) (T := T_Tr) (N := 3) (n := 3) htg i_Tr (htg _ k_25)
  obtain ⟨c2, i2, h2⟩ := u_known (C := R_Pt) (T := T_Pt) (N := 8) (n := 8) htg i_Pt (htg _ k_65)
  obtain ⟨c3, i3, h3⟩ := u_known (C := R_Ru) (T := T_Ru) (N := 3) (n := 3) htg i_Ru (htg _ k_149)
  obtain ⟨c4, i4, h4⟩ := u_known (C := R_Co) (T := T_Co) (N := 6) (n := 6) htg i_Co (htg _ k_59)
  obtain ⟨c5, i5, h5⟩ := u_known (C := R_Sv) (T := T_Sv) (N := 4) (n := 4) htg i_Sv (htg _ k_19)
  obtain ⟨c6, i6, h6⟩ := u_known (C := R_Kp) (T := T_Kp) (N := 7) (n := 7) htg i_Kp (htg _ k_11)
  obtain ⟨c7, i7, h7⟩ := u_known (C := R_Md) (T := T_Md) (N := 14) (n := 14) htg i_Md (htg _ k_372)
  obtain ⟨cI, aI1, aI2⟩ := lw_arr (Or.inl rfl) (htg _ k_40)
  obtain ⟨cZ, aZ1, aZ2⟩ := lw_arr (Or.inr rfl) (htg _ k_421)
  have oC : (Cond.arrayOver (.object "RuleKeeper$Column")).before #[Value.ref b] s = true := hts _ (lw_in 58 (by decide +kernel))
  have oP : (Cond.arrayOver (.object "RuleKeeper$Pattern")).before #[Value.ref b] s = true := hts _ (lw_in 145 (by decide +kernel))
  have oR : (Cond.arrayOver (.object "RuleKeeper$Rule")).before #[Value.ref b] s = true := hts _ (lw_in 147 (by decide +kernel))
  obtain ⟨cC, aC1, aC2⟩ := lw_arq oC
  obtain ⟨cP, aP1, aP2⟩ := lw_arq oP
  obtain ⟨cR, aR1, aR2⟩ := lw_arq oR
  have hs := flat_of_before _ hgv
  have hlow : ∀ a : Nat, a < s.heap.size → ¬ (fun q : Nat => s.heap.size ≤ q) a := fun a ha g => by
    have g : s.heap.size ≤ a := g
    omega
  have q3 : (Cond.eq (Term.length (Term.static "RuleKeeper" "SHIFTS" "[I")) (.int 3)).before #[Value.ref b] s = true := hs _ (by decide +kernel)
  have e0 : (Cond.eq (Term.elem (Term.static "RuleKeeper" "SHIFTS" "[I") (.int 0)) (.int 10)).before #[Value.ref b] s = true := hs _ (by decide +kernel)
  have e1 : (Cond.eq (Term.elem (Term.static "RuleKeeper" "SHIFTS" "[I") (.int 1)) (.int 5)).before #[Value.ref b] s = true := hs _ (by decide +kernel)
  have e2 : (Cond.eq (Term.elem (Term.static "RuleKeeper" "SHIFTS" "[I") (.int 2)) (.int 0)).before #[Value.ref b] s = true := hs _ (by decide +kernel)
  have ea : (Cond.arrayOf (Term.static "RuleKeeper" "SHIFTS" "[I") .int).before #[Value.ref b] s = true := hs _ (by decide +kernel)
  obtain ⟨tS, ht, hT⟩ := va_Tof (N := 3) (f := rk_sht) (A := fun q : Nat => s.heap.size ≤ q) (by decide) ea (Cond.eq_int q3 rfl) (fun j hj => by
    rcases (show j = 0 ∨ j = 1 ∨ j = 2 by omega) with rfl | rfl | rfl
    · exact Cond.eq_int e0 rfl
    · exact Cond.eq_int e1 rfl
    · exact Cond.eq_int e2 rfl) hlow
  have hV : va_Z "RuleKeeper" "SHIFTS" "[I" (.ref tS) (fun q : Nat => s.heap.size ≤ q) s s.heap := va_Zof (hts _ (lw_in 71 (by decide +kernel))) (hts _ (lw_in 1 (by decide +kernel))) ht hlow
  have hN : (Cond.fieldLinkNest "RuleKeeper$Pattern" 18 "RuleKeeper" "SHIFTS" "[I" "RuleKeeper").before #[Value.ref b] s = true := hts _ (lw_in 70 (by decide +kernel))
  refine ⟨(fun k => if k = 0 then c0 else if k = 1 then c1 else if k = 2 then c2 else if k = 3 then c3 else if k = 4 then c4 else if k = 5 then c5 else if k = 6 then c6 else c7, fun k => if k = 0 then i0 else if k = 1 then i1 else if k = 2 then i2 else if k = 3 then i3 else if k = 4 then i4 else if k = 5 then i5 else if k = 6 then i6 else i7), cI, cZ, cP, cR, cC, tS, ⟨fun k q hq => ?_, fun k q hq => ?_⟩, fun z hz => ?_, fun C hC => ?_, fun x hx => ?_⟩
  · match k, hq with
    | 0, hq => cases hq; exact h0
    | 1, hq => cases hq; exact h1
    | 2, hq => cases hq; exact h2
    | 3, hq => cases hq; exact h3
    | 4, hq => cases hq; exact h4
    | 5, hq => cases hq; exact h5
    | 6, hq => cases hq; exact h6
    | 7, hq => cases hq; exact h7
    | k + 8, hq => simp [k_cl] at hq
  · match k, hq with
    | 0, hq => cases hq; exact ⟨aI1, aI2⟩
    | 1, hq => cases hq; exact ⟨aZ1, aZ2⟩
    | 2, hq => cases hq; exact ⟨aP1, aP2⟩
    | 3, hq => cases hq; exact ⟨aR1, aR2⟩
    | 4, hq => cases hq; exact ⟨aC1, aC2⟩
    | k + 5, hq => simp [k_tys] at hq
  · rw [List.mem_singleton.mp hz]
    exact ⟨hV, hT⟩
  · rcases List.mem_cons.mp hC with rfl | hC
    · exact va_AO.of oC
    · rcases List.mem_cons.mp hC with rfl | hC
      · exact va_AO.of oP
      · rw [List.mem_singleton.mp hC]
        exact va_AO.of oR
  · rw [List.mem_singleton.mp hx]
    exact va_Nw.of rfl hN
/-- both objects, side by side, in one state -/
def lw_st (D : va_G) (cI cZ cP cR cC : ClassId) (A : Nat → Prop) (kx mx : Nat) (H : Heap) : Prop :=
  ∃ (MK MM B0 Bm : mw_M) (ad am : Nat → Nat) (pm sm ca : Nat) (said : Nat → Bool) (rs : List rk_Ru) (dr : List rk_Pt), ad 0 = kx ∧ am 0 = mx ∧ mw_P D k_cl MK A H ∧ mw_P D k_cl MM A H ∧ (∀ q, MK q ≠ none → MM q = none) ∧ k_ks cI cP cR cC B0 ad pm sm ca said rs dr MK ∧ m_ks cI cZ Bm am said rs dr MM
theorem lw_go {L t : Nat} (hL : L ≤ 2048) (ht : t ≤ 512) (h : ¬ nI L - nI 4 < nI (4 * t)) : 4 * t + 4 ≤ L := by
  rw [Int32.lt_iff_toInt_lt, pk_sub_toInt (by omega) (by decide), nI_toInt (by omega)] at h
  omega
theorem lw_dis {M M2 : mw_M} (h : ∀ q, M q ≠ none → M2 q = none) : ∀ q, M2 q ≠ none → M q = none := fun q hq => Classical.byContradiction fun g => hq (h q g)
