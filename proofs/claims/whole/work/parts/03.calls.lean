section MW2
variable {p : Program} {l : Launch} {e : Env} {R : Room} {s : State} {m : MethodId} {args : Array Value} {below : List Frame} {meth : Method} {c : Code} {H : Heap} {locs : List Loc} {cells slots : Nat} {Q : State → Prop}
variable {cc : ByteArray} {pc nL : Nat} {ls : Array Slot} {rest st0 : List Value} {D : va_G} {cl : List vw_C} {A : Nat → Prop} {tys : List (ClassId × FieldType)} {g : mw_G} {M : mw_M} {Ts : List Cond} {own : String}
variable {y : MethodName} {bytes : ByteArray} {maxL mc ms n index : Nat} {ret : Option FieldType} {ws ws' : List Cond} {rm : Room} {As : List Value} {b : Nat}
/-- behind a call that answers an int -/
theorem mw_afterI {a : Array Value} {post : Int32 → mw_M → Prop} (hP : mw_P D cl M A H) (hS : va_S A s.heap H locs) (hA : ∀ q, s.heap.size ≤ q → A q)
    (hr : va_Run p l e R s m args below meth c H locs cells slots mc ms (F0 m pc ls st0) rest (va_Qi post (mw_E D cl M H.size) (mw_A M H.size) a) (mw_A M H.size))
    (kk : ∀ (r : Int32) (M' : mw_M) (H1 : Heap) (locs1 : List Loc), post r M' → mw_P D cl M' A H1 → va_S A s.heap H1 locs1 → W p l e R s m args below meth c H1 locs1 (cells + mc) (slots + ms) Q (F0 m (pc + 3) ls (.int r :: rest))) : W p l e R s m args below meth c H locs cells slots Q (F0 m pc ls st0) := by
  have hF := mw_free hP hS hA
  refine va_calli hr hS (fun q _ h => hF q h) hF (fun r u t H1 locs1 ht hvm hw hB hz1 hk1 hS1 => ?_)
  refine kk r u H1 locs1 hw ?_ hS1
  rw [← ht]
  exact mw_P.weaken hB (fun q _ h => hF q h)
theorem mw_afterV {a : Array Value} {post : mw_M → Prop} (hP : mw_P D cl M A H) (hS : va_S A s.heap H locs) (hA : ∀ q, s.heap.size ≤ q → A q)
    (hr : va_Run p l e R s m args below meth c H locs cells slots mc ms (F0 m pc ls st0) rest (va_Qv post (mw_E D cl M H.size) (mw_A M H.size) a) (mw_A M H.size))
    (kk : ∀ (M' : mw_M) (H1 : Heap) (locs1 : List Loc), post M' → mw_P D cl M' A H1 → va_S A s.heap H1 locs1 → W p l e R s m args below meth c H1 locs1 (cells + mc) (slots + ms) Q (F0 m (pc + 3) ls rest)) : W p l e R s m args below meth c H locs cells slots Q (F0 m pc ls st0) := by
  have hF := mw_free hP hS hA
  refine va_callv hr hS (fun q _ h => hF q h) hF (fun u t H1 locs1 ht hvm hw hB hz1 hk1 hS1 => ?_)
  refine kk u H1 locs1 hw ?_ hS1
  rw [← ht]
  exact mw_P.weaken hB (fun q _ h => hF q h)
theorem mw_afterR {a : Array Value} {post : mw_M × Nat → Prop} (hP : mw_P D cl M A H) (hS : va_S A s.heap H locs) (hA : ∀ q, s.heap.size ≤ q → A q)
    (hr : va_Run p l e R s m args below meth c H locs cells slots mc ms (F0 m pc ls st0) rest (va_Qr post (mw_Er D cl M H.size) (mw_A M H.size) a) (mw_A M H.size))
    (kk : ∀ (r : Nat) (M' : mw_M) (H1 : Heap) (locs1 : List Loc), post (M', r) → mw_P D cl M' A H1 → va_S A s.heap H1 locs1 → W p l e R s m args below meth c H1 locs1 (cells + mc) (slots + ms) Q (F0 m (pc + 3) ls (.ref r :: rest))) : W p l e R s m args below meth c H locs cells slots Q (F0 m pc ls st0) := by
  have hF := mw_free hP hS hA
  refine va_callr hr hS (fun q _ h => hF q h) hF (fun u ra t H1 locs1 ht hvm hw hB hz1 hk1 hS1 => ?_)
  obtain ⟨M', r⟩ := u
  obtain ⟨e1, hB⟩ := hB
  have e1 : r = ra := e1
  subst e1
  refine kk r M' H1 locs1 hw ?_ hS1
  rw [← ht]
  exact mw_P.weaken hB (fun q _ h => hF q h)
theorem mw_runV {ci : Nat} {fs : List Value} {r : vw_C} {Qc : Array Value → State → Outcome → State → Prop} (J : CallFix p m c cc nL s args Ts own) (hK : va_K D cl tys s) (hZ : mw_Z g A s s.heap) (hP : mw_P D cl M A H) (hS : va_S A s.heap H locs) (hA : ∀ q, s.heap.size ≤ q → A q)
    (hb : M b = some (.inr (ci, fs))) (hc : cl[ci]? = some r) (hM : Met l y ws rm (va_Pc (.ref b :: As) (mw_B D cl tys g M H.size)) Qc mc ms (mw_A M H.size)) (cw : CallW R s args own r.1 index y bytes maxL ret ws rm mc ms n)
    (hn : As.length = n) (hsize : ls.size = nL) (hstack : st0 = As.reverse ++ .ref b :: rest) (hW : (rest.map fun v => v.category).sum ≤ 8) (hdg : decode cc pc = .ok (.invokevirtual index, 3)) (hf : cells + mc ≤ R.cells ∧ slots + ms ≤ R.slots) :
    va_Run p l e R s m args below meth c H locs cells slots mc ms (F0 m pc ls st0) rest (Qc (Value.ref b :: As).toArray) (mw_A M H.size) := by
  obtain ⟨ws0, q0, h1, -, h2, -⟩ := mw_row hP hb
  exact va_runV (As := As) (rest := rest) J hM cw ⟨mw_blind, va_recv hK h1 hc h2, mw_pre hK hZ hP hS hA⟩ rfl hn hsize hstack (lv_room hW) hdg hf
theorem mw_runS {Qc : Array Value → State → Outcome → State → Prop} (J : CallFix p m c cc nL s args Ts own) (hK : va_K D cl tys s) (hZ : mw_Z g A s s.heap) (hP : mw_P D cl M A H) (hS : va_S A s.heap H locs) (hA : ∀ q, s.heap.size ≤ q → A q)
    (hM : Met l y ws rm (va_Pc As (mw_B D cl tys g M H.size)) Qc mc ms (mw_A M H.size)) (cw : CallB R s args own index y bytes maxL ret ws rm mc ms n ∧ (Cond.static y).before args s = true)
    (hn : As.length = n) (hsize : ls.size = nL) (hstack : st0 = As.reverse ++ rest) (hW : (rest.map fun v => v.category).sum ≤ 8) (hdg : decode cc pc = .ok (.invokestatic index, 3)) (hf : cells + mc ≤ R.cells ∧ slots + ms ≤ R.slots) :
    va_Run p l e R s m args below meth c H locs cells slots mc ms (F0 m pc ls st0) rest (Qc As.toArray) (mw_A M H.size) :=
  va_runS (As := As) (rest := rest) J hM cw ⟨mw_blind, mw_pre hK hZ hP hS hA⟩ rfl hn hsize hstack (lv_room hW) hdg hf
theorem mw_runI {Qc : Array Value → State → Outcome → State → Prop} (J : CallFix p m c cc nL s args Ts own) (hK : va_K D cl tys s) (hZ : mw_Z g A s s.heap) (hP : mw_P D cl M A H) (hS : va_S A s.heap H locs) (hA : ∀ q, s.heap.size ≤ q → A q)
    (hM : Met l y ws rm (va_Pc (.ref b :: As) (mw_B D cl tys g M H.size)) Qc mc ms (mw_A M H.size)) (cw : CallB R s args own index y bytes maxL none ws rm mc ms n ∧ y.name = "<init>" ∧ (Cond.instanceMethod y).before args s = true)
    (hn : As.length = n) (hsize : ls.size = nL) (hstack : st0 = As.reverse ++ .ref b :: rest) (hW : (rest.map fun v => v.category).sum ≤ 8) (hdg : decode cc pc = .ok (.invokespecial index, 3)) (hf : cells + mc ≤ R.cells ∧ slots + ms ≤ R.slots) :
    va_Run p l e R s m args below meth c H locs cells slots mc ms (F0 m pc ls st0) rest (Qc (Value.ref b :: As).toArray) (mw_A M H.size) :=
  va_runI (As := As) (rest := rest) J hM cw ⟨mw_blind, mw_pre hK hZ hP hS hA⟩ rfl hn hsize hstack (lv_room hW) hdg hf
/-- a method's contract out of its walk -/
theorem mw_met {sz : Nat} {av : List Value} {Qc : Array Value → State → Outcome → State → Prop} {free : Addr → Prop} (hy : plainName y.cls = true) (hw : ws = Cond.code y cc maxL ret :: ws') (hlen : (lg_sl av).length ≤ maxL)
    (body : ∀ (p : Program) (e : Env) (s : State) (m : MethodId) (below : List Frame) (meth : Method) (c : Code), s.heap.size = sz → CallFix p m c cc maxL s av.toArray ws' y.cls → meth.sig.returnType = ret → meth.locks = false → meth.name = y.name → va_K D cl tys s → mw_Z g (mw_A M s.heap.size) s s.heap → mw_P D cl M (mw_A M s.heap.size) s.heap → va_S (mw_A M s.heap.size) s.heap s.heap [] → (∀ q, s.heap.size ≤ q → mw_A M s.heap.size q) →
      ∀ ls : Array Slot, lv_has ls maxL (lv_args 0 av) → W p l e rm s m av.toArray below meth c s.heap [] 0 0 (MQ below Qc av.toArray s mc ms free) (F0 m 0 ls [])) :
    Met l y ws rm (va_Pc av (mw_B D cl tys g M sz)) Qc mc ms free := by
  refine Met.ofW (cc := cc) (maxL := maxL) (ret := ret) hy hw ?_
  intro p e s m args below meth c s₁ B hml hv
  obtain ⟨rfl, hsz, hP, hK, hZ⟩ := hv
  have hts := atoms_spec (ws := ws) B.pre
  have hown : s.vm.findClass y.cls = some m.cls := findClass_of_methodNamed B.named
  subst hsz
  have hl := lv_entry av (n := maxL) hlen
  rw [lg_entry_eq]
  exact body p e s m below meth c rfl ⟨B.exec, B.bytes, hml, hown, fun w h => hts w (by rw [hw]; exact List.mem_cons_of_mem _ h)⟩ B.returns B.notSynchronized (name_of_methodNamed B.named B.method).1 hK hZ hP.self va_S.rf (fun q h => Or.inr h) _ hl
theorem mw_iret {v : Int32} {M' : mw_M} {post : Int32 → mw_M → Prop} (J : CallFix p m c cc nL s args Ts own) (hr : meth.sig.returnType = some .int) (hlocks : meth.locks = false) (hP : mw_P D cl M' (mw_A M s.heap.size) H) (hS : va_S (mw_A M s.heap.size) s.heap H locs) (hdg : decode cc pc = .ok (.ireturn, 1)) (hp : post v M') :
    W p l e R s m args below meth c H locs cells slots (MQ below (va_Qi post (mw_E D cl M s.heap.size) (mw_A M s.heap.size)) args s cells slots (mw_A M s.heap.size)) (F0 m pc ls [.int v]) :=
  W.iret J.1 J.2.1 hr (fun t ht hW => ⟨⟨v, M', rfl, hp, by show mw_P D cl M' (mw_A M s.heap.size) t.heap; rw [ht]; exact hP⟩, hS.F ht⟩) hS.2.2 hdg hlocks
theorem mw_zret {v : Int32} {M' : mw_M} {post : Int32 → mw_M → Prop} (J : CallFix p m c cc nL s args Ts own) (hr : meth.sig.returnType = some .boolean) (hlocks : meth.locks = false) (hn : narrow .boolean (.int v) = .int v) (hP : mw_P D cl M' (mw_A M s.heap.size) H) (hS : va_S (mw_A M s.heap.size) s.heap H locs) (hdg : decode cc pc = .ok (.ireturn, 1)) (hp : post v M') :
    W p l e R s m args below meth c H locs cells slots (MQ below (va_Qi post (mw_E D cl M s.heap.size) (mw_A M s.heap.size)) args s cells slots (mw_A M s.heap.size)) (F0 m pc ls [.int v]) :=
  W.zret J.1 J.2.1 hr hn (fun t ht hW => ⟨⟨v, M', rfl, hp, by show mw_P D cl M' (mw_A M s.heap.size) t.heap; rw [ht]; exact hP⟩, hS.F ht⟩) hS.2.2 hdg hlocks
theorem mw_vret {M' : mw_M} {post : mw_M → Prop} (J : CallFix p m c cc nL s args Ts own) (hr : meth.sig.returnType = none) (hlocks : meth.locks = false) (hP : mw_P D cl M' (mw_A M s.heap.size) H) (hS : va_S (mw_A M s.heap.size) s.heap H locs) (hdg : decode cc pc = .ok (.return_, 1)) (hp : post M') :
    W p l e R s m args below meth c H locs cells slots (MQ below (va_Qv post (mw_E D cl M s.heap.size) (mw_A M s.heap.size)) args s cells slots (mw_A M s.heap.size)) (F0 m pc ls []) :=
  W.vret J.1 J.2.1 hr (fun t ht hW => ⟨⟨M', rfl, hp, by show mw_P D cl M' (mw_A M s.heap.size) t.heap; rw [ht]; exact hP⟩, hS.F ht⟩) hS.2.2 hdg hlocks
theorem mw_aret {r : Nat} {C : String} {M' : mw_M} {post : mw_M × Nat → Prop} (J : CallFix p m c cc nL s args Ts own) (hr : meth.sig.returnType = some (.object C)) (hlocks : meth.locks = false) (hP : mw_P D cl M' (mw_A M s.heap.size) H) (hS : va_S (mw_A M s.heap.size) s.heap H locs) (hdg : decode cc pc = .ok (.areturn, 1)) (hp : post (M', r)) :
    W p l e R s m args below meth c H locs cells slots (MQ below (va_Qr post (mw_Er D cl M s.heap.size) (mw_A M s.heap.size)) args s cells slots (mw_A M s.heap.size)) (F0 m pc ls [.ref r]) :=
  W.aret J.1 J.2.1 hr (Or.inl ⟨C, rfl⟩) (Or.inr ⟨r, rfl⟩) (fun t ht hW => ⟨⟨(M', r), r, rfl, hp, rfl, by show mw_P D cl M' (mw_A M s.heap.size) t.heap; rw [ht]; exact hP⟩, hS.F ht⟩) hS.2.2 hdg hlocks
end MW2
/-! overlays: a world with the cells at ad 0 .. ad (n - 1) replaced -/
def mw_ov (M : mw_M) (ad : Nat → Nat) (c : Nat → va_E) : Nat → mw_M
  | 0 => M
  | n + 1 => va_up (mw_ov M ad c n) (ad n) (some (c n))
def mw_inj (ad : Nat → Nat) (n : Nat) : Prop := ∀ i j, i < n → j < n → ad i = ad j → i = j
theorem mw_ov_off {M : mw_M} {ad : Nat → Nat} {c : Nat → va_E} {q : Nat} : ∀ {n : Nat}, (∀ i, i < n → ad i ≠ q) → mw_ov M ad c n q = M q
  | 0, _ => rfl
  | n + 1, h => by
    show va_up (mw_ov M ad c n) (ad n) (some (c n)) q = M q
    rw [va_up_ne _ _ (Ne.symm (h n (Nat.lt_succ_self n)))]
    exact mw_ov_off (fun i hi => h i (Nat.lt_succ_of_lt hi))
theorem mw_ov_at {M : mw_M} {ad : Nat → Nat} {c : Nat → va_E} {i : Nat} : ∀ {n : Nat}, mw_inj ad n → i < n → mw_ov M ad c n (ad i) = some (c i)
  | 0, _, h => absurd h (Nat.not_lt_zero i)
  | n + 1, hj, h => by
    show va_up (mw_ov M ad c n) (ad n) (some (c n)) (ad i) = some (c i)
    by_cases hi : i = n
    · subst hi
      exact va_up_self _ _ _
    · rw [va_up_ne _ _ (fun e => hi (hj i n h (Nat.lt_succ_self n) e))]
      exact mw_ov_at (fun a b ha hb e => hj a b (Nat.lt_succ_of_lt ha) (Nat.lt_succ_of_lt hb) e) (by omega)
/-- one cell of the overlay is written -/
theorem mw_ov_set {M : mw_M} {ad : Nat → Nat} {c : Nat → va_E} {n i : Nat} {e : va_E} (hj : mw_inj ad n) (hi : i < n) : va_up (mw_ov M ad c n) (ad i) (some e) = mw_ov M ad (va_up c i e) n := by
  funext q
  by_cases hq : ∃ j, j < n ∧ ad j = q
  · obtain ⟨j, hjn, rfl⟩ := hq
    rw [mw_ov_at hj hjn]
    by_cases hji : j = i
    · subst hji
      rw [va_up_self, va_up_self]
    · rw [va_up_ne _ _ (fun e => hji (hj j i hjn hi e)), va_up_ne _ _ hji, mw_ov_at hj hjn]
  · have h1 : ∀ j, j < n → ad j ≠ q := fun j hjn e => hq ⟨j, hjn, e⟩
    rw [mw_ov_off h1, va_up_ne _ _ (Ne.symm (h1 i hi)), mw_ov_off h1]
/-- the overlay of a world's own cells is that world -/
theorem mw_ov_self {M : mw_M} {ad : Nat → Nat} {c : Nat → va_E} : ∀ {n : Nat}, (∀ i, i < n → M (ad i) = some (c i)) → mw_ov M ad c n = M
  | 0, _ => rfl
  | n + 1, h => by
    show va_up (mw_ov M ad c n) (ad n) (some (c n)) = M
    rw [mw_ov_self (fun i hi => h i (Nat.lt_succ_of_lt hi))]
    funext q
    by_cases hq : q = ad n
    · rw [hq, va_up_self, h n (Nat.lt_succ_self n)]
    · rw [va_up_ne _ _ hq]
/-- a new cell beside the overlay -/
theorem mw_ov_new {M : mw_M} {ad : Nat → Nat} {c : Nat → va_E} {q : Nat} {x : Option va_E} : ∀ {n : Nat}, (∀ i, i < n → ad i ≠ q) → va_up (mw_ov M ad c n) q x = mw_ov (va_up M q x) ad c n
  | 0, _ => rfl
  | n + 1, h => by
    show va_up (va_up (mw_ov M ad c n) (ad n) (some (c n))) q x = va_up (mw_ov (va_up M q x) ad c n) (ad n) (some (c n))
    rw [← mw_ov_new (fun i hi => h i (Nat.lt_succ_of_lt hi))]
    have hn := h n (Nat.lt_succ_self n)
    funext z
    by_cases h1 : z = q
    · subst h1
      rw [va_up_self, va_up_ne _ _ (Ne.symm hn), va_up_self]
    · by_cases h2 : z = ad n
      · subst h2
        rw [va_up_ne _ _ h1, va_up_self, va_up_self]
      · rw [va_up_ne _ _ h1, va_up_ne _ _ h2, va_up_ne _ _ h2, va_up_ne _ _ h1]
theorem mw_ov_congr {M : mw_M} {ad : Nat → Nat} {c c' : Nat → va_E} : ∀ {n : Nat}, (∀ i, i < n → c i = c' i) → mw_ov M ad c n = mw_ov M ad c' n
  | 0, _ => rfl
  | n + 1, h => by
    show va_up (mw_ov M ad c n) (ad n) (some (c n)) = va_up (mw_ov M ad c' n) (ad n) (some (c' n))
    rw [mw_ov_congr (fun i hi => h i (Nat.lt_succ_of_lt hi)), h n (Nat.lt_succ_self n)]
/-- overlay over overlay -/
theorem mw_ov_ov {M : mw_M} {ad : Nat → Nat} {c c' : Nat → va_E} {n : Nat} (hj : mw_inj ad n) : mw_ov (mw_ov M ad c n) ad c' n = mw_ov M ad c' n := by
  funext q
  by_cases hq : ∃ j, j < n ∧ ad j = q
  · obtain ⟨j, hjn, rfl⟩ := hq
    rw [mw_ov_at hj hjn, mw_ov_at hj hjn]
  · have h1 : ∀ j, j < n → ad j ≠ q := fun j hjn e => hq ⟨j, hjn, e⟩
    rw [mw_ov_off h1, mw_ov_off h1, mw_ov_off h1]
section MW3
variable {p : Program} {l : Launch} {e : Env} {R : Room} {s : State} {m : MethodId} {args : Array Value} {below : List Frame} {meth : Method} {c : Code} {H : Heap} {locs : List Loc} {cells slots : Nat} {Q : State → Prop}
variable {cc : ByteArray} {pc nL : Nat} {ls : Array Slot} {rest : List Value} {D : va_G} {cl : List vw_C} {A : Nat → Prop} {a : Nat} {tys : List (ClassId × FieldType)} {M : mw_M} {Ts : List Cond} {own : String}
/-- the top of the stack under another name -/
theorem mw_top {x x' : Int32} (he : x = x') (k : W p l e R s m args below meth c H locs cells slots Q (F0 m pc ls (.int x' :: rest))) : W p l e R s m args below meth c H locs cells slots Q (F0 m pc ls (.int x :: rest)) := by
  rw [he]
  exact k
/-- arrays at a place that is a natural number -/
theorem mw_ialdN (J : CallFix p m c cc nL s args Ts own) (hK : va_K D cl tys s) (hP : mw_P D cl M A H) (t0 : Nat) {cA : ClassId} {n k : Nat} {f : Nat → Int32} (ha : M a = some (.inl (cA, n, .inl f))) (ht : tys[t0]? = some (cA, .int)) (hk : k < n) (hn : n < 2 ^ 31) (hdg : decode cc pc = .ok (.iaload, 1))
    (kk : W p l e R s m args below meth c H locs cells slots Q (F0 m (pc + 1) ls (.int (f k) :: rest))) : W p l e R s m args below meth c H locs cells slots Q (F0 m pc ls (.int (nI k) :: .ref a :: rest)) :=
  mw_iald J hK hP t0 ha ht (vp_in_nI hk hn) hdg (by rw [nI_clamp (Nat.lt_trans hk hn)]; exact kk)
theorem mw_iastN (J : CallFix p m c cc nL s args Ts own) (hK : va_K D cl tys s) (hP : mw_P D cl M A H) (hS : va_S A s.heap H locs) (t0 : Nat) {cA : ClassId} {n k : Nat} {f : Nat → Int32} (ha : M a = some (.inl (cA, n, .inl f))) (ht : tys[t0]? = some (cA, .int)) {x : Int32} (hk : k < n) (hn : n < 2 ^ 31) (hdg : decode cc pc = .ok (.iastore, 1))
    (kk : ∀ (H1 : Heap) (locs1 : List Loc), mw_P D cl (va_up M a (some (.inl (cA, n, .inl (upd f k x))))) A H1 → va_S A s.heap H1 locs1 → W p l e R s m args below meth c H1 locs1 cells slots Q (F0 m (pc + 1) ls rest)) : W p l e R s m args below meth c H locs cells slots Q (F0 m pc ls (.int x :: .int (nI k) :: .ref a :: rest)) :=
  mw_iast J hK hP hS t0 ha ht (vp_in_nI hk hn) hdg (by rw [nI_clamp (Nat.lt_trans hk hn)]; exact kk)
theorem mw_aaldN (J : CallFix p m c cc nL s args Ts own) (hK : va_K D cl tys s) (hP : mw_P D cl M A H) (t0 : Nat) {cA : ClassId} {C : String} {n k : Nat} {f : Nat → Option Nat} (ha : M a = some (.inl (cA, n, .inr (.inr (.inr (.inr f)))))) (ht : tys[t0]? = some (cA, .object C)) (hk : k < n) (hn : n < 2 ^ 31) {b : Nat} (hv : f k = some b) (hdg : decode cc pc = .ok (.aaload, 1))
    (kk : W p l e R s m args below meth c H locs cells slots Q (F0 m (pc + 1) ls (.ref b :: rest))) : W p l e R s m args below meth c H locs cells slots Q (F0 m pc ls (.int (nI k) :: .ref a :: rest)) :=
  mw_aald J hK hP t0 ha ht (vp_in_nI hk hn) (by rw [nI_clamp (Nat.lt_trans hk hn)]; exact hv) hdg kk
theorem mw_aastN (J : CallFix p m c cc nL s args Ts own) (hK : va_K D cl tys s) (hP : mw_P D cl M A H) (hS : va_S A s.heap H locs) (t0 ci : Nat) {cA : ClassId} {r : vw_C} {n k b : Nat} {vs : List Value} {f : Nat → Option Nat} (ha : M a = some (.inl (cA, n, .inr (.inr (.inr (.inr f)))))) (ht : tys[t0]? = some (cA, .object r.1)) (hv : M b = some (.inr (ci, vs))) (hc : cl[ci]? = some r) (hk : k < n) (hn : n < 2 ^ 31) (hdg : decode cc pc = .ok (.aastore, 1))
    (kk : ∀ (H1 : Heap) (locs1 : List Loc), mw_P D cl (va_up M a (some (.inl (cA, n, .inr (.inr (.inr (.inr (va_up f k (some b))))))))) A H1 → va_S A s.heap H1 locs1 → W p l e R s m args below meth c H1 locs1 cells slots Q (F0 m (pc + 1) ls rest)) : W p l e R s m args below meth c H locs cells slots Q (F0 m pc ls (.ref b :: .int (nI k) :: .ref a :: rest)) :=
  mw_aast J hK hP hS t0 ci ha ht hv hc (vp_in_nI hk hn) hdg (by rw [nI_clamp (Nat.lt_trans hk hn)]; exact kk)
end MW3
/-- a counting loop: the invariant I i, from i up to e -/
theorem mw_loop {W' : Heap → List Loc → Array Slot → Prop} (e : Nat) (I : Nat → Heap → List Loc → Array Slot → Prop)
    (hs : ∀ i H locs ls, i ≤ e → I i H locs ls → (∀ H1 locs1 ls1, i < e → I (i + 1) H1 locs1 ls1 → W' H1 locs1 ls1) → W' H locs ls) :
    ∀ (n i : Nat), e - i ≤ n → i ≤ e → ∀ H locs ls, I i H locs ls → W' H locs ls := by
  intro n
  induction n with
  | zero =>
    intro i hn hi H locs ls h
    exact hs i H locs ls hi h (fun _ _ _ hlt _ => absurd hlt (by omega))
  | succ n ih =>
    intro i hn hi H locs ls h
    exact hs i H locs ls hi h (fun H1 locs1 ls1 hlt h1 => ih (i + 1) (by omega) (by omega) H1 locs1 ls1 h1)
theorem mw_ov_is {M : mw_M} {ad : Nat → Nat} {c : Nat → va_E} {n i : Nat} {x : va_E} (hj : mw_inj ad n) (hi : i < n) (he : c i = x) : mw_ov M ad c n (ad i) = some x := (mw_ov_at hj hi).trans (congrArg some he)
