/-! Worlds by address: a world is a map M from addresses to cells; nothing is said of an address where M is none. -/
abbrev mw_M : Type := Nat → Option va_E
def mw_P (D : va_G) (cl : List vw_C) (M : mw_M) (A : Nat → Prop) (H : Heap) : Prop :=
  ∃ (L : List Nat) (f : Nat → va_E), (∀ (a : Nat) (e : va_E), M a = some e ↔ (a ∈ L ∧ f a = e)) ∧ va_P D cl ([] ++ va_pl L f) H ∧ va_D A ([] ++ va_pl L f)
/-- what a method with the world M may change: the cells of M, and what comes from sz on -/
def mw_A (M : mw_M) (sz : Nat) : Nat → Prop := fun q => M q ≠ none ∨ sz ≤ q
theorem mw_row {D : va_G} {cl : List vw_C} {M : mw_M} {A : Nat → Prop} {H : Heap} {a : Nat} {e : va_E} (h : mw_P D cl M A H) (ha : M a = some e) :
    ∃ (ws : va_W) (k : Nat), va_P D cl ws H ∧ va_D A ws ∧ ws[k]? = some (a, e) ∧ ∀ (e' : va_E) (H1 : Heap), va_P D cl (ws.set k (a, e')) H1 → va_D A (ws.set k (a, e')) → mw_P D cl (va_up M a (some e')) A H1 := by
  obtain ⟨L, f, hM, hP, hD⟩ := h
  obtain ⟨hL, hf⟩ := (hM a e).mp ha
  obtain ⟨k, hk⟩ := va_pl_get (X := []) (f := f) hL
  refine ⟨[] ++ va_pl L f, k, hP, hD, by rw [hk, hf], fun e' H1 h1 h2 => ?_⟩
  rw [va_pl_set hD hL hk] at h1 h2
  refine ⟨L, va_up f a e', fun b e2 => ?_, h1, h2⟩
  by_cases hb : b = a
  · subst hb
    rw [va_up_self, va_up_self]
    constructor
    · intro h; cases h; exact ⟨hL, rfl⟩
    · rintro ⟨_, rfl⟩; rfl
  · rw [va_up_ne _ _ hb, va_up_ne _ _ hb]
    exact hM b e2
theorem mw_row2 {D : va_G} {cl : List vw_C} {M : mw_M} {A : Nat → Prop} {H : Heap} {a b : Nat} {e e2 : va_E} (h : mw_P D cl M A H) (ha : M a = some e) (hb : M b = some e2) :
    ∃ (ws : va_W) (k j : Nat), va_P D cl ws H ∧ va_D A ws ∧ ws[k]? = some (a, e) ∧ ws[j]? = some (b, e2) ∧ ∀ (e' : va_E) (H1 : Heap), va_P D cl (ws.set k (a, e')) H1 → va_D A (ws.set k (a, e')) → mw_P D cl (va_up M a (some e')) A H1 := by
  obtain ⟨L, f, hM, hP, hD⟩ := h
  obtain ⟨hL, hf⟩ := (hM a e).mp ha
  obtain ⟨hL2, hf2⟩ := (hM b e2).mp hb
  obtain ⟨k, hk⟩ := va_pl_get (X := []) (f := f) hL
  obtain ⟨j, hj⟩ := va_pl_get (X := []) (f := f) hL2
  refine ⟨[] ++ va_pl L f, k, j, hP, hD, by rw [hk, hf], by rw [hj, hf2], fun e' H1 h1 h2 => ?_⟩
  rw [va_pl_set hD hL hk] at h1 h2
  refine ⟨L, va_up f a e', fun b e2 => ?_, h1, h2⟩
  by_cases hb : b = a
  · subst hb
    rw [va_up_self, va_up_self]
    constructor
    · intro h; cases h; exact ⟨hL, rfl⟩
    · rintro ⟨_, rfl⟩; rfl
  · rw [va_up_ne _ _ hb, va_up_ne _ _ hb]
    exact hM b e2
theorem mw_add {D : va_G} {cl : List vw_C} {M : mw_M} {A : Nat → Prop} {H : Heap} (h : mw_P D cl M A H) :
    ∃ ws : va_W, va_P D cl ws H ∧ va_D A ws ∧ ∀ (q : Nat) (e : va_E) (H1 : Heap), va_P D cl (ws ++ [(q, e)]) H1 → va_D A (ws ++ [(q, e)]) → M q = none ∧ mw_P D cl (va_up M q (some e)) A H1 := by
  obtain ⟨L, f, hM, hP, hD⟩ := h
  refine ⟨[] ++ va_pl L f, hP, hD, fun q e H1 h1 h2 => ?_⟩
  have hq : q ∉ L := va_pl_fresh2 h2
  have e1 : ([] ++ va_pl L f) ++ [(q, e)] = [] ++ va_pl (L ++ [q]) (va_up f q e) := by
    rw [List.nil_append, List.nil_append]
    exact va_pl_push hq
  rw [e1] at h1 h2
  have hn : M q = none := by
    cases hm : M q with
    | none => rfl
    | some e2 => exact absurd ((hM q e2).mp hm).1 hq
  refine ⟨hn, L ++ [q], va_up f q e, fun b e2 => ?_, h1, h2⟩
  by_cases hb : b = q
  · subst hb
    rw [va_up_self, va_up_self]
    constructor
    · intro h; cases h; exact ⟨by simp, rfl⟩
    · rintro ⟨_, rfl⟩; rfl
  · rw [va_up_ne _ _ hb, va_up_ne _ _ hb, hM b e2]
    simp [hb]
theorem mw_P.inA {D : va_G} {cl : List vw_C} {M : mw_M} {A : Nat → Prop} {H : Heap} (h : mw_P D cl M A H) {q : Nat} (hq : M q ≠ none) : A q := by
  cases hm : M q with
  | none => exact absurd hm hq
  | some e =>
    obtain ⟨ws, k, -, hD, hk, -⟩ := mw_row h hm
    exact hD.2 k _ hk
theorem mw_P.lt {D : va_G} {cl : List vw_C} {M : mw_M} {A : Nat → Prop} {H : Heap} (h : mw_P D cl M A H) {q : Nat} (hq : M q ≠ none) : q < H.size := by
  cases hm : M q with
  | none => exact absurd hm hq
  | some e =>
    obtain ⟨ws, k, hP, -, hk, -⟩ := mw_row h hm
    exact (hP k _ hk).lt
theorem mw_P.weaken {D : va_G} {cl : List vw_C} {M : mw_M} {A B : Nat → Prop} {H : Heap} (h : mw_P D cl M A H) (hAB : ∀ q, M q ≠ none → A q → B q) : mw_P D cl M B H := by
  obtain ⟨L, f, hM, hP, hD⟩ := h
  refine ⟨L, f, hM, hP, hD.weaken fun k q hk hq => hAB q.1 ?_ hq⟩
  have hm : q ∈ va_pl L f := List.mem_of_getElem? hk
  obtain ⟨a, ha, rfl⟩ := List.mem_map.mp hm
  rw [(hM a (f a)).mpr ⟨ha, rfl⟩]
  exact fun h => by cases h
theorem mw_P.self {D : va_G} {cl : List vw_C} {M : mw_M} {A : Nat → Prop} {H : Heap} {sz : Nat} (h : mw_P D cl M A H) : mw_P D cl M (mw_A M sz) H := h.weaken fun _ hq _ => Or.inl hq
theorem mw_P.none {D : va_G} {cl : List vw_C} {A : Nat → Prop} {H : Heap} : mw_P D cl (fun _ => none) A H :=
  ⟨[], fun _ => .inr (0, []), fun a e => by simp, fun k q h => by simp [va_pl] at h, ⟨fun i j p q h => by simp [va_pl] at h, fun k q h => by simp [va_pl] at h⟩⟩
/-- two addresses that hold different things differ -/
theorem mw_ne {M : mw_M} {a b : Nat} {x y : Option va_E} (ha : M a = x) (hb : M b = y) (h : x ≠ y) : a ≠ b := fun e => h (by rw [← ha, ← hb, e])
/-! static tables of ints that nobody writes, and array classes over our own -/
abbrev mw_T : Type := String × String × String × Nat × Nat × (Nat → Value)
abbrev mw_N : Type := String × Nat × String × String × String × String
abbrev mw_G : Type := List mw_T × List String × List mw_N
def mw_Z (g : mw_G) (A : Nat → Prop) (U : State) (H : Heap) : Prop :=
  (∀ z ∈ g.1, va_Z z.1 z.2.1 z.2.2.1 (.ref z.2.2.2.1) A U H ∧ va_T .int z.2.2.2.1 z.2.2.2.2.1 z.2.2.2.2.2 A U H) ∧ (∀ C ∈ g.2.1, va_AO C U) ∧ ∀ x ∈ g.2.2, va_Nw (.fieldLinkNest x.1 x.2.1 x.2.2.1 x.2.2.2.1 x.2.2.2.2.1 x.2.2.2.2.2) U
theorem mw_Z.warm {g : mw_G} {A : Nat → Prop} {u U : State} {H : Heap} (hW : u.WarmedH U.vm) (h : mw_Z g A u H) : mw_Z g A U H :=
  ⟨fun z hz => ⟨(h.1 z hz).1.moved hW.alike, (h.1 z hz).2.moved hW.alike⟩, fun C hC => (h.2.1 C hC).moved hW.alike, fun x hx => va_Nw.warmF hW (h.2.2 x hx)⟩
theorem mw_Z.same {g : mw_G} {A : Nat → Prop} {u U : State} {H : Heap} (hvm : u.vm = U.vm) (h : mw_Z g A u H) : mw_Z g A U H :=
  ⟨fun z hz => ⟨(h.1 z hz).1.moved (by rw [hvm]; exact Vm.Alike.refl _), (h.1 z hz).2.moved (by rw [hvm]; exact Vm.Alike.refl _)⟩, fun C hC => (h.2.1 C hC).moved (by rw [hvm]; exact Vm.Alike.refl _), fun x hx => va_Nw.same rfl hvm (h.2.2 x hx)⟩
theorem mw_Z.kept {g : mw_G} {A : Nat → Prop} {U : State} {H H1 : Heap} (h : mw_Z g A U H) (hq : ∀ a : Nat, a < H.size → ¬ A a → H1[a]? = H[a]?) : mw_Z g A U H1 :=
  ⟨fun z hz => ⟨(h.1 z hz).1.kept hq, (h.1 z hz).2.kept hq⟩, h.2⟩
theorem mw_Z.narrow {g : mw_G} {A B : Nat → Prop} {U : State} {H : Heap} (h : mw_Z g A U H) (hAB : ∀ q, B q → A q) : mw_Z g B U H :=
  ⟨fun z hz => ⟨(h.1 z hz).1.narrow hAB, (h.1 z hz).2.narrow hAB⟩, h.2⟩
/-- the start of a method -/
def mw_B (D : va_G) (cl : List vw_C) (tys : List (ClassId × FieldType)) (g : mw_G) (M : mw_M) (sz : Nat) (U : State) : Prop :=
  U.heap.size = sz ∧ mw_P D cl M (fun _ => True) U.heap ∧ va_K D cl tys U ∧ mw_Z g (mw_A M sz) U U.heap
/-- its end -/
def mw_E (D : va_G) (cl : List vw_C) (M : mw_M) (sz : Nat) (M' : mw_M) (t : State) : Prop := mw_P D cl M' (mw_A M sz) t.heap
def mw_Er (D : va_G) (cl : List vw_C) (M : mw_M) (sz : Nat) (u : mw_M × Nat) (a : Nat) (t : State) : Prop := u.2 = a ∧ mw_P D cl u.1 (mw_A M sz) t.heap
theorem mw_blind {D : va_G} {cl : List vw_C} {tys : List (ClassId × FieldType)} {g : mw_G} {M : mw_M} {sz : Nat} {av : List Value} : FrameBlind (va_Pc av (mw_B D cl tys g M sz)) := by
  intro a U g0 mk q
  obtain ⟨q0, q1, qP, qK, qZ⟩ := q
  exact ⟨q0, q1, qP, va_K.moved (u := U) (U := U.calling g0 mk a) (Vm.Alike.refl U.vm) qK, mw_Z.same (u := U) (U := U.calling g0 mk a) rfl qZ⟩
section MW1
variable {p : Program} {l : Launch} {e : Env} {R : Room} {s : State} {m : MethodId} {args : Array Value} {below : List Frame} {meth : Method} {c : Code} {H : Heap} {locs : List Loc} {cells slots : Nat} {Q : State → Prop}
variable {cc : ByteArray} {pc nL : Nat} {ls : Array Slot} {rest : List Value} {D : va_G} {cl : List vw_C} {A : Nat → Prop} {a : Nat} {tys : List (ClassId × FieldType)} {g : mw_G} {M : mw_M} {Ts : List Cond} {own : String}
theorem mw_free (hP : mw_P D cl M A H) (hS : va_S A s.heap H locs) (hA : ∀ q, s.heap.size ≤ q → A q) : ∀ q, mw_A M H.size q → A q := by
  intro q h
  rcases h with h | h
  · exact hP.inA h
  · exact hA q (Nat.le_trans hS.1 h)
theorem mw_pre {av : List Value} (hK : va_K D cl tys s) (hZ : mw_Z g A s s.heap) (hP : mw_P D cl M A H) (hS : va_S A s.heap H locs) (hA : ∀ q, s.heap.size ≤ q → A q) :
    ∀ U : State, U.heap = H → s.WarmedH U.vm → va_Pc av (mw_B D cl tys g M H.size) av.toArray U := by
  intro U hU hW
  refine ⟨rfl, by rw [hU], by rw [hU]; exact hP.weaken (fun _ _ _ => trivial), va_K.moved hW.alike hK, ?_⟩
  rw [hU]
  exact ((hZ.kept (H1 := H) (fun q h1 h2 => hS.2.1 q h1 h2)).narrow (mw_free hP hS hA)).warm hW
/-! rows -/
theorem mw_get {C : String} {T : u_T} {N ci index : Nat} {ref : String} (J : CallFix p m c cc nL s args Ts own) (hin : ∀ w ∈ u_ws C T N, w ∈ Ts) (hK : va_K D cl tys s) (hP : mw_P D cl M A H) {fs : List Value} (ha : M a = some (.inr (ci, fs))) (hc : cl[ci]? = some (C, T, N)) (k : Nat) (hk : k < N)
    (hlink : (Cond.fieldLink own index ref (T k).2.1 (T k).2.2.1).before args s = true) (hsame : ∀ x, s.fieldFound? (T k).1 (T k).2.1 (T k).2.2.1 = some x → s.fieldFound? ref (T k).2.1 (T k).2.2.1 = some x) {v : Value} (hv : fs[k]? = some v) (hdg : decode cc pc = .ok (.getfield index, 3))
    (kk : W p l e R s m args below meth c H locs cells slots Q (F0 m (pc + 3) ls (v :: rest))) : W p l e R s m args below meth c H locs cells slots Q (F0 m pc ls (.ref a :: rest)) := by
  obtain ⟨ws, q0, h1, -, h2, -⟩ := mw_row hP ha
  exact va_get J.1 J.2.1 J.2.2.2.2 hin J.2.2.2.1 hK h1 q0 h2 hc k hk hlink hsame hv hdg kk
theorem mw_put {C : String} {T : u_T} {N ci index : Nat} {ref : String} (J : CallFix p m c cc nL s args Ts own) (hin : ∀ w ∈ u_ws C T N, w ∈ Ts) (ty0 : Nat → FieldType) (hty : ∀ k, k < N → parseFieldDescriptor (T k).2.2.1 = some (ty0 k)) (hnm : ∀ a, a < N → ∀ b, b < N → a ≠ b → (T a).2.1 ≠ (T b).2.1) (hK : va_K D cl tys s) (hP : mw_P D cl M A H) (hS : va_S A s.heap H locs) {fs : List Value} (ha : M a = some (.inr (ci, fs))) (hc : cl[ci]? = some (C, T, N)) (k : Nat) (hk : k < N)
    (hlink : (Cond.fieldLink own index ref (T k).2.1 (T k).2.2.1).before args s = true) (hsame : ∀ x, s.fieldFound? (T k).1 (T k).2.1 (T k).2.2.1 = some x → s.fieldFound? ref (T k).2.1 (T k).2.2.1 = some x) (hfin : (T k).2.2.2 = false) {ty : FieldType} {v : Value} (hd : parseFieldDescriptor (T k).2.2.1 = some ty) (hn : narrow ty v = v) (hfit : fits ty v = true) (hl : k < fs.length) (hdg : decode cc pc = .ok (.putfield index, 3))
    (kk : ∀ (H1 : Heap) (locs1 : List Loc), mw_P D cl (va_up M a (some (.inr (ci, fs.set k v)))) A H1 → va_S A s.heap H1 locs1 → W p l e R s m args below meth c H1 locs1 cells slots Q (F0 m (pc + 3) ls rest)) : W p l e R s m args below meth c H locs cells slots Q (F0 m pc ls (v :: .ref a :: rest)) := by
  obtain ⟨ws, q0, h1, h3, h2, h4⟩ := mw_row hP ha
  exact va_put J.1 J.2.1 J.2.2.2.2 hin ty0 hty hnm J.2.2.2.1 hK h1 h3 hS q0 h2 hc k hk hlink hsame hfin hd hn hfit hl hdg fun H1 locs1 g1 g2 g3 => kk H1 locs1 (h4 _ _ g1 g2) g3
theorem mw_putF {C : String} {T : u_T} {N ci index : Nat} {ref : String} (J : CallFix p m c cc nL s args Ts own) (hin : ∀ w ∈ u_ws C T N, w ∈ Ts) (ty0 : Nat → FieldType) (hty : ∀ k, k < N → parseFieldDescriptor (T k).2.2.1 = some (ty0 k)) (hnm : ∀ a, a < N → ∀ b, b < N → a ≠ b → (T a).2.1 ≠ (T b).2.1) (hK : va_K D cl tys s) (hP : mw_P D cl M A H) (hS : va_S A s.heap H locs) {fs : List Value} (ha : M a = some (.inr (ci, fs))) (hc : cl[ci]? = some (C, T, N)) (k : Nat) (hk : k < N)
    (hlink : (Cond.fieldLink own index ref (T k).2.1 (T k).2.2.1).before args s = true) (hsame : ∀ x, s.fieldFound? (T k).1 (T k).2.1 (T k).2.2.1 = some x → s.fieldFound? ref (T k).2.1 (T k).2.2.1 = some x) (hfin : (T k).2.2.2 = true) (hin2 : meth.name = "<init>") (hdecl : (T k).1 = own) {ty : FieldType} {v : Value} (hd : parseFieldDescriptor (T k).2.2.1 = some ty) (hn : narrow ty v = v) (hfit : fits ty v = true) (hl : k < fs.length) (hdg : decode cc pc = .ok (.putfield index, 3))
    (kk : ∀ (H1 : Heap) (locs1 : List Loc), mw_P D cl (va_up M a (some (.inr (ci, fs.set k v)))) A H1 → va_S A s.heap H1 locs1 → W p l e R s m args below meth c H1 locs1 cells slots Q (F0 m (pc + 3) ls rest)) : W p l e R s m args below meth c H locs cells slots Q (F0 m pc ls (v :: .ref a :: rest)) := by
  obtain ⟨ws, q0, h1, h3, h2, h4⟩ := mw_row hP ha
  exact va_putF J.1 J.2.1 J.2.2.2.2 hin ty0 hty hnm J.2.2.2.1 hK h1 h3 hS q0 h2 hc k hk hlink hsame hfin hin2 hdecl hd hn hfit hl hdg fun H1 locs1 g1 g2 g3 => kk H1 locs1 (h4 _ _ g1 g2) g3
theorem mw_iald (J : CallFix p m c cc nL s args Ts own) (hK : va_K D cl tys s) (hP : mw_P D cl M A H) (t0 : Nat) {cA : ClassId} {n : Nat} {f : Nat → Int32} (ha : M a = some (.inl (cA, n, .inl f))) (ht : tys[t0]? = some (cA, .int)) {i : Int32} (hin : vp_in i n) (hdg : decode cc pc = .ok (.iaload, 1))
    (kk : W p l e R s m args below meth c H locs cells slots Q (F0 m (pc + 1) ls (.int (f i.toNatClampNeg) :: rest))) : W p l e R s m args below meth c H locs cells slots Q (F0 m pc ls (.int i :: .ref a :: rest)) := by
  obtain ⟨ws, q0, h1, -, h2, -⟩ := mw_row hP ha
  exact va_iald J.1 J.2.1 hK h1 q0 t0 h2 ht hin hdg kk
theorem mw_iast (J : CallFix p m c cc nL s args Ts own) (hK : va_K D cl tys s) (hP : mw_P D cl M A H) (hS : va_S A s.heap H locs) (t0 : Nat) {cA : ClassId} {n : Nat} {f : Nat → Int32} (ha : M a = some (.inl (cA, n, .inl f))) (ht : tys[t0]? = some (cA, .int)) {i x : Int32} (hin : vp_in i n) (hdg : decode cc pc = .ok (.iastore, 1))
    (kk : ∀ (H1 : Heap) (locs1 : List Loc), mw_P D cl (va_up M a (some (.inl (cA, n, .inl (upd f i.toNatClampNeg x))))) A H1 → va_S A s.heap H1 locs1 → W p l e R s m args below meth c H1 locs1 cells slots Q (F0 m (pc + 1) ls rest)) : W p l e R s m args below meth c H locs cells slots Q (F0 m pc ls (.int x :: .int i :: .ref a :: rest)) := by
  obtain ⟨ws, q0, h1, h3, h2, h4⟩ := mw_row hP ha
  exact va_iast J.1 J.2.1 hK h1 h3 hS q0 t0 h2 ht hin hdg fun H1 locs1 g1 g2 g3 => kk H1 locs1 (h4 _ _ g1 g2) g3
theorem mw_zald (J : CallFix p m c cc nL s args Ts own) (hK : va_K D cl tys s) (hP : mw_P D cl M A H) (t0 : Nat) {cA : ClassId} {n : Nat} {f : Nat → Int32} (ha : M a = some (.inl (cA, n, .inl f))) (ht : tys[t0]? = some (cA, .boolean)) {i : Int32} (hin : vp_in i n) (hdg : decode cc pc = .ok (.baload, 1))
    (kk : W p l e R s m args below meth c H locs cells slots Q (F0 m (pc + 1) ls (.int (f i.toNatClampNeg) :: rest))) : W p l e R s m args below meth c H locs cells slots Q (F0 m pc ls (.int i :: .ref a :: rest)) := by
  obtain ⟨ws, q0, h1, -, h2, -⟩ := mw_row hP ha
  exact va_zald J.1 J.2.1 hK h1 q0 t0 h2 ht hin hdg kk
theorem mw_alen (J : CallFix p m c cc nL s args Ts own) (hK : va_K D cl tys s) (hP : mw_P D cl M A H) (t0 : Nat) {cA : ClassId} {x : vp_A} (ha : M a = some (.inl (cA, x))) {ty : FieldType} (ht : tys[t0]? = some (cA, ty)) {v : Int32} (hv : Int32.ofNat x.1 = v) (hdg : decode cc pc = .ok (.arraylength, 1))
    (kk : W p l e R s m args below meth c H locs cells slots Q (F0 m (pc + 1) ls (.int v :: rest))) : W p l e R s m args below meth c H locs cells slots Q (F0 m pc ls (.ref a :: rest)) := by
  obtain ⟨ws, q0, h1, -, h2, -⟩ := mw_row hP ha
  exact va_alen J.1 J.2.1 hK h1 q0 t0 h2 ht hv hdg kk
theorem mw_aald (J : CallFix p m c cc nL s args Ts own) (hK : va_K D cl tys s) (hP : mw_P D cl M A H) (t0 : Nat) {cA : ClassId} {C : String} {n : Nat} {f : Nat → Option Nat} (ha : M a = some (.inl (cA, n, .inr (.inr (.inr (.inr f)))))) (ht : tys[t0]? = some (cA, .object C)) {i : Int32} (hin : vp_in i n) {b : Nat} (hv : f i.toNatClampNeg = some b) (hdg : decode cc pc = .ok (.aaload, 1))
    (kk : W p l e R s m args below meth c H locs cells slots Q (F0 m (pc + 1) ls (.ref b :: rest))) : W p l e R s m args below meth c H locs cells slots Q (F0 m pc ls (.int i :: .ref a :: rest)) := by
  obtain ⟨ws, q0, h1, -, h2, -⟩ := mw_row hP ha
  exact va_aldq J.1 J.2.1 hK h1 q0 t0 h2 ht hin hdg (by rw [hv]; exact kk)
theorem mw_aast (J : CallFix p m c cc nL s args Ts own) (hK : va_K D cl tys s) (hP : mw_P D cl M A H) (hS : va_S A s.heap H locs) (t0 ci : Nat) {cA : ClassId} {r : vw_C} {n b : Nat} {vs : List Value} {f : Nat → Option Nat} (ha : M a = some (.inl (cA, n, .inr (.inr (.inr (.inr f)))))) (ht : tys[t0]? = some (cA, .object r.1)) (hv : M b = some (.inr (ci, vs))) (hc : cl[ci]? = some r) {i : Int32} (hin : vp_in i n) (hdg : decode cc pc = .ok (.aastore, 1))
    (kk : ∀ (H1 : Heap) (locs1 : List Loc), mw_P D cl (va_up M a (some (.inl (cA, n, .inr (.inr (.inr (.inr (va_up f i.toNatClampNeg (some b))))))))) A H1 → va_S A s.heap H1 locs1 → W p l e R s m args below meth c H1 locs1 cells slots Q (F0 m (pc + 1) ls rest)) : W p l e R s m args below meth c H locs cells slots Q (F0 m pc ls (.ref b :: .int i :: .ref a :: rest)) := by
  obtain ⟨ws, q0, qk, h1, h3, h2, h5, h4⟩ := mw_row2 hP ha hv
  exact va_astq J.1 J.2.1 hK h1 h3 hS q0 t0 qk ci h2 ht h5 hc hin hdg fun H1 locs1 g1 g2 g3 => kk H1 locs1 (h4 _ _ g1 g2) g3
theorem mw_new {C : String} {T : u_T} {N ci index : Nat} (J : CallFix p m c cc nL s args Ts own) (hin : ∀ w ∈ u_ws C T N, w ∈ Ts) (ty : Nat → FieldType) (hty : ∀ k, k < N → parseFieldDescriptor (T k).2.2.1 = some (ty k)) (hcl : (Cond.classLink own index C).before args s = true) (hinst : (Cond.instantiable C N).before args s = true) (hini : (Cond.initialized C).before args s = true)
    (hK : va_K D cl tys s) (hP : mw_P D cl M A H) (hS : va_S A s.heap H locs) (hA : ∀ q, s.heap.size ≤ q → A q) (hc : cl[ci]? = some (C, T, N)) {fs : List Value} (hfs : ∀ j, j < N → defaultValue (ty j) = vp_V fs j) (hcells : cells + 1 ≤ R.cells) (hslots : slots + N ≤ R.slots) (hdg : decode cc pc = .ok (.new index, 3))
    (kk : ∀ (q : Nat) (H1 : Heap), M q = none → mw_P D cl (va_up M q (some (.inr (ci, fs)))) A H1 → va_S A s.heap H1 locs → W p l e R s m args below meth c H1 locs (cells + 1) (slots + N) Q (F0 m (pc + 3) ls (.ref q :: rest))) : W p l e R s m args below meth c H locs cells slots Q (F0 m pc ls rest) := by
  obtain ⟨ws, h1, h2, h3⟩ := mw_add hP
  exact va_new J.1 J.2.1 J.2.2.2.2 hin ty hty J.2.2.2.1 hcl hinst hini hK h1 h2 hS hA hc hfs hcells hslots hdg fun q H1 g1 g2 g3 => kk q H1 (h3 _ _ _ g1 g2).1 (h3 _ _ _ g1 g2).2 g3
/-- a new array of ints, of the kind that the tables know -/
theorem mw_newi (J : CallFix p m c cc nL s args Ts own) (harr : (Cond.arrayClass .int).before args s = true) (hK : va_K D cl tys s) (hP : mw_P D cl M A H) (hS : va_S A s.heap H locs) (hA : ∀ q, s.heap.size ≤ q → A q) (t0 : Nat) {cA : ClassId} (ht : tys[t0]? = some (cA, .int)) {n : Int32} {N' : Nat} (hn : ¬ n < 0) (hN : n.toNatClampNeg = N') (hbytes : N' * componentBytes .int ≤ 536870912) (hcells : cells + 1 ≤ R.cells) (hslots : slots + N' ≤ R.slots) (hdg : decode cc pc = .ok (.newarray .int, 2))
    (kk : ∀ (q : Nat) (H1 : Heap), M q = none → mw_P D cl (va_up M q (some (.inl (cA, N', .inl (fun _ => 0))))) A H1 → va_S A s.heap H1 locs → W p l e R s m args below meth c H1 locs (cells + 1) (slots + N') Q (F0 m (pc + 2) ls (.ref q :: rest))) : W p l e R s m args below meth c H locs cells slots Q (F0 m pc ls (.int n :: rest)) := by
  obtain ⟨ws, h1, h2, h3⟩ := mw_add hP
  refine va_newa (a0 := (N', .inl (fun _ => 0))) (atype := .int) J.1 J.2.1 harr rfl hK h1 h2 hS hA (fun cA => rfl) hn hN hbytes hcells hslots hdg fun q cB H1 g0 g1 g2 g3 => ?_
  have e1 : s.vm.findClass ("[" ++ (FieldType.int).toString) = some cB := (g0.2 tys.length (cB, .int) (by simp; rfl)).2
  have e2 : s.vm.findClass ("[" ++ (FieldType.int).toString) = some cA := (hK.2 t0 _ ht).2
  have e3 : cB = cA := Option.some.inj (e1.symm.trans e2)
  subst e3
  exact kk q H1 (h3 _ _ _ g1 g2).1 (h3 _ _ _ g1 g2).2 g3
theorem mw_newq {C : String} {index : Nat} (J : CallFix p m c cc nL s args Ts own) (hclink : (Cond.classLink own index C).before args s = true) (hover : va_AO C s) (hK : va_K D cl tys s) (hP : mw_P D cl M A H) (hS : va_S A s.heap H locs) (hA : ∀ q, s.heap.size ≤ q → A q) (t0 : Nat) {cA : ClassId} (ht : tys[t0]? = some (cA, .object C)) {n : Int32} {N' : Nat} (hn : ¬ n < 0) (hN : n.toNatClampNeg = N') (hbytes : N' * 4 ≤ 536870912) (hcells : cells + 1 ≤ R.cells) (hslots : slots + N' ≤ R.slots) (hdg : decode cc pc = .ok (.anewarray index, 3))
    (kk : ∀ (q : Nat) (H1 : Heap), M q = none → mw_P D cl (va_up M q (some (.inl (cA, N', .inr (.inr (.inr (.inr (fun _ => none)))))))) A H1 → va_S A s.heap H1 locs → W p l e R s m args below meth c H1 locs (cells + 1) (slots + N') Q (F0 m (pc + 3) ls (.ref q :: rest))) : W p l e R s m args below meth c H locs cells slots Q (F0 m pc ls (.int n :: rest)) := by
  obtain ⟨ws, h1, h2, h3⟩ := mw_add hP
  refine va_newq J.1 J.2.1 J.2.2.2.1 hclink hover hK h1 h2 hS hA hn hN hbytes hcells hslots hdg fun q cB H1 g0 g1 g2 g3 => ?_
  obtain ⟨-, -, -, -, -, e1⟩ := (g0.2 tys.length (cB, .object C) (by simp)).2
  obtain ⟨-, -, -, -, -, e2⟩ := (hK.2 t0 _ ht).2
  have e3 : cB = cA := Option.some.inj (e1.symm.trans e2)
  subst e3
  exact kk q H1 (h3 _ _ _ g1 g2).1 (h3 _ _ _ g1 g2).2 g3
/-- a static table: its reference, and a place of it -/
theorem mw_gets {C n d ref : String} {index t N : Nat} {f : Nat → Value} (J : CallFix p m c cc nL s args Ts own) (hZ : mw_Z g A s s.heap) (hS : va_S A s.heap H locs) (hz : (C, n, d, t, N, f) ∈ g.1) (hlink : (Cond.fieldLink own index ref n d).before args s = true) (hsame : ∀ x, s.fieldFound? C n d = some x → s.fieldFound? ref n d = some x) (hdg : decode cc pc = .ok (.getstatic index, 3))
    (kk : W p l e R s m args below meth c H locs cells slots Q (F0 m (pc + 3) ls (.ref t :: rest))) : W p l e R s m args below meth c H locs cells slots Q (F0 m pc ls rest) :=
  va_gets J.1 J.2.1 (hZ.1 _ hz).1 hS J.2.2.2.1 hlink hsame hdg kk
theorem mw_ti {C n d : String} {t N : Nat} {f : Nat → Value} (J : CallFix p m c cc nL s args Ts own) (hZ : mw_Z g A s s.heap) (hS : va_S A s.heap H locs) (hz : (C, n, d, t, N, f) ∈ g.1) {i : Int32} (hin : vp_in i N) {v : Value} (hv : f i.toNatClampNeg = v) (hdg : decode cc pc = .ok (.iaload, 1))
    (kk : W p l e R s m args below meth c H locs cells slots Q (F0 m (pc + 1) ls (v :: rest))) : W p l e R s m args below meth c H locs cells slots Q (F0 m pc ls (.int i :: .ref t :: rest)) :=
  va_ti J.1 J.2.1 (hZ.1 _ hz).2 hS hin hv hdg kk
theorem mw_getsN {C n d ref host : String} {index t N : Nat} {f : Nat → Value} (J : CallFix p m c cc nL s args Ts own) (hZ : mw_Z g A s s.heap) (hS : va_S A s.heap H locs) (hz : (C, n, d, t, N, f) ∈ g.1) (hlink : (own, index, ref, n, d, host) ∈ g.2.2) (hsame : ∀ x, s.fieldFound? C n d = some x → s.fieldFound? ref n d = some x) (hdg : decode cc pc = .ok (.getstatic index, 3))
    (kk : W p l e R s m args below meth c H locs cells slots Q (F0 m (pc + 3) ls (.ref t :: rest))) : W p l e R s m args below meth c H locs cells slots Q (F0 m pc ls rest) :=
  va_getsN J.1 J.2.1 (hZ.1 _ hz).1 hS J.2.2.2.1 (va_Nw.use rfl (hZ.2.2 _ hlink)) hsame hdg kk
end MW1
