/-! two worlds side by side -/
theorem mw_kept {D : va_G} {cl : List vw_C} {M : mw_M} {A : Nat → Prop} {H H1 : Heap} (h : mw_P D cl M A H) (hq : ∀ q, M q ≠ none → H1[q]? = H[q]?) : mw_P D cl M A H1 := by
  obtain ⟨L, f, hM, hP, hD⟩ := h
  refine ⟨L, f, hM, hP.kept (fun k q hk => hq q.1 ?_), hD⟩
  have hm : q ∈ va_pl L f := List.mem_of_getElem? hk
  obtain ⟨a, ha, rfl⟩ := List.mem_map.mp hm
  rw [(hM a (f a)).mpr ⟨ha, rfl⟩]
  exact fun h => by cases h
theorem mw_getElem_inj {L : List Nat} (hn : L.Nodup) {i j x : Nat} (hi : L[i]? = some x) (hj : L[j]? = some x) : i = j := by
  obtain ⟨a1, a2⟩ := List.getElem?_eq_some_iff.mp hi
  obtain ⟨b1, b2⟩ := List.getElem?_eq_some_iff.mp hj
  exact (List.getElem_inj hn).mp (a2.trans b2.symm)
theorem mw_D_nodup {A : Nat → Prop} {f : Nat → va_E} {L : List Nat} (h : va_D A ([] ++ va_pl L f)) : L.Nodup := by
  refine List.pairwise_iff_getElem.mpr (fun i j hi hj hij e => ?_)
  have h1 : ([] ++ va_pl L f)[j]? = some (L[j], f L[j]) := by
    rw [List.nil_append]
    unfold va_pl
    rw [List.getElem?_map, List.getElem?_eq_getElem hj]
    rfl
  have h2 : ([] ++ va_pl L f)[i]? = some (L[i], f L[i]) := by
    rw [List.nil_append]
    unfold va_pl
    rw [List.getElem?_map, List.getElem?_eq_getElem hi]
    rfl
  have := h.1 i j _ _ h2 h1 e
  omega
theorem mw_part {D : va_G} {cl : List vw_C} {M M' : mw_M} {A : Nat → Prop} {H : Heap} (h : mw_P D cl M A H) (hs : ∀ q e, M' q = some e → M q = some e) : mw_P D cl M' A H := by
  obtain ⟨L, f, hM, hP, hD⟩ := h
  have hnd := mw_D_nodup hD
  let L' := L.filter (fun a => (M' a).isSome)
  have hL' : ∀ a, a ∈ L' → a ∈ L := fun a ha => (List.mem_filter.mp ha).1
  have hn' : L'.Nodup := List.Nodup.sublist List.filter_sublist hnd
  have hget : ∀ (k : Nat) (q : Nat × va_E), ([] ++ va_pl L' f)[k]? = some q → L'[k]? = some q.1 ∧ q = (q.1, f q.1) := fun k q hk => by
    rw [List.nil_append] at hk
    unfold va_pl at hk
    rw [List.getElem?_map] at hk
    obtain ⟨a, h1, h2⟩ := Option.map_eq_some_iff.mp hk
    rw [← h2]
    exact ⟨h1, rfl⟩
  have hin : ∀ (k : Nat) (q : Nat × va_E), ([] ++ va_pl L' f)[k]? = some q → ∃ j, ([] ++ va_pl L f)[j]? = some q := fun k q hk => by
    obtain ⟨h1, h2⟩ := hget k q hk
    obtain ⟨j, hj⟩ := va_pl_get (X := []) (f := f) (hL' _ (List.mem_of_getElem? h1))
    exact ⟨j, by rw [h2]; exact hj⟩
  refine ⟨L', f, fun a e => ?_, fun k q hk => ?_, fun i j p q hi hj e => mw_getElem_inj hn' (hget i p hi).1 (by rw [e]; exact (hget j q hj).1), fun k q hk => ?_⟩
  · constructor
    · intro h
      obtain ⟨h1, h2⟩ := (hM a e).mp (hs a e h)
      exact ⟨List.mem_filter.mpr ⟨h1, by rw [h]; rfl⟩, h2⟩
    · rintro ⟨h1, h2⟩
      obtain ⟨h3, h4⟩ := List.mem_filter.mp h1
      cases hm : M' a with
      | none => rw [hm] at h4; cases h4
      | some e2 =>
        have := ((hM a e2).mp (hs a e2 hm)).2
        rw [← h2, this]
  · obtain ⟨j, hj⟩ := hin k q hk
    exact hP j q hj
  · obtain ⟨j, hj⟩ := hin k q hk
    exact hD.2 j q hj
section MW3
variable {p : Program} {l : Launch} {e : Env} {R : Room} {s : State} {m : MethodId} {args : Array Value} {below : List Frame} {meth : Method} {c : Code} {H : Heap} {locs : List Loc} {cells slots : Nat} {Q : State → Prop}
variable {cc : ByteArray} {pc nL : Nat} {ls : Array Slot} {rest st0 : List Value} {D : va_G} {cl : List vw_C} {A : Nat → Prop} {M M2 : mw_M} {mc ms : Nat}
/-- behind a call that knows the world M alone: the world M2 beside it stays -/
theorem mw_afterIF {a : Array Value} {post : Int32 → mw_M → Prop} (hP : mw_P D cl M A H) (hP2 : mw_P D cl M2 A H) (hd : ∀ q, M q ≠ none → M2 q = none) (hS : va_S A s.heap H locs) (hA : ∀ q, s.heap.size ≤ q → A q)
    (hr : va_Run p l e R s m args below meth c H locs cells slots mc ms (F0 m pc ls st0) rest (va_Qi post (mw_E D cl M H.size) (mw_A M H.size) a) (mw_A M H.size))
    (kk : ∀ (r : Int32) (M' : mw_M) (H1 : Heap) (locs1 : List Loc), post r M' → mw_P D cl M' A H1 → mw_P D cl M2 A H1 → (∀ q, M' q ≠ none → M2 q = none) → va_S A s.heap H1 locs1 → W p l e R s m args below meth c H1 locs1 (cells + mc) (slots + ms) Q (F0 m (pc + 3) ls (.int r :: rest))) : W p l e R s m args below meth c H locs cells slots Q (F0 m pc ls st0) := by
  have hF := mw_free hP hS hA
  refine va_calli hr hS (fun q _ h => hF q h) hF (fun r u t H1 locs1 ht hvm hw hB hz1 hk1 hS1 => ?_)
  have hm2 : ∀ q, M2 q ≠ none → q < H.size ∧ ¬ mw_A M H.size q := fun q hq => by
    have hlt := hP2.lt hq
    refine ⟨hlt, fun g => ?_⟩
    rcases g with g | g
    · exact hq (hd q g)
    · omega
  have hB' : mw_P D cl u (mw_A M H.size) t.heap := hB
  refine kk r u H1 locs1 hw ?_ (mw_kept hP2 (fun q hq => hk1 q (hm2 q hq).1 (hm2 q hq).2)) (fun q hq => ?_) hS1
  · rw [← ht]
    exact mw_P.weaken hB (fun q _ h => hF q h)
  · exact Classical.byContradiction fun g => (hm2 q g).2 (hB'.inA hq)
theorem mw_afterVF {a : Array Value} {post : mw_M → Prop} (hP : mw_P D cl M A H) (hP2 : mw_P D cl M2 A H) (hd : ∀ q, M q ≠ none → M2 q = none) (hS : va_S A s.heap H locs) (hA : ∀ q, s.heap.size ≤ q → A q)
    (hr : va_Run p l e R s m args below meth c H locs cells slots mc ms (F0 m pc ls st0) rest (va_Qv post (mw_E D cl M H.size) (mw_A M H.size) a) (mw_A M H.size))
    (kk : ∀ (M' : mw_M) (H1 : Heap) (locs1 : List Loc), post M' → mw_P D cl M' A H1 → mw_P D cl M2 A H1 → (∀ q, M' q ≠ none → M2 q = none) → va_S A s.heap H1 locs1 → W p l e R s m args below meth c H1 locs1 (cells + mc) (slots + ms) Q (F0 m (pc + 3) ls rest)) : W p l e R s m args below meth c H locs cells slots Q (F0 m pc ls st0) := by
  have hF := mw_free hP hS hA
  refine va_callv hr hS (fun q _ h => hF q h) hF (fun u t H1 locs1 ht hvm hw hB hz1 hk1 hS1 => ?_)
  have hm2 : ∀ q, M2 q ≠ none → q < H.size ∧ ¬ mw_A M H.size q := fun q hq => by
    have hlt := hP2.lt hq
    refine ⟨hlt, fun g => ?_⟩
    rcases g with g | g
    · exact hq (hd q g)
    · omega
  have hB' : mw_P D cl u (mw_A M H.size) t.heap := hB
  refine kk u H1 locs1 hw ?_ (mw_kept hP2 (fun q hq => hk1 q (hm2 q hq).1 (hm2 q hq).2)) (fun q hq => ?_) hS1
  · rw [← ht]
    exact mw_P.weaken hB (fun q _ h => hF q h)
  · exact Classical.byContradiction fun g => (hm2 q g).2 (hB'.inA hq)
end MW3
theorem mw_loopL {W' : Nat → Heap → List Loc → Array Slot → Prop} (e : Nat) (I : Nat → Heap → List Loc → Array Slot → Prop)
    (hs : ∀ i H locs ls, i ≤ e → I i H locs ls → (∀ H1 locs1 ls1, i < e → I (i + 1) H1 locs1 ls1 → W' (i + 1) H1 locs1 ls1) → W' i H locs ls) :
    ∀ (n i : Nat), e - i ≤ n → i ≤ e → ∀ H locs ls, I i H locs ls → W' i H locs ls := by
  intro n
  induction n with
  | zero =>
    intro i hn hi H locs ls h
    exact hs i H locs ls hi h (fun _ _ _ hlt _ => absurd hlt (by omega))
  | succ n ih =>
    intro i hn hi H locs ls h
    exact hs i H locs ls hi h (fun H1 locs1 ls1 hlt h1 => ih (i + 1) (by omega) hlt H1 locs1 ls1 h1)
