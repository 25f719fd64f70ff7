/-! where the search for cases stands -/
def m_hd (r : rk_Ru) (L : List Nat) (vx bx : Nat → Nat) (pl : Nat → Int32) (p : Nat → Nat) (D : Nat) : Prop :=
  D ≤ r.1.length ∧ (∀ j, j + 1 < D → pl j = nI (p j)) ∧ (∀ d, D = d + 1 → pl d = nI (p d) + (-1)) ∧ (∀ j, j + 1 < D → p j < L.length ∧ rk_inst (rk_nth r j) (rk_as vx) = L.getD (p j) 0) ∧ (∀ d, D = d + 1 → p d ≤ L.length) ∧ ∀ d, D = d + 1 → ∀ x, x < 8 → bx (x + 1) = rk_ocs r d x + if p d = 0 then 0 else rk_oc (rk_nth r d) 3 x
theorem m_hd_le {r : rk_Ru} {L : List Nat} {vx bx : Nat → Nat} {pl : Nat → Int32} {p : Nat → Nat} {D : Nat} (h : m_hd r L vx bx pl p D) : ∀ j, j < D → p j ≤ L.length := fun j hj => by
  by_cases e : j + 1 < D
  · exact Nat.le_of_lt (h.2.2.2.1 j e).1
  · exact h.2.2.2.2.1 j (by omega)
theorem m_hd_pre {r : rk_Ru} {L : List Nat} {vx bx : Nat → Nat} {pl : Nat → Int32} {p : Nat → Nat} {d : Nat} (h : m_hd r L vx bx pl p (d + 1)) : rk_pre r (rk_w L p) d (rk_as vx) := fun j hj => (h.2.2.2.1 j (by omega)).2
theorem m_hd_start {r : rk_Ru} {L : List Nat} {vx bx : Nat → Nat} {pl : Nat → Int32} (hr : 0 < r.1.length) (hb : ∀ j, j < 9 → bx j = 0) : m_hd r L vx bx (upd pl 0 (-1)) (fun _ => 0) 1 := by
  refine ⟨hr, fun j hj => absurd hj (by omega), fun d hd => ?_, fun j hj => absurd hj (by omega), fun d _ => Nat.zero_le _, fun d hd x hx => ?_⟩
  · rw [show d = 0 by omega, pk_us]
    decide
  · rw [show d = 0 by omega, hb (x + 1) (by omega)]
    rfl
theorem m_hd_up {r : rk_Ru} {L : List Nat} {vx bx vz bz : Nat → Nat} {pl pl2 : Nat → Int32} {p : Nat → Nat} {d : Nat} (hok : ∀ j, j < r.1.length → rk_okP (rk_nth r j)) (h : m_hd r L vx bx pl p (d + 1)) (hv : ∀ x, x < 8 → 0 < rk_ocs r d x → vz (x + 1) = vx (x + 1)) (hb : ∀ x, x < 8 → bz (x + 1) = rk_ocs r d x) (hpl : ∀ j, j ≠ d → pl2 j = pl j) : m_hd r L vz bz pl2 (va_up p (d - 1) (p (d - 1) + 1)) d := by
  have hp := rk_pre_keep (fun j hj => hok j (by have := h.1; omega)) (m_hd_pre h) hv
  refine ⟨by have := h.1; omega, fun j hj => ?_, fun e he => ?_, fun j hj => ?_, fun e he => ?_, fun e he x hx => ?_⟩
  · rw [va_up_ne _ _ (by omega), hpl j (by omega)]
    exact h.2.1 j (by omega)
  · subst he
    show pl2 e = nI (va_up p e (p e + 1) e) + (-1)
    rw [va_up_self, pk_m1, hpl e (by omega)]
    exact h.2.1 e (by omega)
  · rw [va_up_ne _ _ (by omega)]
    exact ⟨(h.2.2.2.1 j (by omega)).1, hp j (by omega)⟩
  · subst he
    show va_up p e (p e + 1) e ≤ L.length
    rw [va_up_self]
    exact (h.2.2.2.1 e (by omega)).1
  · subst he
    show bz (x + 1) = rk_ocs r e x + if va_up p e (p e + 1) e = 0 then 0 else rk_oc (rk_nth r e) 3 x
    rw [va_up_self, if_neg (by omega), hb x hx]
    rfl
theorem m_hd_down {r : rk_Ru} {L : List Nat} {vx bx v3 b3 : Nat → Nat} {pl pl2 : Nat → Int32} {p : Nat → Nat} {d t : Nat} (hok : ∀ j, j < r.1.length → rk_okP (rk_nth r j)) (h : m_hd r L vx bx pl p (d + 1)) (hd : d + 1 < r.1.length) (ht : t < L.length) (hv : ∀ x, x < 8 → 0 < rk_ocs r d x → v3 (x + 1) = vx (x + 1)) (hin : rk_inst (rk_nth r d) (rk_as v3) = L.getD t 0) (hb : ∀ x, x < 8 → b3 (x + 1) = rk_ocs r d x + rk_oc (rk_nth r d) 3 x) (h1 : pl2 d = nI t) (h2 : pl2 (d + 1) = -1) (hpl : ∀ j, j ≠ d → j ≠ d + 1 → pl2 j = pl j) : m_hd r L v3 b3 pl2 (va_up (va_up p d t) (d + 1) 0) (d + 2) := by
  have hp := rk_pre_keep (fun j hj => hok j (by have := h.1; omega)) (m_hd_pre h) hv
  refine ⟨by omega, fun j hj => ?_, fun e he => ?_, fun j hj => ?_, fun e he => ?_, fun e he x hx => ?_⟩
  · rw [va_up_ne _ _ (by omega)]
    by_cases e : j = d
    · rw [e, va_up_self]
      exact h1
    · rw [va_up_ne _ _ e, hpl j e (by omega)]
      exact h.2.1 j (by omega)
  · rw [show e = d + 1 by omega, va_up_self, h2]
    decide
  · rw [va_up_ne _ _ (by omega)]
    by_cases e : j = d
    · rw [e, va_up_self]
      exact ⟨ht, hin⟩
    · rw [va_up_ne _ _ e]
      exact ⟨(h.2.2.2.1 j (by omega)).1, hp j (by omega)⟩
  · rw [show e = d + 1 by omega, va_up_self]
    exact Nat.zero_le _
  · rw [show e = d + 1 by omega, va_up_self, if_pos rfl, hb x hx]
    rfl
theorem m_hd_give {r : rk_Ru} {L N' : List Nat} {vx bx v3 b3 : Nat → Nat} {pl pl2 : Nat → Int32} {p : Nat → Nat} {d t : Nat} (hok : ∀ j, j < r.1.length → rk_okP (rk_nth r j)) (h : m_hd r L vx bx pl p (d + 1)) (ht : t < L.length) (hv : ∀ x, x < 8 → 0 < rk_ocs r d x → v3 (x + 1) = vx (x + 1)) (hb : ∀ x, x < 8 → b3 (x + 1) = rk_ocs r d x + rk_oc (rk_nth r d) 3 x) (h1 : pl2 d = nI t) (hpl : ∀ j, j ≠ d → pl2 j = pl j) : m_hd r (L ++ N') v3 b3 pl2 (va_up p d (t + 1)) (d + 1) := by
  have hp := rk_pre_keep (fun j hj => hok j (by have := h.1; omega)) (m_hd_pre h) hv
  refine ⟨h.1, fun j hj => ?_, fun e he => ?_, fun j hj => ?_, fun e he => ?_, fun e he x hx => ?_⟩
  · rw [va_up_ne _ _ (by omega), hpl j (by omega)]
    exact h.2.1 j hj
  · rw [show e = d by omega, va_up_self, pk_m1]
    exact h1
  · have h3 := h.2.2.2.1 j hj
    rw [va_up_ne _ _ (by omega), List.length_append, rk_getD_app h3.1]
    exact ⟨by omega, hp j (by omega)⟩
  · rw [show e = d by omega, va_up_self, List.length_append]
    omega
  · rw [show e = d by omega, va_up_self, if_neg (by omega)]
    exact hb x hx
theorem rk_m1_0 {q : Nat} (h : q < 2 ^ 31) : nI q + (-1) < 0 ↔ q = 0 := by
  cases q with
  | zero => exact ⟨fun _ => rfl, fun _ => by decide⟩
  | succ q =>
    rw [pk_m1]
    exact ⟨fun g => absurd g (nI_pos (by omega)), fun g => by omega⟩
theorem rk_m1p1 (x : Int32) : x + (-1) + 1 = x := by rw [Int32.add_assoc, show ((-1 : Int32) + 1) = 0 by decide, Int32.add_zero]
theorem m_row_s {cI cZ : ClassId} {ad : Nat → Nat} {cw cw1 : Nat → va_E} {ru dn : Nat} {L : List Nat} (h : m_row cI cZ ad cw ru dn L) (e0 : cw1 0 = cw 0) (e2 : cw1 2 = cw 2) (e4 : cw1 4 = cw 4) : m_row cI cZ ad cw1 ru dn L := by
  obtain ⟨h0, ⟨rw0, h4, hrow⟩, ⟨Hd, h2, hHd⟩, hr⟩ := h
  exact ⟨e0.trans h0, ⟨rw0, e4.trans h4, hrow⟩, ⟨Hd, e2.trans h2, hHd⟩, hr⟩
theorem rk_okR_nth {r : rk_Ru} (h : rk_okR r) : ∀ j, j < r.1.length → rk_okP (rk_nth r j) := fun j hj => h.2.2.1 _ (rk_nth_mem hj)
