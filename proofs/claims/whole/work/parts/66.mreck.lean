/-! reckoning anew -/
theorem rk_m1_le {n b : Nat} (hn : n ≤ 300) (hb : b ≤ n + 1) : nI n ≤ nI b + (-1) ↔ b = n + 1 := by
  cases b with
  | zero =>
    refine ⟨fun g => ?_, fun g => by omega⟩
    have h1 : nI 0 + (-1) < 0 := by decide
    have h2 : (0 : Int32) ≤ nI n := nI_pos' (by omega)
    exact absurd (Int32.le_trans h2 g) (fun z => rk_nlt z h1)
  | succ b =>
    rw [pk_m1, nI_leI (by omega) (by omega)]
    omega
theorem rk_gen_trans {L K : List Nat} {rs : List rk_Ru} {z : Nat} (hK : ∀ k, k ∈ K → rk_gen L rs k) (h : rk_gen K rs z) : rk_gen L rs z := fun X h1 h2 => h X (fun k hk => hK k hk X h1 h2) h2
def rk_mc (b n : Nat) : Nat := 2 * n + if b = n + 1 then 1 else 0
theorem rk_mc_le {b n : Nat} (h : n ≤ 300) : rk_mc b n ≤ 601 := by
  unfold rk_mc
  split <;> omega
theorem rk_mc_lt {b n k : Nat} (h : ¬ b = n + 1) : rk_mc b n < rk_mc (n + 1) (n + k) := by
  unfold rk_mc
  rw [if_neg h]
  split <;> omega
theorem rk_said_much {said : Nat → Bool} {rs : List rk_Ru} {L : List Nat} {k : Nat} (hn : L.Nodup) (h3 : L.length = 300) (hs : ∀ j, j ∈ L → said j = true) (hk : k ∉ L) (hsk : said k = true) : rk_much said rs :=
  ⟨L ++ [k], rk_nodup1 hn hk, by rw [List.length_append, h3]; exact Nat.lt_succ_self 300, fun z hz => (List.mem_append.mp hz).elim (fun h => rk_lfp_said (hs z h)) (fun h => by rw [List.mem_singleton.mp h]; exact rk_lfp_said hsk)⟩
def m_s8 (cI : ClassId) (cw : Nat → va_E) : Prop := (∃ v : Nat → Nat, cw 8 = .inl (cI, 9, .inl (rk_nf v)) ∧ ∀ i, v i < 32) ∧ (∃ b : Nat → Nat, cw 9 = .inl (cI, 9, .inl (rk_nf b))) ∧ ∃ q : Nat → Int32, cw 10 = .inl (cI, 3, .inl q)
theorem m_s8_s {cI : ClassId} {cw cw1 : Nat → va_E} (h : m_s8 cI cw) (e8 : cw1 8 = cw 8) (e9 : cw1 9 = cw 9) (e10 : cw1 10 = cw 10) : m_s8 cI cw1 := by
  obtain ⟨⟨v, h1, h2⟩, ⟨b, h3⟩, q, h4⟩ := h
  exact ⟨⟨v, e8.trans h1, h2⟩, ⟨b, e9.trans h3⟩, q, e10.trans h4⟩
