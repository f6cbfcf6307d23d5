/-- a node's fields that change (length, term, up, primary, agreed, fuseLeft, writes), its arrays (terms, keys, values) -/
abbrev Nd : Type := Int32 × Int32 × Int32 × Int32 × Int32 × Int32 × Int32 × (Nat → Int32) × (Nat → Int32) × (Nat → Int32)
/-- a message's fields -/
abbrev Ms : Type := Int32 × Int32 × Int32 × Int32 × Int32 × Int32 × Int32 × Int32 × Int32
/-- the link: count, the addresses in the slots, the spare's address, the messages by their addresses -/
abbrev Lk : Type := Int32 × (Nat → Nat) × Nat × (Nat → Ms)
abbrev msF (m : Ms) : List Value := [.int m.1, .int m.2.1, .int m.2.2.1, .int m.2.2.2.1, .int m.2.2.2.2.1, .int m.2.2.2.2.2.1, .int m.2.2.2.2.2.2.1, .int m.2.2.2.2.2.2.2.1, .int m.2.2.2.2.2.2.2.2]
abbrev fM (mf : Nat → Ms) : Nat → va_E := fun a => .inr (1, msF (mf a))
theorem fM_up {mf : Nat → Ms} {a : Nat} {e : va_E} {m : Ms} (h : e = .inr (1, msF m)) : va_up (fM mf) a e = fM (va_up mf a m) := by
  subst h
  funext b
  by_cases hb : b = a
  · subst hb
    simp [va_up]
  · simp [va_up, hb]
def NdOk (x : Nd) : Prop := ∃ k : Nat, k ≤ 64 ∧ x.1 = nI k
def LkOk (L : List Nat) (x : Lk) : Prop := (∃ k : Nat, k ≤ 16 ∧ x.1 = nI k) ∧ (∀ j, x.2.1 j ∈ L) ∧ x.2.2.1 ∈ L
theorem vp_lit {i : Int32} {n : Nat} (h : decide (0 ≤ i.toInt ∧ i.toInt < (n : Int)) = true) : vp_in i n := vp_in_iff.mpr (of_decide_eq_true h)
/-- an index between 0 and a length that is at most n -/
theorem vp_len {i x : Int32} {n : Nat} (hn : n < 2 ^ 31) (h : ∃ k : Nat, k ≤ n ∧ x = nI k) (h0 : ¬ i < 0) (h1 : ¬ x ≤ i) : vp_in i n := by
  obtain ⟨k, hk, rfl⟩ := h
  rw [vp_in_iff]
  rw [Int32.lt_iff_toInt_lt, Int32.toInt_zero] at h0
  rw [Int32.le_iff_toInt_le, nI_toInt (by omega)] at h1
  omega
