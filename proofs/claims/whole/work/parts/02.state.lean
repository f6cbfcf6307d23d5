/-- a node's fields that change (length, term, up, primary, agreed, fuseLeft, writes), its arrays (terms, keys, values) -/
abbrev Nd : Type := Int32 × Int32 × Int32 × Int32 × Int32 × Int32 × Int32 × (Nat → Int32) × (Nat → Int32) × (Nat → Int32)
/-- a message's fields -/
abbrev Ms : Type := Int32 × Int32 × Int32 × Int32 × Int32 × Int32 × Int32 × Int32 × Int32
/-- the link: count, the addresses in the slots, the spare's address, the messages by their addresses -/
abbrev Lk : Type := Int32 × (Nat → Nat) × Nat × (Nat → Ms)
abbrev msF (m : Ms) : List Value := [.int m.1, .int m.2.1, .int m.2.2.1, .int m.2.2.2.1, .int m.2.2.2.2.1, .int m.2.2.2.2.2.1, .int m.2.2.2.2.2.2.1, .int m.2.2.2.2.2.2.2.1, .int m.2.2.2.2.2.2.2.2]
abbrev fM (mf : Nat → Ms) : Nat → va_E := fun a => .inr (1, msF (mf a))
theorem fM_up {mf : Nat → Ms} {a : Nat} {e : va_E} {m : Ms} (h : e = .inr (1, msF m)) : va_up (fM mf) a e = fM (va_up mf a m) := by
  subst h
  funext b
  by_cases hb : b = a
  · subst hb
    simp [va_up]
  · simp [va_up, hb]
theorem fM_P {D : va_G} {cl : List vw_C} {X : va_W} {L : List Nat} {mf : Nat → Ms} {a : Nat} {e : va_E} {m : Ms} {H : Heap} (hP : va_P D cl (X ++ va_pl L (va_up (fM mf) a e)) H) (h : e = .inr (1, msF m)) : va_P D cl (X ++ va_pl L (fM (va_up mf a m))) H := by
  rw [fM_up h] at hP
  exact hP
theorem fM_D {A : Nat → Prop} {X : va_W} {L : List Nat} {mf : Nat → Ms} {a : Nat} {e : va_E} {m : Ms} (hD : va_D A (X ++ va_pl L (va_up (fM mf) a e))) (h : e = .inr (1, msF m)) : va_D A (X ++ va_pl L (fM (va_up mf a m))) := by
  rw [fM_up h] at hD
  exact hD
theorem fM_at (mf : Nat → Ms) (a : Nat) (m : Ms) : fM (va_up mf a m) a = .inr (1, msF m) := by
  show Sum.inr (1, msF (va_up mf a m a)) = _
  rw [va_up_self]
def NdOk (x : Nd) : Prop := ∃ k : Nat, k ≤ 64 ∧ x.1 = nI k
def LkOk (L : List Nat) (x : Lk) : Prop := (∃ k : Nat, k ≤ 16 ∧ x.1 = nI k) ∧ (∀ j, x.2.1 j ∈ L) ∧ x.2.2.1 ∈ L
theorem vp_lit {i : Int32} {n : Nat} (h : decide (0 ≤ i.toInt ∧ i.toInt < (n : Int)) = true) : vp_in i n := vp_in_iff.mpr (of_decide_eq_true h)
/-- an index between 0 and a length that is at most n -/
theorem vp_len {i x : Int32} {n : Nat} (hn : n < 2 ^ 31) (h : ∃ k : Nat, k ≤ n ∧ x = nI k) (h0 : ¬ i < 0) (h1 : ¬ x ≤ i) : vp_in i n := by
  obtain ⟨k, hk, rfl⟩ := h
  rw [vp_in_iff]
  rw [Int32.lt_iff_toInt_lt, Int32.toInt_zero] at h0
  rw [Int32.le_iff_toInt_le, nI_toInt (by omega)] at h1
  omega
theorem i_ne {x : Int32} (k : Int32) (h : ¬ x = k) : x.toInt ≠ k.toInt := fun q => h (Int32.toInt_inj.mp q)
theorem vp_pred {i : Int32} {n : Nat} (hn : n < 2 ^ 31) (h : vp_in i n) (h0 : ¬ i ≤ 0) : vp_in (i - 1) n := by
  obtain ⟨j, hj, rfl⟩ := vp_in_of h hn
  cases j with
  | zero => exact absurd (by decide) h0
  | succ j => rw [nI_pred]; exact vp_in_nI (by omega) hn
