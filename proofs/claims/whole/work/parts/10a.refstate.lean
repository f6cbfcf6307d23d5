/-- the reference's two rows of nodes: terms, lengths, down, primary, agreed, fuses, writes; entries: terms, keys, values -/
abbrev Rn : Type := (Nat → Int32) × (Nat → Int32) × (Nat → Int32) × (Nat → Int32) × (Nat → Int32) × (Nat → Int32) × (Nat → Int32) × (Nat → Int32) × (Nat → Int32) × (Nat → Int32)
/-- the reference's link: how many, the messages -/
abbrev Rq : Type := Int32 × (Nat → Int32)
def RlOk (x : Rn) : Prop := ∀ j, ∃ k : Nat, k ≤ 64 ∧ x.2.1 j = nI k
theorem nar0 : vp_nar .boolean 0 = 0 := by decide +kernel
theorem nar1 : vp_nar .boolean 1 = 1 := by decide +kernel
theorem cl0 : (0 : Int32).toNatClampNeg = 0 := by decide +kernel
theorem cl1 : (1 : Int32).toNatClampNeg = 1 := by decide +kernel
theorem cl2 : (2 : Int32).toNatClampNeg = 2 := by decide +kernel
theorem cl3 : (3 : Int32).toNatClampNeg = 3 := by decide +kernel
theorem cl4 : (4 : Int32).toNatClampNeg = 4 := by decide +kernel
theorem cl5 : (5 : Int32).toNatClampNeg = 5 := by decide +kernel
theorem cl6 : (6 : Int32).toNatClampNeg = 6 := by decide +kernel
theorem cl7 : (7 : Int32).toNatClampNeg = 7 := by decide +kernel
theorem cl8 : (8 : Int32).toNatClampNeg = 8 := by decide +kernel
theorem vp_msg {m at_ c : Int32} (h : ∃ k : Nat, k < 16 ∧ m = nI k) (e : at_ = 9 * m) (hc : decide (0 ≤ c.toInt ∧ c.toInt < 9) = true) : vp_in (at_ + c) 144 := by
  obtain ⟨k, hk, rfl⟩ := h
  have hc := of_decide_eq_true hc
  obtain ⟨j, hj, rfl⟩ := vp_in_of (n := 9) (vp_in_iff.mpr hc) (by omega)
  rw [e, show (9 : Int32) = nI 9 from rfl, pk_mul, nI_add]
  exact vp_in_nI (by omega) (by omega)
theorem vp_msg0 {m at_ : Int32} (h : ∃ k : Nat, k < 16 ∧ m = nI k) (e : at_ = 9 * m) : vp_in at_ 144 := by
  obtain ⟨k, hk, rfl⟩ := h
  rw [e, show (9 : Int32) = nI 9 from rfl, pk_mul]
  exact vp_in_nI (by omega) (by omega)
theorem vp_ent {n l at_ : Int32} (hn : vp_in n 2) (h : ∃ k : Nat, k < 64 ∧ l = nI k) (e : at_ = (64 * n) + l) : vp_in at_ 128 := by
  obtain ⟨k, hk, rfl⟩ := h
  obtain ⟨j, hj, rfl⟩ := vp_in_of hn (by omega)
  rw [e, show (64 : Int32) = nI 64 from rfl, pk_mul, nI_add]
  exact vp_in_nI (by omega) (by omega)
theorem vp_entp {n l at_ : Int32} (hn : vp_in n 2) (h : ∃ k : Nat, k < 64 ∧ l = nI k) (e : at_ = (64 * n) + l) (h0 : ¬ l = 0) : vp_in (at_ - 1) 128 := by
  obtain ⟨k, hk, rfl⟩ := h
  obtain ⟨j, hj, rfl⟩ := vp_in_of hn (by omega)
  cases k with
  | zero => exact absurd nI_0 h0
  | succ k =>
    rw [e, show (64 : Int32) = nI 64 from rfl, pk_mul, nI_add, show 64 * j + (k + 1) = (64 * j + k) + 1 from rfl, nI_pred]
    exact vp_in_nI (by omega) (by omega)
theorem lt_of_ne {x : Int32} {n : Nat} (hn : n < 2 ^ 31) (h : ∃ k : Nat, k ≤ n ∧ x = nI k) (hne : ¬ x = nI n) : ∃ k : Nat, k < n ∧ x = nI k := by
  obtain ⟨k, hk, rfl⟩ := h
  refine ⟨k, ?_, rfl⟩
  rcases Nat.lt_or_ge k n with q | q
  · exact q
  · exact absurd (by rw [show k = n by omega]) hne
theorem num_ok {x i : Int32} {n : Nat} (hn : n < 2 ^ 31) (h : ∃ k : Nat, k ≤ n ∧ x = nI k) (h0 : ¬ i < 0) (h1 : ¬ x ≤ i) : ∃ k : Nat, k < n ∧ i = nI k := by
  obtain ⟨j, hj, e⟩ := vp_in_of (vp_len hn h h0 h1) hn
  exact ⟨j, hj, e⟩
theorem gt_ne {i : Int32} (h : ¬ i ≤ 0) : ¬ i = 0 := fun e => h (by rw [e]; decide)
