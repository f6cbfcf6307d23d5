/-- a node of the class and its place j in the reference's rows; terms up to B -/
def NR (B j : Nat) (x : Nd) (r : Rn) : Prop :=
  (∃ c : Nat, c ≤ 64 ∧ x.1 = nI c ∧ r.2.1 j = nI c ∧ ∀ i, i < c → x.2.2.2.2.2.2.2.1 i = r.2.2.2.2.2.2.2.1 (64 * j + i) ∧ x.2.2.2.2.2.2.2.2.1 i = r.2.2.2.2.2.2.2.2.1 (64 * j + i) ∧ x.2.2.2.2.2.2.2.2.2 i = r.2.2.2.2.2.2.2.2.2 (64 * j + i)) ∧
  (x.2.1 = r.1 j ∧ ∃ t : Nat, t ≤ B ∧ x.2.1 = nI t) ∧
  ((x.2.2.1 = 1 ∧ r.2.2.1 j = 0) ∨ (x.2.2.1 = 0 ∧ r.2.2.1 j = 1 ∧ x.2.2.2.1 = 0)) ∧
  (x.2.2.2.1 = r.2.2.2.1 j ∧ (x.2.2.2.1 = 0 ∨ x.2.2.2.1 = 1)) ∧
  x.2.2.2.2.1 = r.2.2.2.2.1 j ∧ x.2.2.2.2.2.1 = r.2.2.2.2.2.1 j ∧ x.2.2.2.2.2.2.1 = r.2.2.2.2.2.2.1 j
/-- the reference's rows are the same at the place j -/
def RE (r r' : Rn) (j : Nat) : Prop :=
  r'.1 j = r.1 j ∧ r'.2.1 j = r.2.1 j ∧ r'.2.2.1 j = r.2.2.1 j ∧ r'.2.2.2.1 j = r.2.2.2.1 j ∧ r'.2.2.2.2.1 j = r.2.2.2.2.1 j ∧ r'.2.2.2.2.2.1 j = r.2.2.2.2.2.1 j ∧ r'.2.2.2.2.2.2.1 j = r.2.2.2.2.2.2.1 j ∧
  ∀ i, i < 64 → r'.2.2.2.2.2.2.2.1 (64 * j + i) = r.2.2.2.2.2.2.2.1 (64 * j + i) ∧ r'.2.2.2.2.2.2.2.2.1 (64 * j + i) = r.2.2.2.2.2.2.2.2.1 (64 * j + i) ∧ r'.2.2.2.2.2.2.2.2.2 (64 * j + i) = r.2.2.2.2.2.2.2.2.2 (64 * j + i)
theorem RE.rf (r : Rn) (j : Nat) : RE r r j := ⟨rfl, rfl, rfl, rfl, rfl, rfl, rfl, fun _ _ => ⟨rfl, rfl, rfl⟩⟩
theorem RE.tr {r s t : Rn} {j : Nat} (h : RE r s j) (k : RE s t j) : RE r t j := by
  obtain ⟨a1, a2, a3, a4, a5, a6, a7, a8⟩ := h
  obtain ⟨b1, b2, b3, b4, b5, b6, b7, b8⟩ := k
  exact ⟨b1.trans a1, b2.trans a2, b3.trans a3, b4.trans a4, b5.trans a5, b6.trans a6, b7.trans a7, fun i hi => ⟨(b8 i hi).1.trans (a8 i hi).1, (b8 i hi).2.1.trans (a8 i hi).2.1, (b8 i hi).2.2.trans (a8 i hi).2.2⟩⟩
theorem NR.fr {B j : Nat} {x : Nd} {r r' : Rn} (h : NR B j x r) (e : RE r r' j) : NR B j x r' := by
  obtain ⟨⟨c, hc, h1, h2, h3⟩, ⟨h4, h5⟩, h6, ⟨h7, h8⟩, h9, h10, h11⟩ := h
  obtain ⟨a1, a2, a3, a4, a5, a6, a7, a8⟩ := e
  refine ⟨⟨c, hc, h1, a2.trans h2, fun i hi => ?_⟩, ⟨h4.trans a1.symm, h5⟩, ?_, ⟨h7.trans a4.symm, h8⟩, h9.trans a5.symm, h10.trans a6.symm, h11.trans a7.symm⟩
  · obtain ⟨g1, g2, g3⟩ := h3 i hi
    obtain ⟨k1, k2, k3⟩ := a8 i (by omega)
    exact ⟨g1.trans k1.symm, g2.trans k2.symm, g3.trans k3.symm⟩
  · rcases h6 with ⟨g1, g2⟩ | ⟨g1, g2, g3⟩
    · exact Or.inl ⟨g1, a3.trans g2⟩
    · exact Or.inr ⟨g1, a3.trans g2, g3⟩
theorem NR.mono {B B' j : Nat} {x : Nd} {r : Rn} (h : NR B j x r) (hB : B ≤ B') : NR B' j x r := by
  obtain ⟨h1, ⟨h4, t, ht, h5⟩, h6⟩ := h
  exact ⟨h1, ⟨h4, t, by omega, h5⟩, h6⟩
theorem NR.ok {B j : Nat} {x : Nd} {r : Rn} (h : NR B j x r) : NdOk x := by
  obtain ⟨⟨c, hc, h1, -⟩, -⟩ := h
  exact ⟨c, hc, h1⟩
theorem sw_sim {B j : Nat} {x : Nd} {r : Rn} (hj : j < 2) (h : NR B j x r) : (f_n_startWrite x).1 = (f_m_writes r (nI j)).1 ∧ NR B j (f_n_startWrite x).2 (f_m_writes r (nI j)).2 := by
  obtain ⟨h1, h4, h6, h7, h9, h10, h11⟩ := h
  unfold f_n_startWrite f_m_writes
  rw [nI_clamp (show j < 2 ^ 31 by omega), h10]
  by_cases g0 : r.2.2.2.2.2.1 j = 0
  · simp only [if_pos g0]
    exact ⟨by trivial, h1, h4, Or.inr ⟨rfl, pk_us, rfl⟩, ⟨pk_us.symm, Or.inl rfl⟩, h9, pk_us.symm, h11⟩
  · by_cases g1 : r.2.2.2.2.2.1 j ≤ 0
    · simp only [if_neg g0, if_pos g1]
      exact ⟨by trivial, h1, h4, h6, h7, h9, pk_us.symm, by show x.2.2.2.2.2.2.1 + 1 = upd r.2.2.2.2.2.2.1 j (r.2.2.2.2.2.2.1 j + 1) j; rw [pk_us, h11]⟩
    · simp only [if_neg g0, if_neg g1]
      exact ⟨by trivial, h1, h4, h6, h7, h9, pk_us.symm, by show x.2.2.2.2.2.2.1 + 1 = upd r.2.2.2.2.2.2.1 j (r.2.2.2.2.2.2.1 j + 1) j; rw [pk_us, h11]⟩
theorem wr_fr {j i : Nat} (r : Rn) (hj : j < 2) (hne : i ≠ j) : RE r (f_m_writes r (nI j)).2 i := by
  unfold f_m_writes
  rw [nI_clamp (show j < 2 ^ 31 by omega)]
  by_cases g0 : r.2.2.2.2.2.1 j = 0
  · simp only [if_pos g0]
    exact ⟨rfl, rfl, pk_un hne, pk_un hne, rfl, pk_un hne, rfl, fun _ _ => ⟨rfl, rfl, rfl⟩⟩
  · by_cases g1 : r.2.2.2.2.2.1 j ≤ 0
    · simp only [if_neg g0, if_pos g1]
      exact ⟨rfl, rfl, rfl, rfl, rfl, pk_un hne, pk_un hne, fun _ _ => ⟨rfl, rfl, rfl⟩⟩
    · simp only [if_neg g0, if_neg g1]
      exact ⟨rfl, rfl, rfl, rfl, rfl, pk_un hne, pk_un hne, fun _ _ => ⟨rfl, rfl, rfl⟩⟩
theorem ct_sim {B j d : Nat} {x : Nd} {r : Rn} (hj : j < 2) (h : NR B j x r) (hd : d ≤ 64) (hl : nI d ≤ x.1) : (f_n_cutTo x (nI d)).1 = (f_m_cutTo r (nI j) (nI d)).1 ∧ NR B j (f_n_cutTo x (nI d)).2 (f_m_cutTo r (nI j) (nI d)).2 := by
  obtain ⟨e1, k⟩ := sw_sim hj h
  have hlen := sw_len x
  unfold f_n_cutTo f_m_cutTo
  rw [nI_clamp (show j < 2 ^ 31 by omega)]
  by_cases g : (f_m_writes r (nI j)).1 = 0
  · simp only [e1, if_pos g]
    exact ⟨by trivial, k⟩
  · simp only [e1, if_neg g]
    obtain ⟨⟨c, hc, h1, h2, h3⟩, hr⟩ := k
    rw [← hlen, h1, nI_leI (by omega) (by omega)] at hl
    exact ⟨by trivial, ⟨d, hd, rfl, pk_us, fun i hi => h3 i (by omega)⟩, hr⟩
theorem ct_fr {j i : Nat} (r : Rn) (d : Int32) (hj : j < 2) (hne : i ≠ j) : RE r (f_m_cutTo r (nI j) d).2 i := by
  have k := wr_fr r hj hne
  unfold f_m_cutTo
  rw [nI_clamp (show j < 2 ^ 31 by omega)]
  by_cases g : (f_m_writes r (nI j)).1 = 0
  · simp only [if_pos g]; exact k
  · simp only [if_neg g]
    obtain ⟨a1, a2, a3⟩ := k
    exact ⟨a1, (pk_un hne).trans a2, a3⟩
theorem bt_sim {B j t : Nat} {x : Nd} {r : Rn} (hj : j < 2) (h : NR B j x r) (ht : t ≤ B) : (f_n_changeTerm x (nI t)).1 = (f_m_becomeTerm r (nI j) (nI t)).1 ∧ NR B j (f_n_changeTerm x (nI t)).2 (f_m_becomeTerm r (nI j) (nI t)).2 := by
  obtain ⟨e1, k⟩ := sw_sim hj h
  unfold f_n_changeTerm f_m_becomeTerm
  rw [nI_clamp (show j < 2 ^ 31 by omega)]
  by_cases g : (f_m_writes r (nI j)).1 = 0
  · simp only [e1, if_pos g]
    exact ⟨by trivial, k⟩
  · simp only [e1, if_neg g]
    obtain ⟨hr1, hr2, hr⟩ := k
    exact ⟨by trivial, hr1, ⟨pk_us.symm, t, ht, rfl⟩, hr⟩
theorem bt_fr {j i : Nat} (r : Rn) (t : Int32) (hj : j < 2) (hne : i ≠ j) : RE r (f_m_becomeTerm r (nI j) t).2 i := by
  have k := wr_fr r hj hne
  unfold f_m_becomeTerm
  rw [nI_clamp (show j < 2 ^ 31 by omega)]
  by_cases g : (f_m_writes r (nI j)).1 = 0
  · simp only [if_pos g]; exact k
  · simp only [if_neg g]
    obtain ⟨a1, a3⟩ := k
    exact ⟨(pk_un hne).trans a1, a3⟩
theorem ix_ent {j c : Nat} (hj : j < 2) (hc : c < 64) : ((64 * nI j) + nI c).toNatClampNeg = 64 * j + c := by
  rw [show (64 : Int32) = nI 64 from rfl, pk_mul, nI_add, nI_clamp (by omega)]
theorem ap_sim {B j : Nat} {x : Nd} {r : Rn} (hj : j < 2) (h : NR B j x r) (hl : ¬ 64 ≤ x.1) (a b v : Int32) : (f_n_append x a b v).1 = (f_m_putBehind r (nI j) a b v).1 ∧ NR B j (f_n_append x a b v).2 (f_m_putBehind r (nI j) a b v).2 := by
  obtain ⟨e1, k⟩ := sw_sim hj h
  have hlen := sw_len x
  unfold f_n_append f_m_putBehind
  simp only [if_neg hl]
  rw [nI_clamp (show j < 2 ^ 31 by omega)]
  by_cases g : (f_m_writes r (nI j)).1 = 0
  · simp only [e1, if_pos g]
    exact ⟨by trivial, k⟩
  · simp only [e1, if_neg g]
    obtain ⟨⟨c, hc, h1, h2, h3⟩, hr⟩ := k
    have hc64 : c < 64 := by
      rcases Nat.lt_or_ge c 64 with q | q
      · exact q
      · exact absurd (by rw [← hlen, h1]; exact nI_le (a := 64) q (by omega)) hl
    rw [h1, h2, ix_ent hj hc64, nI_clamp (show c < 2 ^ 31 by omega)]
    refine ⟨by trivial, ⟨c + 1, by omega, nI_1 c, by show upd _ _ _ j = _; rw [pk_us]; exact nI_1 c, fun i hi => ?_⟩, hr⟩
    by_cases hic : i = c
    · subst hic
      exact ⟨pk_us.trans pk_us.symm, pk_us.trans pk_us.symm, pk_us.trans pk_us.symm⟩
    · obtain ⟨g1, g2, g3⟩ := h3 i (by omega)
      exact ⟨((pk_un hic).trans g1).trans (pk_un (by omega)).symm, ((pk_un hic).trans g2).trans (pk_un (by omega)).symm, ((pk_un hic).trans g3).trans (pk_un (by omega)).symm⟩
theorem pb_fr {j i c : Nat} (r : Rn) (a b v : Int32) (hj : j < 2) (hi : i < 2) (hne : i ≠ j) (hc : c < 64) (hl : r.2.1 j = nI c) : RE r (f_m_putBehind r (nI j) a b v).2 i := by
  have k := wr_fr r hj hne
  have hlen : (f_m_writes r (nI j)).2.2.1 = r.2.1 := wr_lens r (nI j)
  unfold f_m_putBehind
  rw [nI_clamp (show j < 2 ^ 31 by omega)]
  by_cases g : (f_m_writes r (nI j)).1 = 0
  · simp only [if_pos g]; exact k
  · simp only [if_neg g]
    rw [hlen, hl, ix_ent hj hc]
    obtain ⟨a1, a2, a3, a4, a5, a6, a7, a8⟩ := k
    refine ⟨a1, (pk_un hne), a3, a4, a5, a6, a7, fun q hq => ?_⟩
    obtain ⟨g1, g2, g3⟩ := a8 q hq
    exact ⟨(pk_un (by omega)).trans g1, (pk_un (by omega)).trans g2, (pk_un (by omega)).trans g3⟩
