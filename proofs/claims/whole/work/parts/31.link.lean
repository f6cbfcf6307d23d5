/-- a message of the class, and its nine places in the reference -/
def MR (B : Nat) (m : Ms) (w : Nat → Int32) : Prop :=
  m.1 = w 0 ∧ m.2.1 = w 1 ∧ m.2.2.1 = w 2 ∧ m.2.2.2.1 = w 3 ∧ (m.1 = 1 ∨ m.1 = 2 ∨ m.1 = 3) ∧ (m.2.1 = 0 ∨ m.2.1 = 1) ∧ (∃ t : Nat, t ≤ B ∧ m.2.2.1 = nI t) ∧
  (m.1 = 1 → (m.2.2.2.2.1 = w 4 ∧ m.2.2.2.2.2.1 = w 5 ∧ m.2.2.2.2.2.2.1 = w 6 ∧ m.2.2.2.2.2.2.2.1 = w 7 ∧ m.2.2.2.2.2.2.2.2 = w 8) ∧ (∃ k : Nat, k < 64 ∧ m.2.2.2.1 = nI k) ∧ ∃ k : Nat, k ≤ 64 ∧ m.2.2.2.2.2.2.2.2 = nI k)
theorem MR.cg {B : Nat} {m : Ms} {w w' : Nat → Int32} (h : MR B m w) (e : ∀ f, f < 9 → w' f = w f) : MR B m w' := by
  obtain ⟨h0, h1, h2, h3, h4, h5, h6, h7⟩ := h
  refine ⟨h0.trans (e 0 (by omega)).symm, h1.trans (e 1 (by omega)).symm, h2.trans (e 2 (by omega)).symm, h3.trans (e 3 (by omega)).symm, h4, h5, h6, fun q => ?_⟩
  obtain ⟨⟨a1, a2, a3, a4, a5⟩, a6⟩ := h7 q
  exact ⟨⟨a1.trans (e 4 (by omega)).symm, a2.trans (e 5 (by omega)).symm, a3.trans (e 6 (by omega)).symm, a4.trans (e 7 (by omega)).symm, a5.trans (e 8 (by omega)).symm⟩, a6⟩
theorem MR.mono {B B' : Nat} {m : Ms} {w : Nat → Int32} (h : MR B m w) (hB : B ≤ B') : MR B' m w := by
  obtain ⟨h0, h1, h2, h3, h4, h5, ⟨t, ht, h6⟩, h7⟩ := h
  exact ⟨h0, h1, h2, h3, h4, h5, ⟨t, by omega, h6⟩, h7⟩
/-- the two links -/
def LR (L : List Nat) (B : Nat) (k : Lk) (q : Rq) : Prop :=
  GOk L k.2.1 k.2.2.1 ∧ ∃ c : Nat, c ≤ 16 ∧ k.1 = nI c ∧ q.1 = nI c ∧ ∀ i, i < c → MR B (k.2.2.2 (k.2.1 i)) (fun f => q.2 (9 * i + f))
theorem LR.mono {L : List Nat} {B B' : Nat} {k : Lk} {q : Rq} (h : LR L B k q) (hB : B ≤ B') : LR L B' k q := by
  obtain ⟨h1, c, h2, h3, h4, h5⟩ := h
  exact ⟨h1, c, h2, h3, h4, fun i hi => (h5 i hi).mono hB⟩
theorem LR.ok {L : List Nat} {B : Nat} {k : Lk} {q : Rq} (h : LR L B k q) : LkOk L k := by
  obtain ⟨⟨h1, h2, -⟩, c, h3, h4, -⟩ := h
  exact ⟨⟨c, h3, h4⟩, h1, h2⟩
theorem LR.many {L : List Nat} {B : Nat} {k : Lk} {q : Rq} (h : LR L B k q) : ∃ c : Nat, c ≤ 16 ∧ q.1 = nI c := by
  obtain ⟨-, c, h3, -, h5, -⟩ := h
  exact ⟨c, h3, h5⟩
/-- the spare message stays -/
def KP (k k' : Lk) : Prop := k'.2.2.1 = k.2.2.1 ∧ k'.2.2.2 k.2.2.1 = k.2.2.2 k.2.2.1
theorem KP.rf (k : Lk) : KP k k := ⟨rfl, rfl⟩
theorem ix_msg {c f : Nat} (hc : c < 16) (hf : f < 9) : ((9 * nI c) + nI f).toNatClampNeg = 9 * c + f := by
  rw [show (9 : Int32) = nI 9 from rfl, pk_mul, nI_add, nI_clamp (by omega)]
theorem ix_msg0 {c : Nat} (hc : c < 16) : (9 * nI c).toNatClampNeg = 9 * c := by
  rw [show (9 : Int32) = nI 9 from rfl, pk_mul, nI_clamp (by omega)]
theorem up_1 {j : Nat} (hj : j < 2) : (1 : Int32) - nI j = 0 ∨ (1 : Int32) - nI j = 1 := by
  rcases (show j = 0 ∨ j = 1 by omega) with rfl | rfl
  · exact Or.inr rfl
  · exact Or.inl rfl
theorem full_iff {c : Nat} (hc : c ≤ 16) {k : Lk} (e : k.1 = nI c) : f_k_isFull k = 0 ↔ c < 16 := by
  unfold f_k_isFull
  rw [e]
  by_cases h : c < 16
  · have hh : nI c < (16 : Int32) := (nI_ltI (b := 16) (by omega) (by omega)).mpr h
    rw [if_pos hh]; simp [h]
  · have hh : ¬ nI c < (16 : Int32) := fun q => h ((nI_ltI (b := 16) (by omega) (by omega)).mp q)
    rw [if_neg hh]; simp [h]
theorem ne16 {c : Nat} (hc : c < 16) : ¬ nI c = 16 := fun q => by
  have := (nI_eq (b := 16) (by omega) (by omega)).mp q
  omega
/-- one more message on both links -/
theorem add_sim {L : List Nat} {B c : Nat} {k : Lk} {q : Rq} {m : Ms} {M : Nat → Int32} (hg : GOk L k.2.1 k.2.2.1) (hc : c < 16) (h : ∀ i, i < c → MR B (k.2.2.2 (k.2.1 i)) (fun f => q.2 (9 * i + f))) (hM : ∀ n, n < 9 * c → M n = q.2 n) (hm : MR B m (fun f => M (9 * c + f))) (mf : Nat → Ms) (hmf : ∀ a, a ≠ k.2.1 c → mf a = k.2.2.2 a) (hmc : mf (k.2.1 c) = m) : LR L B (nI c + 1, k.2.1, k.2.2.1, mf) (nI c + 1, M) ∧ KP k (nI c + 1, k.2.1, k.2.2.1, mf) := by
  obtain ⟨g1, g2, g3, g4⟩ := hg
  refine ⟨⟨⟨g1, g2, g3, g4⟩, c + 1, by omega, nI_1 c, nI_1 c, fun i hi => ?_⟩, rfl, hmf _ (fun e => g4 c hc e.symm)⟩
  by_cases hic : i = c
  · subst hic
    show MR B (mf (k.2.1 i)) _
    rw [hmc]
    exact hm
  · show MR B (mf (k.2.1 i)) _
    rw [hmf _ (fun e => hic (g3 i c (by omega) hc e))]
    exact (h i (by omega)).cg (fun f hf => hM _ (by omega))
theorem sd_sim {L : List Nat} {B j : Nat} {k : Lk} {q : Rq} {v : Nd} {r : Rn} {kd num : Int32} (hj : j < 2) (h : LR L B k q) (hn : NR B j v r) (hkd : kd = 2 ∨ kd = 3) : LR L B (f_k_send (nI j) v k kd num).2 (f_m_send r q (nI j) kd num) ∧ KP k (f_k_send (nI j) v k kd num).2 := by
  have h0 := h
  obtain ⟨hg, c, hc, e1, e2, hm⟩ := h
  have hk1 : ¬ kd = 1 := by rcases hkd with rfl | rfl <;> decide
  unfold f_k_send f_m_send
  by_cases hf : c < 16
  · have hff := (full_iff hc e1).mpr hf
    simp only [if_pos hff, e1, e2, if_neg (ne16 hf), if_neg hk1]
    rw [nI_clamp (show c < 2 ^ 31 by omega), nI_clamp (show j < 2 ^ 31 by omega)]
    have i0 := ix_msg0 hf
    have i1 : ((9 * nI c) + 1).toNatClampNeg = 9 * c + 1 := ix_msg hf (f := 1) (by omega)
    have i2 : ((9 * nI c) + 2).toNatClampNeg = 9 * c + 2 := ix_msg hf (f := 2) (by omega)
    have i3 : ((9 * nI c) + 3).toNatClampNeg = 9 * c + 3 := ix_msg hf (f := 3) (by omega)
    have i4 : ((9 * nI c) + 4).toNatClampNeg = 9 * c + 4 := ix_msg hf (f := 4) (by omega)
    have i5 : ((9 * nI c) + 5).toNatClampNeg = 9 * c + 5 := ix_msg hf (f := 5) (by omega)
    have i6 : ((9 * nI c) + 6).toNatClampNeg = 9 * c + 6 := ix_msg hf (f := 6) (by omega)
    have i7 : ((9 * nI c) + 7).toNatClampNeg = 9 * c + 7 := ix_msg hf (f := 7) (by omega)
    have i8 : ((9 * nI c) + 8).toNatClampNeg = 9 * c + 8 := ix_msg hf (f := 8) (by omega)
    rw [i0, i1, i2, i3, i4, i5, i6, i7, i8]
    obtain ⟨-, ⟨ht, t, htB, hte⟩, -⟩ := hn
    refine add_sim hg hf hm (fun n hn => ?_) ?_ _ (fun a ha => va_up_ne _ _ ha) (va_up_self _ _ _)
    · repeat rw [pk_un (by omega)]
    · refine ⟨?_, ?_, ?_, ?_, Or.inr hkd, up_1 hj, ⟨t, htB, hte⟩, fun z => absurd z hk1⟩
      · simp [upd]
      · simp [upd]
      · simp [upd, ht]
      · simp [upd]
  · have hc16 : c = 16 := by omega
    have hff : ¬ f_k_isFull k = 0 := fun z => hf ((full_iff hc e1).mp z)
    have hq : q.1 = 16 := by rw [e2, hc16]; rfl
    simp only [if_neg hff, if_pos hq]
    exact ⟨h0, KP.rf k⟩
theorem has_0 {v : Nd} {p : Int32} (h : p < 0 ∨ v.1 ≤ p) : f_n_hasEntry v p = 0 := by
  unfold f_n_hasEntry
  by_cases h0 : p < 0
  · rw [if_pos h0]
  · rw [if_neg h0]
    rcases h with h | h
    · exact absurd h h0
    · rw [if_pos h]
theorem has_1 {v : Nd} {p : Int32} (h0 : ¬ p < 0) (h1 : ¬ v.1 ≤ p) : f_n_hasEntry v p = 1 := by
  unfold f_n_hasEntry
  rw [if_neg h0, if_neg h1]
theorem ship_0 {n : Int32} {v : Nd} {k : Lk} {p : Int32} (h : f_n_hasEntry v p = 0) : f_t_ship n v k p = k := by
  unfold f_t_ship
  simp only [if_pos h]
theorem sp_sim {L : List Nat} {B j c0 i : Nat} {k : Lk} {q : Rq} {v : Nd} {r : Rn} (hj : j < 2) (h : LR L B k q) (hn : NR B j v r) (hv : v.1 = nI c0) (hc0 : c0 ≤ 64) (hi : i < c0) : LR L B (f_t_ship (nI j) v k (nI i)) (f_m_send r q (nI j) 1 (nI i)) ∧ KP k (f_t_ship (nI j) v k (nI i)) := by
  have h0 := h
  obtain ⟨hg, c, hc, e1, e2, hm⟩ := h
  have hhas : f_n_hasEntry v (nI i) = 1 := has_1 (nI_pos (by omega)) (by rw [hv, nI_leI (by omega) (by omega)]; omega)
  unfold f_t_ship f_m_send
  have hne : ¬ f_n_hasEntry v (nI i) = 0 := by rw [hhas]; decide
  simp only [if_neg hne]
  by_cases hf : c < 16
  · have hff := (full_iff hc e1).mpr hf
    obtain ⟨⟨cx, hcx, hx1, hx2, hx3⟩, ⟨ht, t, htB, hte⟩, -⟩ := hn
    have hcc : cx = c0 := (nI_eq (by omega) (by omega)).mp (hx1.symm.trans hv)
    subst hcc
    obtain ⟨w1, w2, w3⟩ := hx3 i hi
    simp only [f_k_send, if_pos hff, e1, e2, if_neg (ne16 hf), if_true]
    rw [nI_clamp (show c < 2 ^ 31 by omega), nI_clamp (show j < 2 ^ 31 by omega), nI_clamp (show i < 2 ^ 31 by omega), ix_ent hj (by omega)]
    have i0 := ix_msg0 hf
    have i1 : ((9 * nI c) + 1).toNatClampNeg = 9 * c + 1 := ix_msg hf (f := 1) (by omega)
    have i2 : ((9 * nI c) + 2).toNatClampNeg = 9 * c + 2 := ix_msg hf (f := 2) (by omega)
    have i3 : ((9 * nI c) + 3).toNatClampNeg = 9 * c + 3 := ix_msg hf (f := 3) (by omega)
    have i4 : ((9 * nI c) + 4).toNatClampNeg = 9 * c + 4 := ix_msg hf (f := 4) (by omega)
    have i5 : ((9 * nI c) + 5).toNatClampNeg = 9 * c + 5 := ix_msg hf (f := 5) (by omega)
    have i6 : ((9 * nI c) + 6).toNatClampNeg = 9 * c + 6 := ix_msg hf (f := 6) (by omega)
    have i7 : ((9 * nI c) + 7).toNatClampNeg = 9 * c + 7 := ix_msg hf (f := 7) (by omega)
    have i8 : ((9 * nI c) + 8).toNatClampNeg = 9 * c + 8 := ix_msg hf (f := 8) (by omega)
    rw [i0, i1, i2, i3, i4, i5, i6, i7, i8]
    have hmr : ∀ (tb tb' : Int32) (M : Nat → Int32), tb = tb' → M (9 * c) = 1 → M (9 * c + 1) = 1 - nI j → M (9 * c + 2) = r.1 j → M (9 * c + 3) = nI i → M (9 * c + 4) = r.2.2.2.2.2.2.2.1 (64 * j + i) → M (9 * c + 5) = r.2.2.2.2.2.2.2.2.1 (64 * j + i) → M (9 * c + 6) = r.2.2.2.2.2.2.2.2.2 (64 * j + i) → M (9 * c + 7) = tb' → M (9 * c + 8) = r.2.1 j → MR B (1, 1 - nI j, v.2.1, nI i, v.2.2.2.2.2.2.2.1 i, v.2.2.2.2.2.2.2.2.1 i, v.2.2.2.2.2.2.2.2.2 i, tb, v.1) (fun f => M (9 * c + f)) := by
      intro tb tb' M htb m0 m1 m2 m3 m4 m5 m6 m7 m8
      refine ⟨m0.symm, m1.symm, ht.trans m2.symm, m3.symm, Or.inl rfl, up_1 hj, ⟨t, htB, hte⟩, fun _ => ⟨⟨w1.trans m4.symm, w2.trans m5.symm, w3.trans m6.symm, htb.trans m7.symm, (hx1.trans hx2.symm).trans m8.symm⟩, ⟨i, by omega, rfl⟩, cx, hcx, hx1⟩⟩
    by_cases hi0 : i = 0
    · subst hi0
      have z1 : nI 0 ≤ (0 : Int32) := by decide
      have z2 : nI 0 = (0 : Int32) := nI_0
      simp only [if_pos z1, if_pos z2, va_up_self, bx_uu]
      refine add_sim hg hf hm (fun n hn => ?_) (hmr 0 0 _ rfl ?_ ?_ ?_ ?_ ?_ ?_ ?_ ?_ ?_) _ (fun a ha => va_up_ne _ _ ha) (va_up_self _ _ _)
      · repeat rw [pk_un (by omega)]
      all_goals simp [upd]
    · obtain ⟨i', rfl⟩ : ∃ i', i = i' + 1 := ⟨i - 1, by omega⟩
      have z1 : ¬ nI (i' + 1) ≤ (0 : Int32) := nI_nle (by omega) (by omega)
      have z2 : ¬ nI (i' + 1) = (0 : Int32) := nI_ne0 (by omega) (by omega)
      have z3 : ((64 * nI j + nI (i' + 1)) - 1).toNatClampNeg = 64 * j + i' := by
        rw [show (64 : Int32) = nI 64 from rfl, pk_mul, nI_add, show 64 * j + (i' + 1) = (64 * j + i') + 1 from rfl, nI_pred, nI_clamp (by omega)]
      have z4 : (nI (i' + 1) - 1).toNatClampNeg = i' := by rw [nI_pred, nI_clamp (by omega)]
      simp only [if_neg z1, if_neg z2, va_up_self, bx_uu, z3, z4]
      refine add_sim hg hf hm (fun n hn => ?_) (hmr _ _ _ (hx3 i' (by omega)).1 ?_ ?_ ?_ ?_ ?_ ?_ ?_ ?_ ?_) _ (fun a ha => va_up_ne _ _ ha) (va_up_self _ _ _)
      · repeat rw [pk_un (by omega)]
      all_goals simp [upd]
  · have hc16 : c = 16 := by omega
    have hff : ¬ f_k_isFull k = 0 := fun z => hf ((full_iff hc e1).mp z)
    have hq : q.1 = 16 := by rw [e2, hc16]; rfl
    simp only [f_k_send, if_neg hff, if_pos hq]
    exact ⟨h0, KP.rf k⟩
theorem si_sim {L : List Nat} {B j : Nat} {k : Lk} {q : Rq} {v : Nd} {r : Rn} (hj : j < 2) (h : LR L B k q) (hn : NR B j v r) (p : Int32) : LR L B (f_t_ship (nI j) v k p) (f_m_shipIfThere r q (nI j) p) ∧ KP k (f_t_ship (nI j) v k p) := by
  have hn0 := hn
  obtain ⟨⟨c, hc, h1, h2, -⟩, -⟩ := hn
  unfold f_m_shipIfThere
  rw [nI_clamp (show j < 2 ^ 31 by omega)]
  by_cases p0 : p < 0
  · simp only [if_pos p0]
    rw [ship_0 (has_0 (Or.inl p0))]
    exact ⟨h, KP.rf k⟩
  · simp only [if_neg p0]
    by_cases p1 : r.2.1 j ≤ p
    · simp only [if_pos p1]
      rw [ship_0 (has_0 (Or.inr (by rw [h1, ← h2]; exact p1)))]
      exact ⟨h, KP.rf k⟩
    · simp only [if_neg p1]
      obtain ⟨i, hi, rfl⟩ := num_ok (n := 64) (by omega) ⟨c, hc, h2⟩ p0 p1
      rw [h2, nI_leI (by omega) (by omega)] at p1
      exact sp_sim hj h hn0 h1 hc (by omega)
/-- a message is taken off both links -/
theorem tk_sim {L : List Nat} {B c i : Nat} {k : Lk} {q : Rq} (h : LR L B k q) (hc : k.1 = nI c) (hc16 : c ≤ 16) (hi : i < c) : LR L B (f_k_take k (nI i)).2 (f_m_remove q (nI i)) ∧ (f_k_take k (nI i)).2.2.2.1 = k.2.1 i ∧ (f_k_take k (nI i)).2.2.2.2 = k.2.2.2 := by
  obtain ⟨⟨g1, g2, g3, g4⟩, c', hc', e1, e2, hm⟩ := h
  have hcc : c' = c := (nI_eq (by omega) (by omega)).mp (e1.symm.trans hc)
  subst hcc
  obtain ⟨d, rfl⟩ : ∃ d, c' = d + 1 := ⟨c' - 1, by omega⟩
  unfold f_k_take f_m_remove
  have n0 : ¬ nI i < 0 := nI_pos (by omega)
  have n1 : ¬ k.1 ≤ nI i := by rw [e1, nI_leI (by omega) (by omega)]; omega
  simp only [if_neg n0, if_neg n1]
  rw [e1, e2, nI_pred, nI_clamp (show d < 2 ^ 31 by omega), nI_clamp (show i < 2 ^ 31 by omega)]
  refine ⟨⟨⟨fun j => ?_, g1 i, fun a b ha hb hab => ?_, fun a ha hab => ?_⟩, d, by omega, rfl, rfl, fun a ha => ?_⟩, by trivial⟩
  · show va_up _ _ _ j ∈ L
    unfold va_up
    split
    · exact g2
    · exact sh_mem g1 _ _ _
  · have hab : va_up (sh k.2.1 i d) d k.2.2.1 a = va_up (sh k.2.1 i d) d k.2.2.1 b := hab
    unfold va_up sh at hab
    by_cases a1 : a = d <;> by_cases b1 : b = d
    · omega
    · rw [if_pos a1, if_neg b1] at hab
      split at hab
      · exact absurd hab.symm (g4 _ (by omega))
      · exact absurd hab.symm (g4 _ hb)
    · rw [if_neg a1, if_pos b1] at hab
      split at hab
      · exact absurd hab (g4 _ (by omega))
      · exact absurd hab (g4 _ ha)
    · rw [if_neg a1, if_neg b1] at hab
      split at hab <;> split at hab
      · have := g3 _ _ (by omega) (by omega) hab; omega
      · have := g3 _ _ (by omega) hb hab; omega
      · have := g3 _ _ ha (by omega) hab; omega
      · exact g3 _ _ ha hb hab
  · have hab : va_up (sh k.2.1 i d) d k.2.2.1 a = k.2.1 i := hab
    unfold va_up sh at hab
    by_cases a1 : a = d
    · rw [if_pos a1] at hab
      exact g4 i (by omega) hab.symm
    · rw [if_neg a1] at hab
      split at hab
      · have := g3 _ _ (by omega) (by omega) hab; omega
      · have := g3 _ _ ha (by omega) hab; omega
  · show MR B (k.2.2.2 (va_up (sh k.2.1 i d) d k.2.2.1 a)) (fun f => sh9 q.2 (9 * i) (9 * d) (9 * a + f))
    rw [va_up_ne _ _ (show a ≠ d by omega)]
    unfold sh
    by_cases hia : i ≤ a
    · rw [if_pos ⟨hia, ha⟩]
      refine (hm (a + 1) (by omega)).cg (fun f hf => ?_)
      unfold sh9
      rw [if_pos (by omega)]
      exact congrArg q.2 (by omega)
    · rw [if_neg (by omega)]
      refine (hm a (by omega)).cg (fun f hf => ?_)
      unfold sh9
      rw [if_neg (by omega)]
