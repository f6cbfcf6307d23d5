-- the reference's 'shipped', cut into its stretches
def m_end (cv : Nat → Int32) (q : Rq) (r : Rn) (n p : Int32) : Rq × Rn :=
  if (r.2.1 n.toNatClampNeg) ≤ (cv (8 : Int32).toNatClampNeg) then (f_m_send r q n 2 p, r) else if (f_m_cutTo r n (cv (8 : Int32).toNatClampNeg)).1 = 0 then (q, (f_m_cutTo r n (cv (8 : Int32).toNatClampNeg)).2) else (f_m_send (f_m_cutTo r n (cv (8 : Int32).toNatClampNeg)).2 q n 2 p, (f_m_cutTo r n (cv (8 : Int32).toNatClampNeg)).2)
def m_tail (cv : Nat → Int32) (q : Rq) (r : Rn) (n p : Int32) : Rq × Rn :=
  if (r.2.1 n.toNatClampNeg) = p then if (f_m_putBehind r n (cv (4 : Int32).toNatClampNeg) (cv (5 : Int32).toNatClampNeg) (cv (6 : Int32).toNatClampNeg)).1 = 0 then (q, (f_m_putBehind r n (cv (4 : Int32).toNatClampNeg) (cv (5 : Int32).toNatClampNeg) (cv (6 : Int32).toNatClampNeg)).2) else m_end cv q (f_m_putBehind r n (cv (4 : Int32).toNatClampNeg) (cv (5 : Int32).toNatClampNeg) (cv (6 : Int32).toNatClampNeg)).2 n p else m_end cv q r n p
def m_mid (cv : Nat → Int32) (q : Rq) (r : Rn) (n p : Int32) : Rq × Rn :=
  if (r.2.1 n.toNatClampNeg) ≤ p then m_tail cv q r n p else if (r.2.2.2.2.2.2.2.1 ((64 * n) + p).toNatClampNeg) = (cv (4 : Int32).toNatClampNeg) ∧ (r.2.2.2.2.2.2.2.2.1 ((64 * n) + p).toNatClampNeg) = (cv (5 : Int32).toNatClampNeg) ∧ (r.2.2.2.2.2.2.2.2.2 ((64 * n) + p).toNatClampNeg) = (cv (6 : Int32).toNatClampNeg) then m_tail cv q r n p else if (f_m_cutTo r n p).1 = 0 then (q, (f_m_cutTo r n p).2) else m_tail cv q (f_m_cutTo r n p).2 n p
set_option maxHeartbeats 2000000 in
theorem shipped_eq (cv : Nat → Int32) (x : Rq × Rn) (n p : Int32) : f_m_shipped cv x n p = if p ≤ (x.2.2.1 n.toNatClampNeg) then (if p ≤ 0 then m_mid cv x.1 x.2 n p else if (x.2.2.2.2.2.2.2.2.1 (((64 * n) + p) - 1).toNatClampNeg) = (cv (7 : Int32).toNatClampNeg) then m_mid cv x.1 x.2 n p else if (f_m_cutTo x.2 n (p - 1)).1 = 0 then (x.1, (f_m_cutTo x.2 n (p - 1)).2) else (f_m_send (f_m_cutTo x.2 n (p - 1)).2 x.1 n 3 (p - 1), (f_m_cutTo x.2 n (p - 1)).2)) else (f_m_send x.2 x.1 n 3 (x.2.2.1 n.toNatClampNeg), x.2) := by
  unfold f_m_shipped m_mid m_tail m_end
  by_cases a1 : p ≤ (x.2.2.1 n.toNatClampNeg)
  · by_cases a2 : p ≤ 0
    · by_cases a4 : (x.2.2.1 n.toNatClampNeg) ≤ p
      · simp only [if_pos a1, if_pos a2, if_pos a4]
      · by_cases b1 : (x.2.2.2.2.2.2.2.2.1 ((64 * n) + p).toNatClampNeg) = (cv (4 : Int32).toNatClampNeg)
        · by_cases b2 : (x.2.2.2.2.2.2.2.2.2.1 ((64 * n) + p).toNatClampNeg) = (cv (5 : Int32).toNatClampNeg)
          · by_cases b3 : (x.2.2.2.2.2.2.2.2.2.2 ((64 * n) + p).toNatClampNeg) = (cv (6 : Int32).toNatClampNeg)
            · simp only [if_pos a1, if_pos a2, if_neg a4, if_pos b1, if_pos b2, if_pos b3, b1, b2, b3, and_self, if_true]
            · simp only [if_pos a1, if_pos a2, if_neg a4, if_pos b1, if_pos b2, if_neg b3, b3, and_false, if_false]
          · simp only [if_pos a1, if_pos a2, if_neg a4, if_pos b1, if_neg b2, b2, and_false, false_and, if_false]
        · simp only [if_pos a1, if_pos a2, if_neg a4, if_neg b1, b1, false_and, if_false]
    · by_cases a3 : (x.2.2.2.2.2.2.2.2.1 (((64 * n) + p) - 1).toNatClampNeg) = (cv (7 : Int32).toNatClampNeg)
      · by_cases a4 : (x.2.2.1 n.toNatClampNeg) ≤ p
        · simp only [if_pos a1, if_neg a2, if_pos a3, if_pos a4]
        · by_cases b1 : (x.2.2.2.2.2.2.2.2.1 ((64 * n) + p).toNatClampNeg) = (cv (4 : Int32).toNatClampNeg)
          · by_cases b2 : (x.2.2.2.2.2.2.2.2.2.1 ((64 * n) + p).toNatClampNeg) = (cv (5 : Int32).toNatClampNeg)
            · by_cases b3 : (x.2.2.2.2.2.2.2.2.2.2 ((64 * n) + p).toNatClampNeg) = (cv (6 : Int32).toNatClampNeg)
              · simp only [if_pos a1, if_neg a2, if_pos a3, if_neg a4, if_pos b1, if_pos b2, if_pos b3, b1, b2, b3, and_self, if_true]
              · simp only [if_pos a1, if_neg a2, if_pos a3, if_neg a4, if_pos b1, if_pos b2, if_neg b3, b3, and_false, if_false]
            · simp only [if_pos a1, if_neg a2, if_pos a3, if_neg a4, if_pos b1, if_neg b2, b2, and_false, false_and, if_false]
          · simp only [if_pos a1, if_neg a2, if_pos a3, if_neg a4, if_neg b1, b1, false_and, if_false]
      · simp only [if_pos a1, if_neg a2, if_neg a3]
  · simp only [if_neg a1]
-- the class's 'fitLog', cut likewise
def c_end (x : Nd) (sl : Int32) : Int32 × Nd := if x.1 ≤ sl then (1, x) else if (f_n_cutTo x sl).1 = 0 then (0, (f_n_cutTo x sl).2) else (1, (f_n_cutTo x sl).2)
def c_tail (x : Nd) (m : Ms) : Int32 × Nd := if x.1 = m.2.2.2.1 then if (f_n_append x m.2.2.2.2.1 m.2.2.2.2.2.1 m.2.2.2.2.2.2.1).1 = 0 then (0, (f_n_append x m.2.2.2.2.1 m.2.2.2.2.2.1 m.2.2.2.2.2.2.1).2) else c_end (f_n_append x m.2.2.2.2.1 m.2.2.2.2.2.1 m.2.2.2.2.2.2.1).2 m.2.2.2.2.2.2.2.2 else c_end x m.2.2.2.2.2.2.2.2
theorem fit_eq (mf : Nat → Ms) (x : Nd) (a : Nat) : f_t_fitLog mf x a = if f_n_hasEntry x (mf a).2.2.2.1 = 0 then c_tail x (mf a) else if f_n_isEntry x (mf a).2.2.2.1 (mf a).2.2.2.2.1 (mf a).2.2.2.2.2.1 (mf a).2.2.2.2.2.2.1 = 0 then (if (f_n_cutTo x (mf a).2.2.2.1).1 = 0 then (0, (f_n_cutTo x (mf a).2.2.2.1).2) else c_tail (f_n_cutTo x (mf a).2.2.2.1).2 (mf a)) else c_tail x (mf a) := by
  unfold f_t_fitLog c_tail c_end
  by_cases a1 : f_n_hasEntry x (mf a).2.2.2.1 = 0
  · simp only [if_pos a1]
  · by_cases a2 : f_n_isEntry x (mf a).2.2.2.1 (mf a).2.2.2.2.1 (mf a).2.2.2.2.2.1 (mf a).2.2.2.2.2.2.1 = 0
    · simp only [if_neg a1, if_pos a2]
    · simp only [if_neg a1, if_neg a2]
/-- what both sides hold behind a stretch: node, link, the other node, the spare -/
def SR_ (L : List Nat) (B j : Nat) (k : Lk) (r : Rn) (k' : Lk) (v' : Nd) (y : Rq × Rn) : Prop := LR L B k' y.1 ∧ NR B j v' y.2 ∧ KP k k' ∧ ∀ i, i < 2 → i ≠ j → RE r y.2 i
theorem SR_.pre {L : List Nat} {B j : Nat} {k : Lk} {r r1 : Rn} {k' : Lk} {v' : Nd} {y : Rq × Rn} (h : SR_ L B j k r1 k' v' y) (e : ∀ i, i < 2 → i ≠ j → RE r r1 i) : SR_ L B j k r k' v' y := ⟨h.1, h.2.1, h.2.2.1, fun i hi hne => (e i hi hne).tr (h.2.2.2 i hi hne)⟩
section SHIPS
variable {L : List Nat} {B j : Nat} {k : Lk} {q : Rq} {v : Nd} {r : Rn} {cv : Nat → Int32} {m : Ms} {i0 : Nat}
/-- the class: then an ACK is sent -/
theorem end_sim (hj : j < 2) (h : LR L B k q) (hn : NR B j v r) (hm : MR B m cv) (h1 : m.1 = 1) : SR_ L B j k r (if (c_end v m.2.2.2.2.2.2.2.2).1 = 0 then k else (f_k_send (nI j) (c_end v m.2.2.2.2.2.2.2.2).2 k 2 m.2.2.2.1).2) (c_end v m.2.2.2.2.2.2.2.2).2 (m_end cv q r (nI j) m.2.2.2.1) := by
  have hn0 := hn
  obtain ⟨⟨c, hc, e1, e2, -⟩, -⟩ := hn
  obtain ⟨-, -, -, -, -, -, -, hs⟩ := hm
  obtain ⟨⟨-, -, -, -, w8⟩, -, s, hs64, es⟩ := hs h1
  unfold c_end m_end
  rw [nI_clamp (show j < 2 ^ 31 by omega), cl8, ← w8, e2, e1, es]
  by_cases g : nI c ≤ nI s
  · simp only [if_pos g]
    rw [if_neg (by decide)]
    obtain ⟨a1, a2⟩ := sd_sim (num := m.2.2.2.1) hj h hn0 (Or.inl rfl)
    exact ⟨a1, hn0, a2, fun i _ _ => RE.rf r i⟩
  · simp only [if_neg g]
    have hsc : nI s ≤ v.1 := by
      rw [e1]
      rw [nI_leI (by omega) (by omega)] at g ⊢
      omega
    obtain ⟨b1, b2⟩ := ct_sim hj hn0 hs64 hsc
    rw [← b1]
    by_cases g2 : (f_n_cutTo v (nI s)).1 = 0
    · simp only [if_pos g2]
      exact ⟨h, b2, KP.rf k, fun i _ hne => ct_fr r (nI s) hj hne⟩
    · simp only [if_neg g2]
      rw [if_neg (by decide)]
      obtain ⟨a1, a2⟩ := sd_sim (num := m.2.2.2.1) hj h b2 (Or.inl rfl)
      exact ⟨a1, b2, a2, fun i _ hne => ct_fr r (nI s) hj hne⟩
theorem tail_sim (hj : j < 2) (h : LR L B k q) (hn : NR B j v r) (hm : MR B m cv) (h1 : m.1 = 1) : SR_ L B j k r (if (c_tail v m).1 = 0 then k else (f_k_send (nI j) (c_tail v m).2 k 2 m.2.2.2.1).2) (c_tail v m).2 (m_tail cv q r (nI j) m.2.2.2.1) := by
  have hn0 := hn
  have hm0 := hm
  obtain ⟨⟨c, hc, e1, e2, -⟩, -⟩ := hn
  obtain ⟨-, -, -, -, -, -, -, hs⟩ := hm
  obtain ⟨⟨w4, w5, w6, -, -⟩, ⟨i, hi, ei⟩, -⟩ := hs h1
  unfold c_tail m_tail
  rw [nI_clamp (show j < 2 ^ 31 by omega), cl4, cl5, cl6, ← w4, ← w5, ← w6, e2, e1]
  by_cases g : nI c = m.2.2.2.1
  · simp only [if_pos g]
    have hci : c = i := (nI_eq (by omega) (by omega)).mp (g.trans ei)
    have h64 : ¬ 64 ≤ v.1 := by
      rw [e1]
      exact fun z => by have := (nI_leI (a := 64) (by omega) (by omega)).mp z; omega
    obtain ⟨b1, b2⟩ := ap_sim hj hn0 h64 m.2.2.2.2.1 m.2.2.2.2.2.1 m.2.2.2.2.2.2.1
    have fr : ∀ i, i < 2 → i ≠ j → RE r (f_m_putBehind r (nI j) m.2.2.2.2.1 m.2.2.2.2.2.1 m.2.2.2.2.2.2.1).2 i := fun i hi hne => pb_fr r _ _ _ hj hi hne (show c < 64 by omega) e2
    rw [← b1]
    by_cases g2 : (f_n_append v m.2.2.2.2.1 m.2.2.2.2.2.1 m.2.2.2.2.2.2.1).1 = 0
    · simp only [if_pos g2]
      exact ⟨h, b2, KP.rf k, fr⟩
    · simp only [if_neg g2]
      exact (end_sim hj h b2 hm0 h1).pre fr
  · simp only [if_neg g]
    exact end_sim hj h hn0 hm0 h1
theorem mid_sim (hj : j < 2) (h : LR L B k q) (hn : NR B j v r) (a : Nat) (hm : MR B (k.2.2.2 a) cv) (h1 : (k.2.2.2 a).1 = 1) : SR_ L B j k r (if (f_t_fitLog k.2.2.2 v a).1 = 0 then k else (f_k_send (nI j) (f_t_fitLog k.2.2.2 v a).2 k 2 (k.2.2.2 a).2.2.2.1).2) (f_t_fitLog k.2.2.2 v a).2 (m_mid cv q r (nI j) (k.2.2.2 a).2.2.2.1) := by
  have hn0 := hn
  have hm0 := hm
  obtain ⟨⟨c, hc, e1, e2, e3⟩, -⟩ := hn
  obtain ⟨-, -, -, -, -, -, -, hs⟩ := hm
  obtain ⟨⟨w4, w5, w6, -, -⟩, ⟨i, hi, ei⟩, -⟩ := hs h1
  rw [fit_eq]
  unfold m_mid
  rw [nI_clamp (show j < 2 ^ 31 by omega), cl4, cl5, cl6, ← w4, ← w5, ← w6, e2]
  by_cases g : nI c ≤ (k.2.2.2 a).2.2.2.1
  · simp only [if_pos g]
    rw [if_pos (has_0 (Or.inr (by rw [e1]; exact g)))]
    exact tail_sim hj h hn0 hm0 h1
  · simp only [if_neg g]
    have g' := g
    rw [ei, nI_leI (by omega) (by omega)] at g'
    have hh : ¬ f_n_hasEntry v (k.2.2.2 a).2.2.2.1 = 0 := by
      rw [has_1 (by rw [ei]; exact nI_pos (by omega)) (by rw [e1]; exact g)]
      decide
    rw [if_neg hh]
    have hiff := isEntry_iff (x := v) (j := i) (a := (k.2.2.2 a).2.2.2.2.1) (b := (k.2.2.2 a).2.2.2.2.2.1) (c := (k.2.2.2 a).2.2.2.2.2.2.1) (by omega) hc e1 (by omega)
    obtain ⟨x1, x2, x3⟩ := e3 i (by omega)
    rw [ei, ix_ent hj hi, ← x1, ← x2, ← x3]
    by_cases g2 : v.2.2.2.2.2.2.2.1 i = (k.2.2.2 a).2.2.2.2.1 ∧ v.2.2.2.2.2.2.2.2.1 i = (k.2.2.2 a).2.2.2.2.2.1 ∧ v.2.2.2.2.2.2.2.2.2 i = (k.2.2.2 a).2.2.2.2.2.2.1
    · rw [if_pos g2, if_neg (fun z => hiff.mp z g2), ← ei]
      exact tail_sim hj h hn0 hm0 h1
    · rw [if_neg g2, if_pos (hiff.mpr g2)]
      obtain ⟨b1, b2⟩ := ct_sim (d := i) hj hn0 (by omega) (by rw [e1, nI_leI (by omega) (by omega)]; omega)
      rw [← b1]
      by_cases g3 : (f_n_cutTo v (nI i)).1 = 0
      · simp only [if_pos g3]
        exact ⟨h, b2, KP.rf k, fun z _ hne => ct_fr r (nI i) hj hne⟩
      · simp only [if_neg g3]
        rw [← ei] at b2 ⊢
        exact (tail_sim hj h b2 hm0 h1).pre (fun z _ hne => ct_fr r _ hj hne)
theorem ts_sim (hj : j < 2) (h : LR L B k q) (hn : NR B j v r) (a : Nat) (hm : MR B (k.2.2.2 a) cv) (h1 : (k.2.2.2 a).1 = 1) : SR_ L B j k r (f_t_takeShip (nI j) (k, v) a).1 (f_t_takeShip (nI j) (k, v) a).2 (f_m_shipped cv (q, r) (nI j) (cv (3 : Int32).toNatClampNeg)) := by
  have hn0 := hn
  have hm0 := hm
  have mid := mid_sim hj h hn a hm h1
  obtain ⟨⟨c, hc, e1, e2, e3⟩, -⟩ := hn
  obtain ⟨-, -, -, w3, -, -, -, hs⟩ := hm
  obtain ⟨⟨w4, w5, w6, w7, -⟩, ⟨i, hi, ei⟩, -⟩ := hs h1
  rw [shipped_eq, cl3, ← w3, nI_clamp (show j < 2 ^ 31 by omega)]
  unfold f_t_takeShip
  simp only
  rw [e2, e1]
  by_cases g : (k.2.2.2 a).2.2.2.1 ≤ nI c
  · simp only [if_pos g]
    by_cases g2 : (k.2.2.2 a).2.2.2.1 ≤ 0
    · simp only [if_pos g2]
      by_cases g3 : (f_t_fitLog k.2.2.2 v a).1 = 0
      · simp only [if_pos g3] at mid ⊢; exact mid
      · simp only [if_neg g3] at mid ⊢; exact mid
    · simp only [if_neg g2]
      obtain ⟨i', rfl⟩ : ∃ i', i = i' + 1 := ⟨i - 1, by
        have : i ≠ 0 := fun z => g2 (by rw [ei, z]; decide)
        omega⟩
      have g' := g
      rw [ei, nI_leI (by omega) (by omega)] at g'
      have ix1 : (((64 * nI j) + (k.2.2.2 a).2.2.2.1) - 1).toNatClampNeg = 64 * j + i' := by
        rw [ei, show (64 : Int32) = nI 64 from rfl, pk_mul, nI_add, show 64 * j + (i' + 1) = (64 * j + i') + 1 from rfl, nI_pred, nI_clamp (by omega)]
      have hot : f_n_hasEntryOfTerm v ((k.2.2.2 a).2.2.2.1 - 1) (k.2.2.2 a).2.2.2.2.2.2.2.1 = if r.2.2.2.2.2.2.2.1 (64 * j + i') = cv 7 then 1 else 0 := by
        unfold f_n_hasEntryOfTerm
        rw [ei, nI_pred]
        have hh : ¬ f_n_hasEntry v (nI i') = 0 := by
          rw [has_1 (nI_pos (by omega)) (by rw [e1, nI_leI (by omega) (by omega)]; omega)]
          decide
        simp only [if_neg hh]
        rw [nI_clamp (by omega), (e3 i' (by omega)).1, w7]
      rw [hot, ix1, cl7]
      by_cases g3 : r.2.2.2.2.2.2.2.1 (64 * j + i') = cv 7
      · simp only [if_pos g3]
        rw [if_neg (by decide)]
        by_cases g4 : (f_t_fitLog k.2.2.2 v a).1 = 0
        · simp only [if_pos g4] at mid ⊢; exact mid
        · simp only [if_neg g4] at mid ⊢; exact mid
      · simp only [if_neg g3, if_true]
        rw [ei, nI_pred]
        obtain ⟨b1, b2⟩ := ct_sim (d := i') hj hn0 (by omega) (by rw [e1, nI_leI (by omega) (by omega)]; omega)
        rw [← b1]
        by_cases g4 : (f_n_cutTo v (nI i')).1 = 0
        · simp only [if_pos g4]
          exact ⟨h, b2, KP.rf k, fun z _ hne => ct_fr r (nI i') hj hne⟩
        · simp only [if_neg g4]
          obtain ⟨a1, a2⟩ := sd_sim (num := nI i') hj h b2 (Or.inr rfl)
          exact ⟨a1, b2, a2, fun z _ hne => ct_fr r (nI i') hj hne⟩
  · simp only [if_neg g]
    obtain ⟨a1, a2⟩ := sd_sim (num := nI c) hj h hn0 (Or.inr rfl)
    exact ⟨a1, hn0, a2, fun i _ _ => RE.rf r i⟩
end SHIPS
