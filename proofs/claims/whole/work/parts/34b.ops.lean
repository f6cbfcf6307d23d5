/-- the class's state and the reference's -/
def Rel (L : List Nat) (B : Nat) (x : Lk × Nd × Nd) (y : Rq × Rn × Cm) : Prop := LR L B x.1 y.1 ∧ NR B 0 x.2.1 y.2.1 ∧ NR B 1 x.2.2 y.2.1
theorem Rel.mono {L : List Nat} {B B' : Nat} {x : Lk × Nd × Nd} {y : Rq × Rn × Cm} (h : Rel L B x y) (hB : B ≤ B') : Rel L B' x y := ⟨h.1.mono hB, h.2.1.mono hB, h.2.2.mono hB⟩
theorem Rel.rl {L : List Nat} {B : Nat} {x : Lk × Nd × Nd} {y : Rq × Rn × Cm} (h : Rel L B x y) (j : Nat) (hj : j < 2) : ∃ k : Nat, k ≤ 64 ∧ y.2.1.2.1 j = nI k := by
  rcases (show j = 0 ∨ j = 1 by omega) with rfl | rfl
  · obtain ⟨-, ⟨⟨c, hc, -, e, -⟩, -⟩, -⟩ := h
    exact ⟨c, hc, e⟩
  · obtain ⟨-, -, ⟨⟨c, hc, -, e, -⟩, -⟩⟩ := h
    exact ⟨c, hc, e⟩
/-- the answer and what is behind it -/
def Sim (L : List Nat) (B : Nat) (a : Int32 × Lk × Nd × Nd) (b : Int32 × Rq × Rn × Cm) : Prop := a.1 = b.1 ∧ Rel L B a.2 b.2
section OPS
variable {L : List Nat} {B : Nat} {x : Lk × Nd × Nd} {y : Rq × Rn × Cm}
theorem isn_0 : f_m_isNode 0 = 1 := by decide
theorem isn_1 : f_m_isNode 1 = 1 := by decide
theorem isn_n {n : Int32} (h0 : ¬ n = 0) (h1 : ¬ n = 1) : f_m_isNode n = 0 := by
  unfold f_m_isNode
  rw [if_neg h0, if_neg h1]
theorem key_iff (p : Int32) : f_t_isKey p = 0 ↔ p < 0 ∨ ¬ p ≤ 15 := by
  unfold f_t_isKey
  by_cases h : p < 0
  · simp [h]
  · rw [if_neg h]
    have : (16 ≤ p) ↔ ¬ p ≤ 15 := by
      rw [Int32.le_iff_toInt_le, Int32.le_iff_toInt_le, show (16 : Int32).toInt = 16 from rfl, show (15 : Int32).toInt = 15 from rfl]
      omega
    by_cases h2 : 16 ≤ p
    · rw [if_pos h2]; simp [this.mp h2]
    · rw [if_neg h2]; simp [h, Decidable.not_not.mp (fun z => h2 (this.mpr z))]
theorem one0 : ¬ (1 : Int32) = 0 := by decide
theorem drop_sim (h : Rel L B x y) (p : Int32) : Sim L B (f_t_drop x p) (f_m_drop y p) := by
  obtain ⟨hl, hz, ho⟩ := h
  have hl0 := hl
  obtain ⟨hg, c, hc, e1, e2, hm⟩ := hl
  unfold f_t_drop f_m_drop
  by_cases p0 : p < 0
  · simp only [if_pos p0, f_k_take]
    exact ⟨rfl, hl0, hz, ho⟩
  · by_cases p1 : x.1.1 ≤ p
    · have p2 : ¬ p < y.1.1 := by rw [e2, ← e1]; exact fun z => nle_of z p1
      simp only [if_neg p0, if_pos p1, if_neg p2, f_k_take]
      exact ⟨rfl, hl0, hz, ho⟩
    · have p2 : p < y.1.1 := Decidable.not_not.mp (fun z => p1 (by rw [e1, ← e2]; rw [Int32.lt_iff_toInt_lt] at z; rw [Int32.le_iff_toInt_le]; omega))
      simp only [if_neg p0, if_neg p1, if_pos p2]
      obtain ⟨i, hi, rfl⟩ := num_ok (by omega) ⟨c, hc, e1⟩ p0 p1
      have hic : i < c := by rw [e1, nI_leI (by omega) (by omega)] at p1; omega
      obtain ⟨a1, -, -⟩ := tk_sim hl0 e1 hc hic
      exact ⟨rfl, a1, hz, ho⟩
theorem fuse_v (p : Int32) : (if p < (-1) then (-1) else p) = (if 0 ≤ p then p else (-1)) := by
  by_cases h : 0 ≤ p
  · rw [if_pos h, if_neg (fun z => by rw [Int32.lt_iff_toInt_lt, show (-1 : Int32).toInt = -1 from rfl] at z; rw [Int32.le_iff_toInt_le, Int32.toInt_zero] at h; omega)]
  · rw [if_neg h]
    by_cases h2 : p < -1
    · rw [if_pos h2]
    · rw [if_neg h2]
      apply Int32.toInt_inj.mp
      rw [Int32.lt_iff_toInt_lt, show (-1 : Int32).toInt = -1 from rfl] at h2
      rw [Int32.le_iff_toInt_le, Int32.toInt_zero] at h
      rw [show (-1 : Int32).toInt = -1 from rfl]
      omega
theorem fuse_sim (h : Rel L B x y) (n p : Int32) : Sim L B (f_t_fuse x n p) (f_m_fuse y n p) := by
  obtain ⟨hl, hz, ho⟩ := h
  have hz0 := hz
  have ho0 := ho
  unfold f_t_fuse f_m_fuse
  by_cases n0 : n = 0
  · subst n0
    simp only [if_true, isn_0, if_neg one0, cl0, fuse_v]
    obtain ⟨z1, z2, z3, z4, z5, z6, z7⟩ := hz
    by_cases p0 : 0 ≤ p
    · simp only [if_pos p0]
      exact ⟨rfl, hl, ⟨z1, z2, z3, z4, z5, (by simp [upd]), z7⟩, ho0.fr ⟨rfl, rfl, rfl, rfl, rfl, (by simp [upd]), rfl, fun _ _ => ⟨rfl, rfl, rfl⟩⟩⟩
    · simp only [if_neg p0]
      exact ⟨rfl, hl, ⟨z1, z2, z3, z4, z5, (by simp [upd]), z7⟩, ho0.fr ⟨rfl, rfl, rfl, rfl, rfl, (by simp [upd]), rfl, fun _ _ => ⟨rfl, rfl, rfl⟩⟩⟩
  · by_cases n1 : n = 1
    · subst n1
      simp only [if_neg n0, if_true, isn_1, if_neg one0, cl1, fuse_v]
      obtain ⟨z1, z2, z3, z4, z5, z6, z7⟩ := ho
      by_cases p0 : 0 ≤ p
      · simp only [if_pos p0]
        exact ⟨rfl, hl, hz0.fr ⟨rfl, rfl, rfl, rfl, rfl, (by simp [upd]), rfl, fun _ _ => ⟨rfl, rfl, rfl⟩⟩, ⟨z1, z2, z3, z4, z5, (by simp [upd]), z7⟩⟩
      · simp only [if_neg p0]
        exact ⟨rfl, hl, hz0.fr ⟨rfl, rfl, rfl, rfl, rfl, (by simp [upd]), rfl, fun _ _ => ⟨rfl, rfl, rfl⟩⟩, ⟨z1, z2, z3, z4, z5, (by simp [upd]), z7⟩⟩
    · simp only [if_neg n0, if_neg n1, isn_n n0 n1, if_true]
      exact ⟨rfl, hl, hz0, ho0⟩
theorem crash_sim (h : Rel L B x y) (n : Int32) : Sim L B (f_t_crash x n) (f_m_crash y n) := by
  obtain ⟨hl, hz, ho⟩ := h
  have hz0 := hz
  have ho0 := ho
  unfold f_t_crash f_m_crash f_n_goDown
  by_cases n0 : n = 0
  · subst n0
    simp only [if_true, isn_0, if_neg one0, cl0]
    obtain ⟨z1, z2, z3, z4, z5, z6, z7⟩ := hz
    rcases z3 with ⟨u1, u2⟩ | ⟨u1, u2, u3⟩
    · simp only [u1, u2, if_neg one0, if_true]
      exact ⟨rfl, hl, ⟨z1, z2, Or.inr ⟨rfl, (by simp [upd]), rfl⟩, ⟨(by simp [upd]), Or.inl rfl⟩, z5, (by simp [upd]), z7⟩, ho0.fr ⟨rfl, rfl, (by simp [upd]), (by simp [upd]), rfl, (by simp [upd]), rfl, fun _ _ => ⟨rfl, rfl, rfl⟩⟩⟩
    · simp only [u1, u2, if_neg one0, if_true]
      exact ⟨rfl, hl, ⟨z1, z2, Or.inr ⟨rfl, (by simp [upd]), rfl⟩, ⟨(by simp [upd]), Or.inl rfl⟩, z5, (by simp [upd]), z7⟩, ho0.fr ⟨rfl, rfl, (by simp [upd]), (by simp [upd]), rfl, (by simp [upd]), rfl, fun _ _ => ⟨rfl, rfl, rfl⟩⟩⟩
  · by_cases n1 : n = 1
    · subst n1
      simp only [if_neg n0, if_true, isn_1, if_neg one0, cl1]
      obtain ⟨z1, z2, z3, z4, z5, z6, z7⟩ := ho
      rcases z3 with ⟨u1, u2⟩ | ⟨u1, u2, u3⟩
      · simp only [u1, u2, if_neg one0, if_true]
        exact ⟨rfl, hl, hz0.fr ⟨rfl, rfl, (by simp [upd]), (by simp [upd]), rfl, (by simp [upd]), rfl, fun _ _ => ⟨rfl, rfl, rfl⟩⟩, ⟨z1, z2, Or.inr ⟨rfl, (by simp [upd]), rfl⟩, ⟨(by simp [upd]), Or.inl rfl⟩, z5, (by simp [upd]), z7⟩⟩
      · simp only [u1, u2, if_neg one0, if_true]
        exact ⟨rfl, hl, hz0.fr ⟨rfl, rfl, (by simp [upd]), (by simp [upd]), rfl, (by simp [upd]), rfl, fun _ _ => ⟨rfl, rfl, rfl⟩⟩, ⟨z1, z2, Or.inr ⟨rfl, (by simp [upd]), rfl⟩, ⟨(by simp [upd]), Or.inl rfl⟩, z5, (by simp [upd]), z7⟩⟩
    · simp only [if_neg n0, if_neg n1, isn_n n0 n1, if_true]
      exact ⟨rfl, hl, hz0, ho0⟩
theorem recover_sim (h : Rel L B x y) (n : Int32) : Sim L B (f_t_recover x n) (f_m_recover y n) := by
  obtain ⟨hl, hz, ho⟩ := h
  have hz0 := hz
  have ho0 := ho
  unfold f_t_recover f_m_recover f_n_comeUp
  by_cases n0 : n = 0
  · subst n0
    simp only [if_true, isn_0, if_neg one0, cl0]
    obtain ⟨z1, z2, z3, z4, z5, z6, z7⟩ := hz
    rcases z3 with ⟨u1, u2⟩ | ⟨u1, u2, u3⟩
    · simp only [u1, u2, if_neg one0, if_true]
      exact ⟨rfl, hl, hz0, ho0⟩
    · simp only [u1, u2, if_neg one0, if_true]
      obtain ⟨c, hc, e1, e2, -⟩ := id z1
      exact ⟨e1.trans e2.symm, hl, ⟨z1, z2, Or.inl ⟨rfl, (by simp [upd])⟩, ⟨(by simp [upd, u3]), Or.inl u3⟩, z5, (by simp [upd]), z7⟩, ho0.fr ⟨rfl, rfl, (by simp [upd]), (by simp [upd]), rfl, (by simp [upd]), rfl, fun _ _ => ⟨rfl, rfl, rfl⟩⟩⟩
  · by_cases n1 : n = 1
    · subst n1
      simp only [if_neg n0, if_true, isn_1, if_neg one0, cl1]
      obtain ⟨z1, z2, z3, z4, z5, z6, z7⟩ := ho
      rcases z3 with ⟨u1, u2⟩ | ⟨u1, u2, u3⟩
      · simp only [u1, u2, if_neg one0, if_true]
        exact ⟨rfl, hl, hz0, ho0⟩
      · simp only [u1, u2, if_neg one0, if_true]
        obtain ⟨c, hc, e1, e2, -⟩ := id z1
        exact ⟨e1.trans e2.symm, hl, hz0.fr ⟨rfl, rfl, (by simp [upd]), (by simp [upd]), rfl, (by simp [upd]), rfl, fun _ _ => ⟨rfl, rfl, rfl⟩⟩, ⟨z1, z2, Or.inl ⟨rfl, (by simp [upd])⟩, ⟨(by simp [upd, u3]), Or.inl u3⟩, z5, (by simp [upd]), z7⟩⟩
    · simp only [if_neg n0, if_neg n1, isn_n n0 n1, if_true]
      exact ⟨rfl, hl, hz0, ho0⟩
/-- the two ways to the next term are one -/
theorem own_term {t j : Nat} (ht : t < 2 ^ 30) (hj : j < 2) : (if ((nI t + 1) - (nI t + 1) / 2 * 2) = nI j then nI t + 1 else nI t + 2) = (if (nI t - nI t / 2 * 2) = nI j then nI t + 2 else nI t + 1) := by
  have r1 : (nI t + 1) - (nI t + 1) / 2 * 2 = nI ((t + 1) % 2) := by
    rw [show (2 : Int32) = nI 2 from rfl, nI_1, pk_rem (by omega) (by omega) (by omega)]
  have r2 : nI t - nI t / 2 * 2 = nI (t % 2) := by
    rw [show (2 : Int32) = nI 2 from rfl, pk_rem (by omega) (by omega) (by omega)]
  rw [r1, r2]
  by_cases h : t % 2 = j
  · have b : ¬ nI ((t + 1) % 2) = nI j := fun z => by
      have := (nI_eq (by omega) (by omega)).mp z
      omega
    rw [if_pos (congrArg nI h), if_neg b]
  · have b : ¬ nI (t % 2) = nI j := fun z => h ((nI_eq (by omega) (by omega)).mp z)
    rw [if_neg b, if_pos (congrArg nI (show (t + 1) % 2 = j by omega))]
theorem prom_sim {j : Nat} {v : Nd} {r : Rn} (hj : j < 2) (hB : B + 2 < 2 ^ 30) (hn : NR B j v r) : ∃ t : Nat, t ≤ B + 2 ∧ f_n_nextOwnTerm (nI j) v = nI t ∧ (if (r.1 j - r.1 j / 2 * 2) = nI j then r.1 j + 2 else r.1 j + 1) = nI t := by
  obtain ⟨-, ⟨e, t, ht, et⟩, -⟩ := hn
  have h := own_term (t := t) (j := j) (by omega) hj
  unfold f_n_nextOwnTerm
  rw [← e, et, ← h]
  by_cases g : ((nI t + 1) - (nI t + 1) / 2 * 2) = nI j
  · rw [if_pos g]; exact ⟨t + 1, by omega, nI_1 t, nI_1 t⟩
  · rw [if_neg g]; exact ⟨t + 2, by omega, nI_add t 2, nI_add t 2⟩
theorem chg_up {v : Nd} {t : Int32} (g : ¬ (f_n_changeTerm v t).1 = 0) : (f_n_changeTerm v t).2.2.2.1 = v.2.2.1 ∧ (f_n_changeTerm v t).2.2.1 = t := by
  unfold f_n_changeTerm at g ⊢
  by_cases h : (f_n_startWrite v).1 = 0
  · simp only [if_pos h] at g; exact absurd trivial g
  · simp only [if_neg h]
    refine ⟨?_, by trivial⟩
    unfold f_n_startWrite at h ⊢
    by_cases h0 : v.2.2.2.2.2.1 = 0
    · simp only [if_pos h0] at h; exact absurd trivial h
    · simp only [if_neg h0]
      split <;> rfl
theorem promote_1 {j t : Nat} {v : Nd} {r : Rn} (hj : j < 2) (hn : NR B j v r) (hup : v.2.2.1 = 1) (ht : t ≤ B) (g : ¬ (f_n_changeTerm v (nI t)).1 = 0) : NR B j ((f_n_changeTerm v (nI t)).2.1, (f_n_changeTerm v (nI t)).2.2.1, (f_n_changeTerm v (nI t)).2.2.2.1, 1, (-1), (f_n_changeTerm v (nI t)).2.2.2.2.2.2.1, (f_n_changeTerm v (nI t)).2.2.2.2.2.2.2.1, (f_n_changeTerm v (nI t)).2.2.2.2.2.2.2.2.1, (f_n_changeTerm v (nI t)).2.2.2.2.2.2.2.2.2.1, (f_n_changeTerm v (nI t)).2.2.2.2.2.2.2.2.2.2) ((f_m_becomeTerm r (nI j) (nI t)).2.1, (f_m_becomeTerm r (nI j) (nI t)).2.2.1, (f_m_becomeTerm r (nI j) (nI t)).2.2.2.1, upd (f_m_becomeTerm r (nI j) (nI t)).2.2.2.2.1 j 1, upd (f_m_becomeTerm r (nI j) (nI t)).2.2.2.2.2.1 j (-1), (f_m_becomeTerm r (nI j) (nI t)).2.2.2.2.2.2.1, (f_m_becomeTerm r (nI j) (nI t)).2.2.2.2.2.2.2.1, (f_m_becomeTerm r (nI j) (nI t)).2.2.2.2.2.2.2.2.1, (f_m_becomeTerm r (nI j) (nI t)).2.2.2.2.2.2.2.2.2.1, (f_m_becomeTerm r (nI j) (nI t)).2.2.2.2.2.2.2.2.2.2) := by
  obtain ⟨-, c1, c2, c3, c4, c5, c6, c7⟩ := bt_sim hj hn ht
  have hu := (chg_up g).1.trans hup
  refine ⟨c1, c2, ?_, ⟨pk_us.symm, Or.inr rfl⟩, pk_us.symm, c6, c7⟩
  rcases c3 with z | z
  · exact Or.inl z
  · exact absurd (z.1.symm.trans hu) (by decide)
theorem ap_len {v : Nd} {a b c : Int32} (g : ¬ (f_n_append v a b c).1 = 0) : (f_n_append v a b c).2.1 = v.1 + 1 := by
  have hl := sw_len v
  unfold f_n_append at g ⊢
  by_cases h : (64 : Int32) ≤ v.1
  · simp only [if_pos h] at g; exact absurd trivial g
  · by_cases h2 : (f_n_startWrite v).1 = 0
    · simp only [if_neg h, if_pos h2] at g; exact absurd trivial g
    · simp only [if_neg h, if_neg h2]
      rw [hl]
theorem sm_cg {a1 a2 a3 b1 b2 b3 c1 c2 c3 d1 d2 d3 : Nat → Int32} : ∀ (n i : Nat), (∀ k, i ≤ k → k < i + n → a1 k = d1 k ∧ a2 k = d2 k ∧ a3 k = d3 k ∧ b1 k = c1 k ∧ b2 k = c2 k ∧ b3 k = c3 k) → sm a1 a2 a3 b1 b2 b3 n i = sm c1 c2 c3 d1 d2 d3 n i
  | 0, _, _ => rfl
  | n + 1, i, h => by
    obtain ⟨g1, g2, g3, g4, g5, g6⟩ := h i (Nat.le_refl i) (by omega)
    have ih := sm_cg n (i + 1) (fun k hk hk2 => h k (by omega) (by omega))
    show (if a1 i = b1 i ∧ a2 i = b2 i ∧ a3 i = b3 i then _ else i) = (if c1 i = d1 i ∧ c2 i = d2 i ∧ c3 i = d3 i then _ else i)
    rw [ih, g1, g2, g3, g4, g5, g6]
    by_cases q : d1 i = c1 i ∧ d2 i = c2 i ∧ d3 i = c3 i
    · rw [if_pos q, if_pos ⟨q.1.symm, q.2.1.symm, q.2.2.symm⟩]
    · rw [if_neg q, if_neg (fun z => q ⟨z.1.symm, z.2.1.symm, z.2.2.symm⟩)]
theorem gl_cg {a b c d : Nat → Int32} {key : Int32} : ∀ (n : Nat), (∀ k, k < n → a k = c k ∧ b k = d k) → gl a b key n = gl c d key n
  | 0, _ => rfl
  | n + 1, h => by
    have ih := gl_cg (key := key) n (fun k hk => h k (by omega))
    obtain ⟨g1, g2⟩ := h n (by omega)
    show (if a n = key then b n else gl a b key n) = (if c n = key then d n else gl c d key n)
    rw [ih, g1, g2]
theorem same_sim (h : Rel L B x y) : f_t_same x = f_m_same y := by
  obtain ⟨-, ⟨⟨c, hc, e1, e2, e3⟩, -⟩, ⟨⟨d, hd, f1, f2, f3⟩, -⟩⟩ := h
  unfold f_t_same f_m_same
  rw [e1, e2, f1, f2, nI_clamp (by omega), nI_clamp (by omega)]
  congr 1
  refine sm_cg _ _ (fun k _ hk => ?_)
  obtain ⟨g1, g2, g3⟩ := e3 k (by omega)
  obtain ⟨k1, k2, k3⟩ := f3 k (by omega)
  rw [Nat.mul_zero, Nat.zero_add] at g1 g2 g3
  rw [Nat.mul_one] at k1 k2 k3
  exact ⟨k1, k2, k3, g1, g2, g3⟩
theorem message_sim (h : Rel L B x y) (p w : Int32) : f_t_message x p w = f_m_message y p w := by
  obtain ⟨⟨hg, c, hc, e1, e2, hm⟩, -, -⟩ := h
  unfold f_t_message f_m_message
  rw [e1, e2]
  by_cases p0 : p < 0
  · simp only [if_pos p0]
  · by_cases p1 : nI c ≤ p
    · simp only [if_neg p0, if_pos p1]
    · simp only [if_neg p0, if_neg p1]
      obtain ⟨i, hi, rfl⟩ := num_ok (n := 16) (by omega) ⟨c, hc, rfl⟩ p0 p1
      have hic : i < c := by rw [nI_leI (by omega) (by omega)] at p1; omega
      obtain ⟨w0, w1, w2, w3, -⟩ := hm i hic
      rw [nI_clamp (show i < 2 ^ 31 by omega)]
      by_cases q0 : w = 0
      · subst q0
        rw [if_pos rfl, if_neg (by decide), if_pos (by decide), w0]
        exact congrArg y.1.2 (by rw [show (0 : Int32) = nI 0 from rfl, ix_msg hi (by omega)])
      · by_cases q1 : w = 1
        · subst q1
          rw [if_neg q0, if_pos rfl, if_neg (by decide), if_pos (by decide), w1]
          exact congrArg y.1.2 (by rw [show (1 : Int32) = nI 1 from rfl, ix_msg hi (by omega)])
        · by_cases q2 : w = 2
          · subst q2
            rw [if_neg q0, if_neg q1, if_pos rfl, if_neg (by decide), if_pos (by decide), w2]
            exact congrArg y.1.2 (by rw [show (2 : Int32) = nI 2 from rfl, ix_msg hi (by omega)])
          · by_cases q3 : w = 3
            · subst q3
              rw [if_neg q0, if_neg q1, if_neg q2, if_pos rfl, if_neg (by decide), if_pos (by decide), w3]
              exact congrArg y.1.2 (by rw [show (3 : Int32) = nI 3 from rfl, ix_msg hi (by omega)])
            · rw [if_neg q0, if_neg q1, if_neg q2, if_neg q3]
              by_cases l0 : w < 0
              · rw [if_pos l0]
              · rw [if_neg l0]
                by_cases l3 : w ≤ 3
                · exfalso
                  have a0 := i_ne 0 q0
                  have a1 := i_ne 1 q1
                  have a2 := i_ne 2 q2
                  have a3 := i_ne 3 q3
                  rw [Int32.lt_iff_toInt_lt] at l0
                  rw [Int32.le_iff_toInt_le] at l3
                  rw [show (0 : Int32).toInt = 0 from rfl] at a0 l0
                  rw [show (1 : Int32).toInt = 1 from rfl] at a1
                  rw [show (2 : Int32).toInt = 2 from rfl] at a2
                  rw [show (3 : Int32).toInt = 3 from rfl] at a3 l3
                  omega
                · rw [if_neg l3]

theorem told_sim (h : Rel L B x y) (n p : Int32) : f_t_told x n p = f_m_told y n p := by
  obtain ⟨hl, hz, ho⟩ := h
  have hz0 := hz
  have ho0 := ho
  unfold f_t_told f_m_told
  by_cases n0 : n = 0
  · subst n0
    simp only [if_true, isn_0, if_neg one0, cl0]
    obtain ⟨⟨c, hc, e1, e2, -⟩, ⟨ht, -⟩, z3, ⟨hp, -⟩, z5, z6, z7⟩ := id hz0
    rcases z3 with ⟨u1, u2⟩ | ⟨u1, u2, u3⟩
    · simp only [ht, e1, e2, u1, u2, hp, z5, z6, z7, if_neg one0, if_true]
    · simp only [ht, e1, e2, u1, u2, hp, z5, z6, z7, if_neg one0, if_true]
  · by_cases n1 : n = 1
    · subst n1
      simp only [if_neg n0, if_true, isn_1, if_neg one0, cl1]
      obtain ⟨⟨c, hc, e1, e2, -⟩, ⟨ht, -⟩, z3, ⟨hp, -⟩, z5, z6, z7⟩ := id ho0
      rcases z3 with ⟨u1, u2⟩ | ⟨u1, u2, u3⟩
      · simp only [ht, e1, e2, u1, u2, hp, z5, z6, z7, if_neg one0, if_true]
      · simp only [ht, e1, e2, u1, u2, hp, z5, z6, z7, if_neg one0, if_true]
    · simp only [if_neg n0, if_neg n1, isn_n n0 n1, if_true]
      skip
theorem get_sim (h : Rel L B x y) (n p : Int32) : f_t_get x n p = f_m_get y n p := by
  obtain ⟨hl, hz, ho⟩ := h
  have hz0 := hz
  have ho0 := ho
  unfold f_t_get f_m_get
  by_cases n0 : n = 0
  · subst n0
    simp only [if_true, isn_0, if_neg one0, cl0]
    obtain ⟨⟨c, hc, e1, e2, e3⟩, -⟩ := id hz0
    rw [e1, e2, nI_clamp (by omega)]
    by_cases hk : f_t_isKey p = 0
    · rw [if_pos hk]
      rcases (key_iff p).mp hk with k0 | k0
      · rw [if_pos k0]
      · by_cases k1 : p < 0
        · rw [if_pos k1]
        · rw [if_neg k1, if_neg k0]
    · rw [if_neg hk]
      have hk' := fun z => hk ((key_iff p).mpr z)
      rw [if_neg (fun z => hk' (Or.inl z)), if_pos (Decidable.not_not.mp (fun z => hk' (Or.inr z)))]
      exact gl_cg c (fun k hk => by
        obtain ⟨g1, g2, g3⟩ := e3 k hk
        have hx : 64 * 0 + k = 64 * (0 : Int32).toNatClampNeg + k := by rw [cl0]
        exact ⟨g2.trans (congrArg y.2.1.2.2.2.2.2.2.2.2.1 hx), g3.trans (congrArg y.2.1.2.2.2.2.2.2.2.2.2 hx)⟩)
  · by_cases n1 : n = 1
    · subst n1
      simp only [if_neg n0, if_true, isn_1, if_neg one0, cl1]
      obtain ⟨⟨c, hc, e1, e2, e3⟩, -⟩ := id ho0
      rw [e1, e2, nI_clamp (by omega)]
      by_cases hk : f_t_isKey p = 0
      · rw [if_pos hk]
        rcases (key_iff p).mp hk with k0 | k0
        · rw [if_pos k0]
        · by_cases k1 : p < 0
          · rw [if_pos k1]
          · rw [if_neg k1, if_neg k0]
      · rw [if_neg hk]
        have hk' := fun z => hk ((key_iff p).mpr z)
        rw [if_neg (fun z => hk' (Or.inl z)), if_pos (Decidable.not_not.mp (fun z => hk' (Or.inr z)))]
        exact gl_cg c (fun k hk => by
          obtain ⟨g1, g2, g3⟩ := e3 k hk
          have hx : 64 * 1 + k = 64 * (1 : Int32).toNatClampNeg + k := by rw [cl1]
          exact ⟨g2.trans (congrArg y.2.1.2.2.2.2.2.2.2.2.1 hx), g3.trans (congrArg y.2.1.2.2.2.2.2.2.2.2.2 hx)⟩)
    · simp only [if_neg n0, if_neg n1, isn_n n0 n1, if_true]
      skip
theorem entry_sim (h : Rel L B x y) (n p w : Int32) : f_t_entry x n p w = f_m_entry y n p w := by
  obtain ⟨hl, hz, ho⟩ := h
  have hz0 := hz
  have ho0 := ho
  unfold f_t_entry f_m_entry
  by_cases n0 : n = 0
  · subst n0
    simp only [if_true, isn_0, if_neg one0, cl0]
    obtain ⟨⟨c, hc, e1, e2, e3⟩, -⟩ := id hz0
    rw [e2]
    by_cases p0 : p < 0
    · simp only [if_pos p0, has_0 (v := x.2.1) (Or.inl p0), if_true]
    · by_cases p1 : nI c ≤ p
      · have p2 : ¬ p < nI c := fun z => nle_of z p1
        simp only [if_neg p0, if_neg p2, has_0 (v := x.2.1) (Or.inr (by rw [e1]; exact p1)), if_true]
      · have p2 : p < nI c := Decidable.not_not.mp (fun z => p1 (by rw [Int32.lt_iff_toInt_lt] at z; rw [Int32.le_iff_toInt_le]; omega))
        have hh := has_1 (v := x.2.1) p0 (by rw [e1]; exact p1)
        simp only [if_neg p0, if_pos p2, hh, if_neg one0]
        obtain ⟨i, hi, rfl⟩ := num_ok (n := 64) (by omega) ⟨c, hc, rfl⟩ p0 p1
        rw [nI_leI (by omega) (by omega)] at p1
        obtain ⟨g1, g2, g3⟩ := e3 i (by omega)
        rw [show (64 * 0 + nI i).toNatClampNeg = 64 * 0 + i from ix_ent (j := 0) (by omega) hi, nI_clamp (show i < 2 ^ 31 by omega), g1, g2, g3]
  · by_cases n1 : n = 1
    · subst n1
      simp only [if_neg n0, if_true, isn_1, if_neg one0, cl1]
      obtain ⟨⟨c, hc, e1, e2, e3⟩, -⟩ := id ho0
      rw [e2]
      by_cases p0 : p < 0
      · simp only [if_pos p0, has_0 (v := x.2.2) (Or.inl p0), if_true]
      · by_cases p1 : nI c ≤ p
        · have p2 : ¬ p < nI c := fun z => nle_of z p1
          simp only [if_neg p0, if_neg p2, has_0 (v := x.2.2) (Or.inr (by rw [e1]; exact p1)), if_true]
        · have p2 : p < nI c := Decidable.not_not.mp (fun z => p1 (by rw [Int32.lt_iff_toInt_lt] at z; rw [Int32.le_iff_toInt_le]; omega))
          have hh := has_1 (v := x.2.2) p0 (by rw [e1]; exact p1)
          simp only [if_neg p0, if_pos p2, hh, if_neg one0]
          obtain ⟨i, hi, rfl⟩ := num_ok (n := 64) (by omega) ⟨c, hc, rfl⟩ p0 p1
          rw [nI_leI (by omega) (by omega)] at p1
          obtain ⟨g1, g2, g3⟩ := e3 i (by omega)
          rw [show (64 * 1 + nI i).toNatClampNeg = 64 * 1 + i from ix_ent (j := 1) (by omega) hi, nI_clamp (show i < 2 ^ 31 by omega), g1, g2, g3]
    · simp only [if_neg n0, if_neg n1, isn_n n0 n1, if_true]
      skip
theorem rejoin_sim {B' : Nat} (hB : B ≤ B') (h : Rel L B x y) (n : Int32) : Sim L B' (f_t_rejoin x n) (f_m_rejoin y n) := by
  have hrel := h.mono hB
  obtain ⟨hl, hz, ho⟩ := h
  have hz0 := hz
  have ho0 := ho
  unfold f_t_rejoin f_m_rejoin
  by_cases n0 : n = 0
  · subst n0
    simp only [if_true, isn_0, if_neg one0, cl0]
    have hn := hz0
    obtain ⟨⟨c, hc, e1, e2, -⟩, -, z3, ⟨hp, hp01⟩, -⟩ := id hz0
    rcases z3 with ⟨u1, u2⟩ | ⟨u1, u2, u3⟩
    · simp only [u1, u2, if_neg one0, if_true]
      rcases hp01 with p0 | p0
      · rw [p0] at hp
        simp only [p0, ← hp, if_true]
        have hl0 := hl
        obtain ⟨hg, d, hd, f1, f2, hm⟩ := hl
        by_cases hf : d < 16
        · simp only [if_pos ((full_iff hd f1).mpr hf), f2, if_neg (ne16 hf)]
          obtain ⟨a1, a2⟩ := sd_sim (j := 0) (num := nI c) (by omega) hl0 hn (Or.inr rfl)
          rw [e1, e2]
          exact ⟨rfl, Rel.mono (B := B) ⟨a1, hz0, ho0⟩ hB⟩
        · have hq : y.1.1 = 16 := by rw [f2, show d = 16 by omega]; rfl
          simp only [if_neg (fun z => hf ((full_iff hd f1).mp z)), if_pos hq]
          exact ⟨rfl, hrel⟩
      · rw [p0] at hp
        simp only [p0, ← hp, if_neg one0]
        exact ⟨rfl, hrel⟩
    · simp only [u1, u2, if_neg one0, if_true]
      exact ⟨rfl, hrel⟩
  · by_cases n1 : n = 1
    · subst n1
      simp only [if_neg n0, if_true, isn_1, if_neg one0, cl1]
      have hn := ho0
      obtain ⟨⟨c, hc, e1, e2, -⟩, -, z3, ⟨hp, hp01⟩, -⟩ := id ho0
      rcases z3 with ⟨u1, u2⟩ | ⟨u1, u2, u3⟩
      · simp only [u1, u2, if_neg one0, if_true]
        rcases hp01 with p0 | p0
        · rw [p0] at hp
          simp only [p0, ← hp, if_true]
          have hl0 := hl
          obtain ⟨hg, d, hd, f1, f2, hm⟩ := hl
          by_cases hf : d < 16
          · simp only [if_pos ((full_iff hd f1).mpr hf), f2, if_neg (ne16 hf)]
            obtain ⟨a1, a2⟩ := sd_sim (j := 1) (num := nI c) (by omega) hl0 hn (Or.inr rfl)
            rw [e1, e2]
            exact ⟨rfl, Rel.mono (B := B) ⟨a1, hz0, ho0⟩ hB⟩
          · have hq : y.1.1 = 16 := by rw [f2, show d = 16 by omega]; rfl
            simp only [if_neg (fun z => hf ((full_iff hd f1).mp z)), if_pos hq]
            exact ⟨rfl, hrel⟩
        · rw [p0] at hp
          simp only [p0, ← hp, if_neg one0]
          exact ⟨rfl, hrel⟩
      · simp only [u1, u2, if_neg one0, if_true]
        exact ⟨rfl, hrel⟩
    · simp only [if_neg n0, if_neg n1, isn_n n0 n1, if_true]
      exact ⟨rfl, hrel⟩
theorem put_sim {B' : Nat} (hB : B ≤ B') (h : Rel L B x y) (n p w : Int32) : Sim L B' (f_t_put x n p w) (f_m_put y n p w) := by
  have hrel := h.mono hB
  obtain ⟨hl, hz, ho⟩ := h
  have hz0 := hz
  have ho0 := ho
  unfold f_t_put f_m_put
  by_cases n0 : n = 0
  · subst n0
    simp only [if_true, isn_0, if_neg one0, cl0]
    have hn := hz0
    obtain ⟨⟨c, hc, e1, e2, e3⟩, ⟨ht, htt⟩, z3, ⟨hp, hp01⟩, -⟩ := id hz0
    by_cases hk : f_t_isKey p = 0
    · rw [if_pos hk]
      rcases (key_iff p).mp hk with k0 | k0
      · rw [if_pos k0]; exact ⟨rfl, hrel⟩
      · by_cases k1 : p < 0
        · rw [if_pos k1]; exact ⟨rfl, hrel⟩
        · rw [if_neg k1, if_neg k0]; exact ⟨rfl, hrel⟩
    · have hk' := fun z => hk ((key_iff p).mpr z)
      rw [if_neg hk, if_neg (fun z => hk' (Or.inl z)), if_pos (Decidable.not_not.mp (fun z => hk' (Or.inr z)))]
      rcases z3 with ⟨u1, u2⟩ | ⟨u1, u2, u3⟩
      · simp only [u1, u2, if_neg one0, if_true]
        rcases hp01 with p0 | p0
        · rw [p0] at hp
          simp only [p0, ← hp, if_true]
          exact ⟨rfl, hrel⟩
        · rw [p0] at hp
          simp only [p0, ← hp, if_neg one0]
          have hl0 := hl
          obtain ⟨hg, d, hd, f1, f2, hm⟩ := hl
          by_cases h64 : c = 64
          · have q1 : (64 : Int32) ≤ x.2.1.1 := by rw [e1, h64]; decide
            have q2 : y.2.1.2.1 0 = 64 := by rw [e2, h64]; rfl
            simp only [if_pos q1, if_pos q2]
            exact ⟨rfl, hrel⟩
          · have q1 : ¬ (64 : Int32) ≤ x.2.1.1 := by rw [e1]; exact fun z => by have := (nI_leI (a := 64) (by omega) (by omega)).mp z; omega
            have q2 : ¬ y.2.1.2.1 0 = 64 := by rw [e2]; exact fun z => h64 ((nI_eq (b := 64) (by omega) (by omega)).mp z)
            simp only [if_neg q1, if_neg q2]
            by_cases hf : d < 16
            · simp only [if_pos ((full_iff hd f1).mpr hf), f2, if_neg (ne16 hf)]
              obtain ⟨b1, b2⟩ := ap_sim (j := 0) (by omega) hn q1 x.2.1.2.1 p w
              rw [← ht]
              have fr := fun i (hi : i < 2) (hne : i ≠ 0) => pb_fr (j := 0) y.2.1 x.2.1.2.1 p w (by omega) hi hne (show c < 64 by omega) e2
              have hot := ho0.fr (fr 1 (by omega) (by omega))
              have b1' : (f_n_append x.2.1 x.2.1.2.1 p w).1 = (f_m_putBehind y.2.1 0 x.2.1.2.1 p w).1 := b1
              rw [← b1']
              by_cases g : (f_n_append x.2.1 x.2.1.2.1 p w).1 = 0
              · simp only [if_pos g]
                exact ⟨rfl, Rel.mono (B := B) ⟨hl0, b2, hot⟩ hB⟩
              · simp only [if_neg g]
                have hal := ap_len g
                rw [e1, nI_1] at hal
                obtain ⟨⟨cx, hcx, k1, k2, -⟩, -⟩ := id b2
                have hcc : cx = c + 1 := (nI_eq (by omega) (by omega)).mp (k1.symm.trans hal)
                subst hcc
                have k2' : (f_m_putBehind y.2.1 0 x.2.1.2.1 p w).2.2.1 0 = nI (c + 1) := k2
                rw [k2', nI_pred, e1]
                obtain ⟨a1, -⟩ := sp_sim (j := 0) (i := c) (by omega) hl0 b2 k1 hcx (by omega)
                exact ⟨rfl, Rel.mono (B := B) ⟨a1, b2, hot⟩ hB⟩
            · have hq : y.1.1 = 16 := by rw [f2, show d = 16 by omega]; rfl
              simp only [if_neg (fun z => hf ((full_iff hd f1).mp z)), if_pos hq]
              exact ⟨rfl, hrel⟩
      · simp only [u1, u2, if_neg one0, if_true]
        exact ⟨rfl, hrel⟩
  · by_cases n1 : n = 1
    · subst n1
      simp only [if_neg n0, if_true, isn_1, if_neg one0, cl1]
      have hn := ho0
      obtain ⟨⟨c, hc, e1, e2, e3⟩, ⟨ht, htt⟩, z3, ⟨hp, hp01⟩, -⟩ := id ho0
      by_cases hk : f_t_isKey p = 0
      · rw [if_pos hk]
        rcases (key_iff p).mp hk with k0 | k0
        · rw [if_pos k0]; exact ⟨rfl, hrel⟩
        · by_cases k1 : p < 0
          · rw [if_pos k1]; exact ⟨rfl, hrel⟩
          · rw [if_neg k1, if_neg k0]; exact ⟨rfl, hrel⟩
      · have hk' := fun z => hk ((key_iff p).mpr z)
        rw [if_neg hk, if_neg (fun z => hk' (Or.inl z)), if_pos (Decidable.not_not.mp (fun z => hk' (Or.inr z)))]
        rcases z3 with ⟨u1, u2⟩ | ⟨u1, u2, u3⟩
        · simp only [u1, u2, if_neg one0, if_true]
          rcases hp01 with p0 | p0
          · rw [p0] at hp
            simp only [p0, ← hp, if_true]
            exact ⟨rfl, hrel⟩
          · rw [p0] at hp
            simp only [p0, ← hp, if_neg one0]
            have hl0 := hl
            obtain ⟨hg, d, hd, f1, f2, hm⟩ := hl
            by_cases h64 : c = 64
            · have q1 : (64 : Int32) ≤ x.2.2.1 := by rw [e1, h64]; decide
              have q2 : y.2.1.2.1 1 = 64 := by rw [e2, h64]; rfl
              simp only [if_pos q1, if_pos q2]
              exact ⟨rfl, hrel⟩
            · have q1 : ¬ (64 : Int32) ≤ x.2.2.1 := by rw [e1]; exact fun z => by have := (nI_leI (a := 64) (by omega) (by omega)).mp z; omega
              have q2 : ¬ y.2.1.2.1 1 = 64 := by rw [e2]; exact fun z => h64 ((nI_eq (b := 64) (by omega) (by omega)).mp z)
              simp only [if_neg q1, if_neg q2]
              by_cases hf : d < 16
              · simp only [if_pos ((full_iff hd f1).mpr hf), f2, if_neg (ne16 hf)]
                obtain ⟨b1, b2⟩ := ap_sim (j := 1) (by omega) hn q1 x.2.2.2.1 p w
                rw [← ht]
                have fr := fun i (hi : i < 2) (hne : i ≠ 1) => pb_fr (j := 1) y.2.1 x.2.2.2.1 p w (by omega) hi hne (show c < 64 by omega) e2
                have hot := hz0.fr (fr 0 (by omega) (by omega))
                have b1' : (f_n_append x.2.2 x.2.2.2.1 p w).1 = (f_m_putBehind y.2.1 1 x.2.2.2.1 p w).1 := b1
                rw [← b1']
                by_cases g : (f_n_append x.2.2 x.2.2.2.1 p w).1 = 0
                · simp only [if_pos g]
                  exact ⟨rfl, Rel.mono (B := B) ⟨hl0, hot, b2⟩ hB⟩
                · simp only [if_neg g]
                  have hal := ap_len g
                  rw [e1, nI_1] at hal
                  obtain ⟨⟨cx, hcx, k1, k2, -⟩, -⟩ := id b2
                  have hcc : cx = c + 1 := (nI_eq (by omega) (by omega)).mp (k1.symm.trans hal)
                  subst hcc
                  have k2' : (f_m_putBehind y.2.1 1 x.2.2.2.1 p w).2.2.1 1 = nI (c + 1) := k2
                  rw [k2', nI_pred, e1]
                  obtain ⟨a1, -⟩ := sp_sim (j := 1) (i := c) (by omega) hl0 b2 k1 hcx (by omega)
                  exact ⟨rfl, Rel.mono (B := B) ⟨a1, hot, b2⟩ hB⟩
              · have hq : y.1.1 = 16 := by rw [f2, show d = 16 by omega]; rfl
                simp only [if_neg (fun z => hf ((full_iff hd f1).mp z)), if_pos hq]
                exact ⟨rfl, hrel⟩
        · simp only [u1, u2, if_neg one0, if_true]
          exact ⟨rfl, hrel⟩
    · simp only [if_neg n0, if_neg n1, isn_n n0 n1, if_true]
      exact ⟨rfl, hrel⟩
theorem promote_sim {B' : Nat} (hB : B ≤ B') (hBB : B' = B + 2) (hB2 : B + 2 < 2 ^ 30) (h : Rel L B x y) (n : Int32) : Sim L B' (f_t_promote x n) (f_m_promote y n) := by
  have hrel := h.mono hB
  obtain ⟨hl, hz, ho⟩ := h
  have hz0 := hz
  have ho0 := ho
  unfold f_t_promote f_m_promote
  by_cases n0 : n = 0
  · subst n0
    simp only [if_true, isn_0, if_neg one0, cl0]
    have hn := hz0
    obtain ⟨-, -, z3, -⟩ := id hz0
    obtain ⟨t, htB, t1, t2⟩ := prom_sim (j := 0) (by omega) hB2 hn
    have t1' : f_n_nextOwnTerm 0 x.2.1 = nI t := t1
    rcases z3 with ⟨u1, u2⟩ | ⟨u1, u2, u3⟩
    · simp only [u1, u2, if_neg one0, if_true, t1']
      have hn2 := hn.mono hB
      obtain ⟨b1, b2⟩ := bt_sim (j := 0) (t := t) (by omega) hn2 (by omega)
      have b1' : (f_n_changeTerm x.2.1 (nI t)).1 = (f_m_becomeTerm y.2.1 0 (nI t)).1 := b1
      have fr := fun i (hi : i < 2) (hne : i ≠ 0) => bt_fr (j := 0) y.2.1 (nI t) (by omega) hne
      have hot : NR B' 1 x.2.2 (f_m_becomeTerm y.2.1 0 (nI t)).2 := (ho0.mono hB).fr (fr 1 (by omega) (by omega))
      have hl2 := hl.mono hB
      have fin : Sim L B' (if (f_n_changeTerm x.2.1 (nI t)).1 = 0 then ((-4), (x.1, (f_n_changeTerm x.2.1 (nI t)).2, x.2.2)) else ((f_n_changeTerm x.2.1 (nI t)).2.2.1, (x.1, ((f_n_changeTerm x.2.1 (nI t)).2.1, (f_n_changeTerm x.2.1 (nI t)).2.2.1, (f_n_changeTerm x.2.1 (nI t)).2.2.2.1, 1, (-1), (f_n_changeTerm x.2.1 (nI t)).2.2.2.2.2.2.1, (f_n_changeTerm x.2.1 (nI t)).2.2.2.2.2.2.2.1, (f_n_changeTerm x.2.1 (nI t)).2.2.2.2.2.2.2.2.1, (f_n_changeTerm x.2.1 (nI t)).2.2.2.2.2.2.2.2.2.1, (f_n_changeTerm x.2.1 (nI t)).2.2.2.2.2.2.2.2.2.2), x.2.2))) (if (f_m_becomeTerm y.2.1 0 (nI t)).1 = 0 then ((-4), (y.1, (f_m_becomeTerm y.2.1 0 (nI t)).2, y.2.2)) else (nI t, (y.1, ((f_m_becomeTerm y.2.1 0 (nI t)).2.1, (f_m_becomeTerm y.2.1 0 (nI t)).2.2.1, (f_m_becomeTerm y.2.1 0 (nI t)).2.2.2.1, (upd (f_m_becomeTerm y.2.1 0 (nI t)).2.2.2.2.1 0 1), (upd (f_m_becomeTerm y.2.1 0 (nI t)).2.2.2.2.2.1 0 (-1)), (f_m_becomeTerm y.2.1 0 (nI t)).2.2.2.2.2.2.1, (f_m_becomeTerm y.2.1 0 (nI t)).2.2.2.2.2.2.2.1, (f_m_becomeTerm y.2.1 0 (nI t)).2.2.2.2.2.2.2.2.1, (f_m_becomeTerm y.2.1 0 (nI t)).2.2.2.2.2.2.2.2.2.1, (f_m_becomeTerm y.2.1 0 (nI t)).2.2.2.2.2.2.2.2.2.2), y.2.2))) := by
        rw [← b1']
        by_cases g : (f_n_changeTerm x.2.1 (nI t)).1 = 0
        · rw [if_pos g, if_pos g]
          exact ⟨rfl, hl2, b2, hot⟩
        · rw [if_neg g, if_neg g]
          have b3 := promote_1 (j := 0) (by omega) hn2 u1 (show t ≤ B' by omega) g
          have hot3 := hot.fr (r' := ((f_m_becomeTerm y.2.1 0 (nI t)).2.1, (f_m_becomeTerm y.2.1 0 (nI t)).2.2.1, (f_m_becomeTerm y.2.1 0 (nI t)).2.2.2.1, (upd (f_m_becomeTerm y.2.1 0 (nI t)).2.2.2.2.1 0 1), (upd (f_m_becomeTerm y.2.1 0 (nI t)).2.2.2.2.2.1 0 (-1)), (f_m_becomeTerm y.2.1 0 (nI t)).2.2.2.2.2.2.1, (f_m_becomeTerm y.2.1 0 (nI t)).2.2.2.2.2.2.2.1, (f_m_becomeTerm y.2.1 0 (nI t)).2.2.2.2.2.2.2.2.1, (f_m_becomeTerm y.2.1 0 (nI t)).2.2.2.2.2.2.2.2.2.1, (f_m_becomeTerm y.2.1 0 (nI t)).2.2.2.2.2.2.2.2.2.2)) ⟨rfl, rfl, rfl, (by simp [upd]), (by simp [upd]), rfl, rfl, fun _ _ => ⟨rfl, rfl, rfl⟩⟩
          exact ⟨(chg_up g).2, hl2, b3, hot3⟩
      by_cases gg : (y.2.1.1 0 - y.2.1.1 0 / 2 * 2) = 0
      · have t3 : y.2.1.1 0 + 2 = nI t := by have z : (if (y.2.1.1 0 - y.2.1.1 0 / 2 * 2) = 0 then y.2.1.1 0 + 2 else y.2.1.1 0 + 1) = nI t := t2; rw [if_pos gg] at z; exact z
        rw [if_pos gg, t3]
        exact fin
      · have t3 : y.2.1.1 0 + 1 = nI t := by have z : (if (y.2.1.1 0 - y.2.1.1 0 / 2 * 2) = 0 then y.2.1.1 0 + 2 else y.2.1.1 0 + 1) = nI t := t2; rw [if_neg gg] at z; exact z
        rw [if_neg gg, t3]
        exact fin
    · simp only [u1, u2, if_neg one0, if_true]
      exact ⟨rfl, hrel⟩
  · by_cases n1 : n = 1
    · subst n1
      simp only [if_neg n0, if_true, isn_1, if_neg one0, cl1]
      have hn := ho0
      obtain ⟨-, -, z3, -⟩ := id ho0
      obtain ⟨t, htB, t1, t2⟩ := prom_sim (j := 1) (by omega) hB2 hn
      have t1' : f_n_nextOwnTerm 1 x.2.2 = nI t := t1
      rcases z3 with ⟨u1, u2⟩ | ⟨u1, u2, u3⟩
      · simp only [u1, u2, if_neg one0, if_true, t1']
        have hn2 := hn.mono hB
        obtain ⟨b1, b2⟩ := bt_sim (j := 1) (t := t) (by omega) hn2 (by omega)
        have b1' : (f_n_changeTerm x.2.2 (nI t)).1 = (f_m_becomeTerm y.2.1 1 (nI t)).1 := b1
        have fr := fun i (hi : i < 2) (hne : i ≠ 1) => bt_fr (j := 1) y.2.1 (nI t) (by omega) hne
        have hot : NR B' 0 x.2.1 (f_m_becomeTerm y.2.1 1 (nI t)).2 := (hz0.mono hB).fr (fr 0 (by omega) (by omega))
        have hl2 := hl.mono hB
        have fin : Sim L B' (if (f_n_changeTerm x.2.2 (nI t)).1 = 0 then ((-4), (x.1, x.2.1, (f_n_changeTerm x.2.2 (nI t)).2)) else ((f_n_changeTerm x.2.2 (nI t)).2.2.1, (x.1, x.2.1, ((f_n_changeTerm x.2.2 (nI t)).2.1, (f_n_changeTerm x.2.2 (nI t)).2.2.1, (f_n_changeTerm x.2.2 (nI t)).2.2.2.1, 1, (-1), (f_n_changeTerm x.2.2 (nI t)).2.2.2.2.2.2.1, (f_n_changeTerm x.2.2 (nI t)).2.2.2.2.2.2.2.1, (f_n_changeTerm x.2.2 (nI t)).2.2.2.2.2.2.2.2.1, (f_n_changeTerm x.2.2 (nI t)).2.2.2.2.2.2.2.2.2.1, (f_n_changeTerm x.2.2 (nI t)).2.2.2.2.2.2.2.2.2.2)))) (if (f_m_becomeTerm y.2.1 1 (nI t)).1 = 0 then ((-4), (y.1, (f_m_becomeTerm y.2.1 1 (nI t)).2, y.2.2)) else (nI t, (y.1, ((f_m_becomeTerm y.2.1 1 (nI t)).2.1, (f_m_becomeTerm y.2.1 1 (nI t)).2.2.1, (f_m_becomeTerm y.2.1 1 (nI t)).2.2.2.1, (upd (f_m_becomeTerm y.2.1 1 (nI t)).2.2.2.2.1 1 1), (upd (f_m_becomeTerm y.2.1 1 (nI t)).2.2.2.2.2.1 1 (-1)), (f_m_becomeTerm y.2.1 1 (nI t)).2.2.2.2.2.2.1, (f_m_becomeTerm y.2.1 1 (nI t)).2.2.2.2.2.2.2.1, (f_m_becomeTerm y.2.1 1 (nI t)).2.2.2.2.2.2.2.2.1, (f_m_becomeTerm y.2.1 1 (nI t)).2.2.2.2.2.2.2.2.2.1, (f_m_becomeTerm y.2.1 1 (nI t)).2.2.2.2.2.2.2.2.2.2), y.2.2))) := by
          rw [← b1']
          by_cases g : (f_n_changeTerm x.2.2 (nI t)).1 = 0
          · rw [if_pos g, if_pos g]
            exact ⟨rfl, hl2, hot, b2⟩
          · rw [if_neg g, if_neg g]
            have b3 := promote_1 (j := 1) (by omega) hn2 u1 (show t ≤ B' by omega) g
            have hot3 := hot.fr (r' := ((f_m_becomeTerm y.2.1 1 (nI t)).2.1, (f_m_becomeTerm y.2.1 1 (nI t)).2.2.1, (f_m_becomeTerm y.2.1 1 (nI t)).2.2.2.1, (upd (f_m_becomeTerm y.2.1 1 (nI t)).2.2.2.2.1 1 1), (upd (f_m_becomeTerm y.2.1 1 (nI t)).2.2.2.2.2.1 1 (-1)), (f_m_becomeTerm y.2.1 1 (nI t)).2.2.2.2.2.2.1, (f_m_becomeTerm y.2.1 1 (nI t)).2.2.2.2.2.2.2.1, (f_m_becomeTerm y.2.1 1 (nI t)).2.2.2.2.2.2.2.2.1, (f_m_becomeTerm y.2.1 1 (nI t)).2.2.2.2.2.2.2.2.2.1, (f_m_becomeTerm y.2.1 1 (nI t)).2.2.2.2.2.2.2.2.2.2)) ⟨rfl, rfl, rfl, (by simp [upd]), (by simp [upd]), rfl, rfl, fun _ _ => ⟨rfl, rfl, rfl⟩⟩
            exact ⟨(chg_up g).2, hl2, hot3, b3⟩
        by_cases gg : (y.2.1.1 1 - y.2.1.1 1 / 2 * 2) = 1
        · have t3 : y.2.1.1 1 + 2 = nI t := by have z : (if (y.2.1.1 1 - y.2.1.1 1 / 2 * 2) = 1 then y.2.1.1 1 + 2 else y.2.1.1 1 + 1) = nI t := t2; rw [if_pos gg] at z; exact z
          rw [if_pos gg, t3]
          exact fin
        · have t3 : y.2.1.1 1 + 1 = nI t := by have z : (if (y.2.1.1 1 - y.2.1.1 1 / 2 * 2) = 1 then y.2.1.1 1 + 2 else y.2.1.1 1 + 1) = nI t := t2; rw [if_neg gg] at z; exact z
          rw [if_neg gg, t3]
          exact fin
      · simp only [u1, u2, if_neg one0, if_true]
        exact ⟨rfl, hrel⟩
    · simp only [if_neg n0, if_neg n1, isn_n n0 n1, if_true]
      exact ⟨rfl, hrel⟩
theorem add_c (a b : Int32) : a + b = b + a := Int32.add_comm a b
theorem pump_sim (h : Rel L B x y) : Sim L B (f_t_pump x) (f_m_pump y) := by
  have hrel := h
  obtain ⟨hl, hz, ho⟩ := h
  have hl0 := hl
  obtain ⟨hg, c, hc, e1, e2, hm⟩ := hl
  rw [pump_eq]
  unfold f_t_pump
  have n0 : ¬ (0 : Int32) < 0 := by decide
  by_cases hc0 : c = 0
  · have q1 : x.1.1 ≤ 0 := by rw [e1, hc0]; decide
    have q2 : y.1.1 = 0 := by rw [e2, hc0]; rfl
    simp only [if_neg n0, if_pos q1, if_pos q2, f_k_take]
    exact ⟨rfl, hrel⟩
  · have q1 : ¬ x.1.1 ≤ 0 := by rw [e1]; exact nI_nle (by omega) (by omega)
    have q2 : ¬ y.1.1 = 0 := by rw [e2]; exact nI_ne0 (by omega) (by omega)
    rw [if_neg q2]
    obtain ⟨cm, ecm⟩ : ∃ z : Cm, z = (upd (upd (upd (upd (upd (upd (upd (upd (upd y.2.2 (0 : Int32).toNatClampNeg (y.1.2 (0 : Int32).toNatClampNeg)) (1 : Int32).toNatClampNeg (y.1.2 (1 : Int32).toNatClampNeg)) (2 : Int32).toNatClampNeg (y.1.2 (2 : Int32).toNatClampNeg)) (3 : Int32).toNatClampNeg (y.1.2 (3 : Int32).toNatClampNeg)) (4 : Int32).toNatClampNeg (y.1.2 (4 : Int32).toNatClampNeg)) (5 : Int32).toNatClampNeg (y.1.2 (5 : Int32).toNatClampNeg)) (6 : Int32).toNatClampNeg (y.1.2 (6 : Int32).toNatClampNeg)) (7 : Int32).toNatClampNeg (y.1.2 (7 : Int32).toNatClampNeg)) (8 : Int32).toNatClampNeg (y.1.2 (8 : Int32).toNatClampNeg)) := ⟨_, rfl⟩
    rw [← ecm]
    have hcm : ∀ f, f < 9 → cm f = y.1.2 f := by
      intro f hf
      rw [ecm]
      rcases (show f = 0 ∨ f = 1 ∨ f = 2 ∨ f = 3 ∨ f = 4 ∨ f = 5 ∨ f = 6 ∨ f = 7 ∨ f = 8 by omega) with rfl | rfl | rfl | rfl | rfl | rfl | rfl | rfl | rfl <;> simp [upd, cl0, cl1, cl2, cl3, cl4, cl5, cl6, cl7, cl8]
    obtain ⟨t1, t2, t3⟩ := tk_sim hl0 e1 hc (show 0 < c by omega)
    have t1 : LR L B (f_k_take x.1 0).2 (f_m_remove y.1 0) := t1
    have t2 : (f_k_take x.1 0).2.2.2.1 = x.1.2.1 0 := t2
    have t3 : (f_k_take x.1 0).2.2.2.2 = x.1.2.2.2 := t3
    have hmr : MR B (x.1.2.2.2 (x.1.2.1 0)) cm := (hm 0 (by omega)).cg (fun f hf => by rw [hcm f hf, Nat.mul_zero, Nat.zero_add])
    simp only [if_neg n0, if_neg q1, cl0, cl1]
    obtain ⟨k, hk⟩ : ∃ k : Lk, k = (f_k_take x.1 0).2 := ⟨_, rfl⟩
    rw [← hk] at t1 t2 t3 ⊢
    obtain ⟨a, ha⟩ : ∃ a : Nat, a = x.1.2.1 0 := ⟨_, rfl⟩
    rw [← ha] at t2 hmr ⊢
    rw [t3]
    rw [← t3] at hmr
    have hto := hmr.2.1
    have hkd := hmr.1
    rw [← t3]
    rcases hmr.2.2.2.2.2.1 with to | to
    · rw [if_pos to]
      have tc : cm 1 = 0 := hto.symm.trans to
      rw [tc]
      obtain ⟨z1, z2, z3, z4⟩ := id hz
      rcases z3 with ⟨u1, u2⟩ | ⟨u1, u2, u3⟩
      · rw [if_neg (by rw [u1]; decide)]
        obtain ⟨yy, m1, m2, m3, m4, m5⟩ := left_sim (j := 0) (a := a) (by omega) t1 hz u2 hmr
        have m1 : m_in cm 0 (f_m_remove y.1 0) y.2.1 = _ := m1
        rw [m1]
        have hkp : (f_t_arrive (nI 0) (k, x.2.1) a).2.1.2.2.2 a = k.2.2.2 a := by have z := m4.2; rw [t2] at z; exact z
        have hkp : (f_t_arrive 0 (k, x.2.1) a).2.1.2.2.2 a = k.2.2.2 a := hkp
        have m2 : LR L B (f_t_arrive 0 (k, x.2.1) a).2.1 yy.1 := m2
        have m3 : NR B 0 (f_t_arrive 0 (k, x.2.1) a).2.2 yy.2 := m3
        have hot := ho.fr (m5 1 (by omega) (by omega))
        rw [hkp]
        by_cases g : (f_t_arrive 0 (k, x.2.1) a).1 = 0
        · have g' : (f_t_arrive (nI 0) (k, x.2.1) a).1 = 0 := g
          rw [if_pos g, if_pos g']
          exact ⟨add_c _ _, m2, m3, hot⟩
        · have g' : ¬ (f_t_arrive (nI 0) (k, x.2.1) a).1 = 0 := g
          rw [if_neg g, if_neg g']
          exact ⟨rfl, m2, m3, hot⟩
      · rw [if_pos u1]
        unfold m_in
        rw [if_neg (by rw [cl0, u2]; decide), cl0, ← hkd]
        exact ⟨add_c _ _, t1, hz, ho⟩
    · rw [if_neg (by rw [to]; decide)]
      have tc : cm 1 = 1 := hto.symm.trans to
      rw [tc]
      obtain ⟨z1, z2, z3, z4⟩ := id ho
      rcases z3 with ⟨u1, u2⟩ | ⟨u1, u2, u3⟩
      · rw [if_neg (by rw [u1]; decide)]
        obtain ⟨yy, m1, m2, m3, m4, m5⟩ := left_sim (j := 1) (a := a) (by omega) t1 ho u2 hmr
        have m1 : m_in cm 1 (f_m_remove y.1 0) y.2.1 = _ := m1
        rw [m1]
        have hkp : (f_t_arrive (nI 1) (k, x.2.2) a).2.1.2.2.2 a = k.2.2.2 a := by have z := m4.2; rw [t2] at z; exact z
        have hkp : (f_t_arrive 1 (k, x.2.2) a).2.1.2.2.2 a = k.2.2.2 a := hkp
        have m2 : LR L B (f_t_arrive 1 (k, x.2.2) a).2.1 yy.1 := m2
        have m3 : NR B 1 (f_t_arrive 1 (k, x.2.2) a).2.2 yy.2 := m3
        have hot := hz.fr (m5 0 (by omega) (by omega))
        rw [hkp]
        by_cases g : (f_t_arrive 1 (k, x.2.2) a).1 = 0
        · have g' : (f_t_arrive (nI 1) (k, x.2.2) a).1 = 0 := g
          rw [if_pos g, if_pos g']
          exact ⟨add_c _ _, m2, hot, m3⟩
        · have g' : ¬ (f_t_arrive (nI 1) (k, x.2.2) a).1 = 0 := g
          rw [if_neg g, if_neg g']
          exact ⟨rfl, m2, hot, m3⟩
      · rw [if_pos u1]
        unfold m_in
        rw [if_neg (by rw [cl1, u2]; decide), cl0, ← hkd]
        exact ⟨add_c _ _, t1, hz, ho⟩
end OPS
