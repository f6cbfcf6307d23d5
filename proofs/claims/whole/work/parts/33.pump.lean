/-- the reference's pump behind the terms -/
def m_rest (cm : Cm) (n : Int32) (q : Rq) (r : Rn) : Int32 × Rq × Rn × Cm :=
  if (cm (0 : Int32).toNatClampNeg) = 1 then if (r.2.2.2.1 n.toNatClampNeg) = 1 then ((20 + (cm (0 : Int32).toNatClampNeg)), (q, r, cm)) else if (r.2.2.2.1 n.toNatClampNeg) = 0 then let u29 := f_m_shipped cm (q, r) n (cm (3 : Int32).toNatClampNeg); ((cm (0 : Int32).toNatClampNeg), (u29.1, u29.2, cm)) else if (cm (0 : Int32).toNatClampNeg) = 2 then if (cm (3 : Int32).toNatClampNeg) ≤ (r.2.2.2.2.1 n.toNatClampNeg) then let u27 := f_m_shipIfThere (r.1, r.2.1, r.2.2.1, r.2.2.2.1, (upd r.2.2.2.2.1 n.toNatClampNeg (r.2.2.2.2.1 n.toNatClampNeg)), r.2.2.2.2.2.1, r.2.2.2.2.2.2.1, r.2.2.2.2.2.2.2.1, r.2.2.2.2.2.2.2.2.1, r.2.2.2.2.2.2.2.2.2) q n ((cm (3 : Int32).toNatClampNeg) + 1); ((cm (0 : Int32).toNatClampNeg), (u27, (r.1, r.2.1, r.2.2.1, r.2.2.2.1, (upd r.2.2.2.2.1 n.toNatClampNeg (r.2.2.2.2.1 n.toNatClampNeg)), r.2.2.2.2.2.1, r.2.2.2.2.2.2.1, r.2.2.2.2.2.2.2.1, r.2.2.2.2.2.2.2.2.1, r.2.2.2.2.2.2.2.2.2), cm)) else let u28 := f_m_shipIfThere (r.1, r.2.1, r.2.2.1, r.2.2.2.1, (upd r.2.2.2.2.1 n.toNatClampNeg (cm (3 : Int32).toNatClampNeg)), r.2.2.2.2.2.1, r.2.2.2.2.2.2.1, r.2.2.2.2.2.2.2.1, r.2.2.2.2.2.2.2.2.1, r.2.2.2.2.2.2.2.2.2) q n ((cm (3 : Int32).toNatClampNeg) + 1); ((cm (0 : Int32).toNatClampNeg), (u28, (r.1, r.2.1, r.2.2.1, r.2.2.2.1, (upd r.2.2.2.2.1 n.toNatClampNeg (cm (3 : Int32).toNatClampNeg)), r.2.2.2.2.2.1, r.2.2.2.2.2.2.1, r.2.2.2.2.2.2.2.1, r.2.2.2.2.2.2.2.2.1, r.2.2.2.2.2.2.2.2.2), cm)) else if (cm (0 : Int32).toNatClampNeg) = 3 then if (cm (3 : Int32).toNatClampNeg) < 0 then ((cm (0 : Int32).toNatClampNeg), (q, r, cm)) else if (r.2.1 n.toNatClampNeg) ≤ (cm (3 : Int32).toNatClampNeg) then let u24 := f_m_shipIfThere r q n ((r.2.1 n.toNatClampNeg) - 1); ((cm (0 : Int32).toNatClampNeg), (u24, r, cm)) else let u25 := f_m_shipIfThere r q n (cm (3 : Int32).toNatClampNeg); ((cm (0 : Int32).toNatClampNeg), (u25, r, cm)) else ((cm (0 : Int32).toNatClampNeg), (q, r, cm)) else if (r.2.2.2.1 n.toNatClampNeg) = 0 then ((20 + (cm (0 : Int32).toNatClampNeg)), (q, r, cm)) else if (cm (0 : Int32).toNatClampNeg) = 2 then if (cm (3 : Int32).toNatClampNeg) ≤ (r.2.2.2.2.1 n.toNatClampNeg) then let u16 := f_m_shipIfThere (r.1, r.2.1, r.2.2.1, r.2.2.2.1, (upd r.2.2.2.2.1 n.toNatClampNeg (r.2.2.2.2.1 n.toNatClampNeg)), r.2.2.2.2.2.1, r.2.2.2.2.2.2.1, r.2.2.2.2.2.2.2.1, r.2.2.2.2.2.2.2.2.1, r.2.2.2.2.2.2.2.2.2) q n ((cm (3 : Int32).toNatClampNeg) + 1); ((cm (0 : Int32).toNatClampNeg), (u16, (r.1, r.2.1, r.2.2.1, r.2.2.2.1, (upd r.2.2.2.2.1 n.toNatClampNeg (r.2.2.2.2.1 n.toNatClampNeg)), r.2.2.2.2.2.1, r.2.2.2.2.2.2.1, r.2.2.2.2.2.2.2.1, r.2.2.2.2.2.2.2.2.1, r.2.2.2.2.2.2.2.2.2), cm)) else let u17 := f_m_shipIfThere (r.1, r.2.1, r.2.2.1, r.2.2.2.1, (upd r.2.2.2.2.1 n.toNatClampNeg (cm (3 : Int32).toNatClampNeg)), r.2.2.2.2.2.1, r.2.2.2.2.2.2.1, r.2.2.2.2.2.2.2.1, r.2.2.2.2.2.2.2.2.1, r.2.2.2.2.2.2.2.2.2) q n ((cm (3 : Int32).toNatClampNeg) + 1); ((cm (0 : Int32).toNatClampNeg), (u17, (r.1, r.2.1, r.2.2.1, r.2.2.2.1, (upd r.2.2.2.2.1 n.toNatClampNeg (cm (3 : Int32).toNatClampNeg)), r.2.2.2.2.2.1, r.2.2.2.2.2.2.1, r.2.2.2.2.2.2.2.1, r.2.2.2.2.2.2.2.2.1, r.2.2.2.2.2.2.2.2.2), cm)) else if (cm (0 : Int32).toNatClampNeg) = 3 then if (cm (3 : Int32).toNatClampNeg) < 0 then ((cm (0 : Int32).toNatClampNeg), (q, r, cm)) else if (r.2.1 n.toNatClampNeg) ≤ (cm (3 : Int32).toNatClampNeg) then let u13 := f_m_shipIfThere r q n ((r.2.1 n.toNatClampNeg) - 1); ((cm (0 : Int32).toNatClampNeg), (u13, r, cm)) else let u14 := f_m_shipIfThere r q n (cm (3 : Int32).toNatClampNeg); ((cm (0 : Int32).toNatClampNeg), (u14, r, cm)) else ((cm (0 : Int32).toNatClampNeg), (q, r, cm))
def m_in (cm : Cm) (n : Int32) (q : Rq) (r : Rn) : Int32 × Rq × Rn × Cm :=
  if r.2.2.1 n.toNatClampNeg = 0 then (if r.1 n.toNatClampNeg ≤ cm (2 : Int32).toNatClampNeg then (if cm (2 : Int32).toNatClampNeg ≤ r.1 n.toNatClampNeg then m_rest cm n q r else if (f_m_becomeTerm r n (cm (2 : Int32).toNatClampNeg)).1 = 0 then (cm (0 : Int32).toNatClampNeg, (q, (f_m_becomeTerm r n (cm (2 : Int32).toNatClampNeg)).2, cm)) else m_rest cm n q ((f_m_becomeTerm r n (cm (2 : Int32).toNatClampNeg)).2.1, (f_m_becomeTerm r n (cm (2 : Int32).toNatClampNeg)).2.2.1, (f_m_becomeTerm r n (cm (2 : Int32).toNatClampNeg)).2.2.2.1, (upd (f_m_becomeTerm r n (cm (2 : Int32).toNatClampNeg)).2.2.2.2.1 n.toNatClampNeg 0), (f_m_becomeTerm r n (cm (2 : Int32).toNatClampNeg)).2.2.2.2.2.1, (f_m_becomeTerm r n (cm (2 : Int32).toNatClampNeg)).2.2.2.2.2.2.1, (f_m_becomeTerm r n (cm (2 : Int32).toNatClampNeg)).2.2.2.2.2.2.2.1, (f_m_becomeTerm r n (cm (2 : Int32).toNatClampNeg)).2.2.2.2.2.2.2.2.1, (f_m_becomeTerm r n (cm (2 : Int32).toNatClampNeg)).2.2.2.2.2.2.2.2.2.1, (f_m_becomeTerm r n (cm (2 : Int32).toNatClampNeg)).2.2.2.2.2.2.2.2.2.2)) else (if cm (0 : Int32).toNatClampNeg = 1 then (20 + cm (0 : Int32).toNatClampNeg, (f_m_send r q n 3 (-1), r, cm)) else (20 + cm (0 : Int32).toNatClampNeg, (q, r, cm)))) else (10 + cm (0 : Int32).toNatClampNeg, (q, r, cm))
set_option maxHeartbeats 4000000 in
set_option maxRecDepth 100000 in
theorem pump_eq (x : Rq × Rn × Cm) : f_m_pump x = if x.1.1 = 0 then (0, x) else m_in (upd (upd (upd (upd (upd (upd (upd (upd (upd x.2.2 (0 : Int32).toNatClampNeg (x.1.2 (0 : Int32).toNatClampNeg)) (1 : Int32).toNatClampNeg (x.1.2 (1 : Int32).toNatClampNeg)) (2 : Int32).toNatClampNeg (x.1.2 (2 : Int32).toNatClampNeg)) (3 : Int32).toNatClampNeg (x.1.2 (3 : Int32).toNatClampNeg)) (4 : Int32).toNatClampNeg (x.1.2 (4 : Int32).toNatClampNeg)) (5 : Int32).toNatClampNeg (x.1.2 (5 : Int32).toNatClampNeg)) (6 : Int32).toNatClampNeg (x.1.2 (6 : Int32).toNatClampNeg)) (7 : Int32).toNatClampNeg (x.1.2 (7 : Int32).toNatClampNeg)) (8 : Int32).toNatClampNeg (x.1.2 (8 : Int32).toNatClampNeg)) ((upd (upd (upd (upd (upd (upd (upd (upd (upd x.2.2 (0 : Int32).toNatClampNeg (x.1.2 (0 : Int32).toNatClampNeg)) (1 : Int32).toNatClampNeg (x.1.2 (1 : Int32).toNatClampNeg)) (2 : Int32).toNatClampNeg (x.1.2 (2 : Int32).toNatClampNeg)) (3 : Int32).toNatClampNeg (x.1.2 (3 : Int32).toNatClampNeg)) (4 : Int32).toNatClampNeg (x.1.2 (4 : Int32).toNatClampNeg)) (5 : Int32).toNatClampNeg (x.1.2 (5 : Int32).toNatClampNeg)) (6 : Int32).toNatClampNeg (x.1.2 (6 : Int32).toNatClampNeg)) (7 : Int32).toNatClampNeg (x.1.2 (7 : Int32).toNatClampNeg)) (8 : Int32).toNatClampNeg (x.1.2 (8 : Int32).toNatClampNeg)) (1 : Int32).toNatClampNeg) (f_m_remove x.1 0) x.2.1 := rfl

/-- the class's arrive behind the terms -/
def c_rest (n : Int32) (x : Lk × Nd) (mq : Nat) : Int32 × Lk × Nd :=
  if (x.1.2.2.2 mq).1 = 1 then (if 0 = x.2.2.2.2.1 then (1, f_t_takeShip n x mq) else (0, x)) else if 1 = x.2.2.2.2.1 then (if (x.1.2.2.2 mq).1 = 2 then (1, f_t_takeAck n x (x.1.2.2.2 mq).2.2.2.1) else (1, (f_t_takeWant n x.2 x.1 (x.1.2.2.2 mq).2.2.2.1, x.2))) else (0, x)
theorem left_eq (n : Int32) (x : Lk × Nd) (mq : Nat) : f_t_arrive n x mq = if x.2.2.1 ≤ (x.1.2.2.2 mq).2.2.1 then (if (x.1.2.2.2 mq).2.2.1 ≤ x.2.2.1 then c_rest n x mq else if (f_n_follow x.2 (x.1.2.2.2 mq).2.2.1).1 = 0 then (1, (x.1, (f_n_follow x.2 (x.1.2.2.2 mq).2.2.1).2)) else c_rest n (x.1, (f_n_follow x.2 (x.1.2.2.2 mq).2.2.1).2) mq) else (if (x.1.2.2.2 mq).1 = 1 then (0, ((f_k_send n x.2 x.1 3 (-1)).2, x.2)) else (0, x)) := rfl
section RESTS
variable {L : List Nat} {B j : Nat} {k : Lk} {q : Rq} {v : Nd} {r : Rn} {cm : Cm} {a : Nat}
theorem ack_sim (hj : j < 2) (h : LR L B k q) (hn : NR B j v r) (p : Int32) : SR_ L B j k r (f_t_takeAck (nI j) (k, v) p).1 (f_t_takeAck (nI j) (k, v) p).2 (if p ≤ r.2.2.2.2.1 j then (f_m_shipIfThere (r.1, r.2.1, r.2.2.1, r.2.2.2.1, upd r.2.2.2.2.1 j (r.2.2.2.2.1 j), r.2.2.2.2.2.1, r.2.2.2.2.2.2.1, r.2.2.2.2.2.2.2.1, r.2.2.2.2.2.2.2.2.1, r.2.2.2.2.2.2.2.2.2) q (nI j) (p + 1), (r.1, r.2.1, r.2.2.1, r.2.2.2.1, upd r.2.2.2.2.1 j (r.2.2.2.2.1 j), r.2.2.2.2.2.1, r.2.2.2.2.2.2.1, r.2.2.2.2.2.2.2.1, r.2.2.2.2.2.2.2.2.1, r.2.2.2.2.2.2.2.2.2)) else (f_m_shipIfThere (r.1, r.2.1, r.2.2.1, r.2.2.2.1, upd r.2.2.2.2.1 j p, r.2.2.2.2.2.1, r.2.2.2.2.2.2.1, r.2.2.2.2.2.2.2.1, r.2.2.2.2.2.2.2.2.1, r.2.2.2.2.2.2.2.2.2) q (nI j) (p + 1), (r.1, r.2.1, r.2.2.1, r.2.2.2.1, upd r.2.2.2.2.1 j p, r.2.2.2.2.2.1, r.2.2.2.2.2.2.1, r.2.2.2.2.2.2.2.1, r.2.2.2.2.2.2.2.2.1, r.2.2.2.2.2.2.2.2.2))) := by
  obtain ⟨h1, h2, h3, h4, h5, h6, h7⟩ := hn
  unfold f_t_takeAck
  simp only
  rw [h5]
  by_cases g : p ≤ r.2.2.2.2.1 j
  · rw [if_pos g, if_neg (nlt_of g)]
    have hn2 : NR B j (v.1, v.2.1, v.2.2.1, v.2.2.2.1, r.2.2.2.2.1 j, v.2.2.2.2.2.1, v.2.2.2.2.2.2.1, v.2.2.2.2.2.2.2.1, v.2.2.2.2.2.2.2.2.1, v.2.2.2.2.2.2.2.2.2) (r.1, r.2.1, r.2.2.1, r.2.2.2.1, upd r.2.2.2.2.1 j (r.2.2.2.2.1 j), r.2.2.2.2.2.1, r.2.2.2.2.2.2.1, r.2.2.2.2.2.2.2.1, r.2.2.2.2.2.2.2.2.1, r.2.2.2.2.2.2.2.2.2) := ⟨h1, h2, h3, h4, pk_us.symm, h6, h7⟩
    obtain ⟨a1, a2⟩ := si_sim hj h hn2 (p + 1)
    exact ⟨a1, hn2, a2, fun i _ hne => ⟨rfl, rfl, rfl, rfl, pk_un hne, rfl, rfl, fun _ _ => ⟨rfl, rfl, rfl⟩⟩⟩
  · have g' : r.2.2.2.2.1 j < p := Decidable.not_not.mp (fun z => g (by rw [Int32.lt_iff_toInt_lt] at z; rw [Int32.le_iff_toInt_le]; omega))
    rw [if_neg g, if_pos g']
    have hn2 : NR B j (v.1, v.2.1, v.2.2.1, v.2.2.2.1, p, v.2.2.2.2.2.1, v.2.2.2.2.2.2.1, v.2.2.2.2.2.2.2.1, v.2.2.2.2.2.2.2.2.1, v.2.2.2.2.2.2.2.2.2) (r.1, r.2.1, r.2.2.1, r.2.2.2.1, upd r.2.2.2.2.1 j p, r.2.2.2.2.2.1, r.2.2.2.2.2.2.1, r.2.2.2.2.2.2.2.1, r.2.2.2.2.2.2.2.2.1, r.2.2.2.2.2.2.2.2.2) := ⟨h1, h2, h3, h4, pk_us.symm, h6, h7⟩
    obtain ⟨a1, a2⟩ := si_sim hj h hn2 (p + 1)
    exact ⟨a1, hn2, a2, fun i _ hne => ⟨rfl, rfl, rfl, rfl, pk_un hne, rfl, rfl, fun _ _ => ⟨rfl, rfl, rfl⟩⟩⟩
theorem want_sim (hj : j < 2) (h : LR L B k q) (hn : NR B j v r) (p : Int32) : LR L B (f_t_takeWant (nI j) v k p) (if p < 0 then q else if r.2.1 j ≤ p then f_m_shipIfThere r q (nI j) (r.2.1 j - 1) else f_m_shipIfThere r q (nI j) p) ∧ KP k (f_t_takeWant (nI j) v k p) := by
  have hn0 := hn
  obtain ⟨⟨c, hc, e1, e2, -⟩, -⟩ := hn
  unfold f_t_takeWant
  by_cases p0 : p < 0
  · simp only [if_pos p0]; exact ⟨h, KP.rf k⟩
  · simp only [if_neg p0]
    obtain ⟨i, hi, rfl⟩ := nI_of p0
    rw [e1, e2]
    have key : (nI c - 1 < nI i) ↔ nI c ≤ nI i := by
      rw [nI_leI (by omega) hi]
      cases c with
      | zero =>
        refine ⟨fun _ => by omega, fun _ => ?_⟩
        rw [Int32.lt_iff_toInt_lt, nI_toInt hi, show (nI 0 - 1).toInt = -1 from by decide]
        omega
      | succ c => rw [nI_pred, nI_ltI (by omega) hi]; omega
    by_cases g : nI c ≤ nI i
    · rw [if_pos g, if_pos (key.mpr g)]
      exact si_sim hj h hn0 (nI c - 1)
    · rw [if_neg g, if_neg (fun z => g (key.mp z))]
      exact si_sim hj h hn0 (nI i)
theorem rest_sim (hj : j < 2) (h : LR L B k q) (hn : NR B j v r) (hm : MR B (k.2.2.2 a) cm) : ∃ y : Rq × Rn, m_rest cm (nI j) q r = ((if (c_rest (nI j) (k, v) a).1 = 0 then 20 + (k.2.2.2 a).1 else (k.2.2.2 a).1), (y.1, y.2, cm)) ∧ SR_ L B j k r (c_rest (nI j) (k, v) a).2.1 (c_rest (nI j) (k, v) a).2.2 y := by
  have hn0 := hn
  have hm0 := hm
  obtain ⟨-, -, -, ⟨hp, hp01⟩, -⟩ := hn
  obtain ⟨w0, -, -, w3, hkd, -⟩ := hm
  have id1 : SR_ L B j k r k v (q, r) := ⟨h, hn0, KP.rf k, fun i _ _ => RE.rf r i⟩
  unfold c_rest m_rest
  simp only
  rw [nI_clamp (show j < 2 ^ 31 by omega), cl0, ← w0, ← hp]
  rcases hkd with kd | kd | kd
  · rw [kd]
    rcases hp01 with p0 | p0
    · rw [p0]
      simp only [if_true, if_pos, show ((0 : Int32) = 1) = False from by decide, show ((1 : Int32) = 0) = False from by decide, if_false]
      exact ⟨f_m_shipped cm (q, r) (nI j) (cm (3 : Int32).toNatClampNeg), rfl, ts_sim hj h hn0 a hm0 kd⟩
    · rw [p0]
      simp only [if_true, show ((0 : Int32) = 1) = False from by decide, show ((1 : Int32) = 0) = False from by decide, if_false]
      exact ⟨(q, r), rfl, id1⟩
  · rw [kd]
    rcases hp01 with p0 | p0
    · rw [p0]
      simp only [if_true, show ((2 : Int32) = 1) = False from by decide, show ((1 : Int32) = 0) = False from by decide, if_false]
      exact ⟨(q, r), rfl, id1⟩
    · rw [p0]
      simp only [if_true, show ((2 : Int32) = 1) = False from by decide, show ((1 : Int32) = 0) = False from by decide, show ((2 : Int32) = 3) = False from by decide, if_false]
      have h2 := ack_sim hj h hn0 (k.2.2.2 a).2.2.2.1
      rw [cl3, ← w3]
      by_cases g : (k.2.2.2 a).2.2.2.1 ≤ r.2.2.2.2.1 j
      · simp only [if_pos g] at h2 ⊢
        exact ⟨_, rfl, h2⟩
      · simp only [if_neg g] at h2 ⊢
        exact ⟨_, rfl, h2⟩
  · rw [kd]
    rcases hp01 with p0 | p0
    · rw [p0]
      simp only [if_true, show ((3 : Int32) = 1) = False from by decide, show ((1 : Int32) = 0) = False from by decide, if_false]
      exact ⟨(q, r), rfl, id1⟩
    · rw [p0]
      simp only [if_true, show ((3 : Int32) = 1) = False from by decide, show ((1 : Int32) = 0) = False from by decide, show ((3 : Int32) = 2) = False from by decide, if_false]
      obtain ⟨h2, h3⟩ := want_sim hj h hn0 (k.2.2.2 a).2.2.2.1
      rw [cl3, ← w3]
      by_cases g0 : (k.2.2.2 a).2.2.2.1 < 0
      · simp only [if_pos g0] at h2 ⊢
        exact ⟨(q, r), rfl, h2, hn0, h3, fun i _ _ => RE.rf r i⟩
      · by_cases g : r.2.1 j ≤ (k.2.2.2 a).2.2.2.1
        · simp only [if_neg g0, if_pos g] at h2 ⊢
          exact ⟨(_, r), rfl, h2, hn0, h3, fun i _ _ => RE.rf r i⟩
        · simp only [if_neg g0, if_neg g] at h2 ⊢
          exact ⟨(_, r), rfl, h2, hn0, h3, fun i _ _ => RE.rf r i⟩
theorem left_sim (hj : j < 2) (h : LR L B k q) (hn : NR B j v r) (hup : r.2.2.1 j = 0) (hm : MR B (k.2.2.2 a) cm) : ∃ y : Rq × Rn, m_in cm (nI j) q r = ((if (f_t_arrive (nI j) (k, v) a).1 = 0 then 20 + (k.2.2.2 a).1 else (k.2.2.2 a).1), (y.1, y.2, cm)) ∧ SR_ L B j k r (f_t_arrive (nI j) (k, v) a).2.1 (f_t_arrive (nI j) (k, v) a).2.2 y := by
  have hn0 := hn
  have hm0 := hm
  have rest := rest_sim hj h hn hm
  obtain ⟨hn1, ⟨ht, -⟩, -⟩ := hn
  obtain ⟨w0, -, w2, w3, hkd, -, ⟨t, htB, et⟩, -⟩ := hm
  rw [left_eq]
  unfold m_in
  simp only
  rw [nI_clamp (show j < 2 ^ 31 by omega), cl0, cl2, ← w0, ← w2, ← ht, if_pos hup]
  by_cases g : v.2.1 ≤ (k.2.2.2 a).2.2.1
  · simp only [if_pos g]
    by_cases g2 : (k.2.2.2 a).2.2.1 ≤ v.2.1
    · simp only [if_pos g2]
      exact rest
    · simp only [if_neg g2]
      obtain ⟨b1, b2⟩ := bt_sim hj hn0 htB
      rw [et]
      unfold f_n_follow
      simp only
      rw [← b1]
      have fr := fun i (hi : i < 2) (hne : i ≠ j) => bt_fr r (nI t) hj hne
      by_cases g3 : (f_n_changeTerm v (nI t)).1 = 0
      · simp only [if_pos g3, if_true]
        rw [if_neg (show ¬ (1 : Int32) = 0 by decide)]
        exact ⟨(q, (f_m_becomeTerm r (nI j) (nI t)).2), rfl, h, b2, KP.rf k, fr⟩
      · simp only [if_neg g3]
        rw [if_neg (show ¬ (1 : Int32) = 0 by decide)]
        obtain ⟨c1, c2, c3, ⟨c4, c5⟩, c6, c7, c8⟩ := b2
        have hup2 : (f_n_changeTerm v (nI t)).2.2.2.1 = 1 ∧ (f_m_becomeTerm r (nI j) (nI t)).2.2.2.1 j = 0 ∨ (f_n_changeTerm v (nI t)).2.2.2.1 = 0 ∧ (f_m_becomeTerm r (nI j) (nI t)).2.2.2.1 j = 1 ∧ (0 : Int32) = 0 := by
          rcases c3 with z | z
          · exact Or.inl z
          · exact Or.inr ⟨z.1, z.2.1, rfl⟩
        obtain ⟨y, hy1, hy2⟩ := rest_sim (v := ((f_n_changeTerm v (nI t)).2.1, (f_n_changeTerm v (nI t)).2.2.1, (f_n_changeTerm v (nI t)).2.2.2.1, 0, (f_n_changeTerm v (nI t)).2.2.2.2.2.1, (f_n_changeTerm v (nI t)).2.2.2.2.2.2.1, (f_n_changeTerm v (nI t)).2.2.2.2.2.2.2.1, (f_n_changeTerm v (nI t)).2.2.2.2.2.2.2.2.1, (f_n_changeTerm v (nI t)).2.2.2.2.2.2.2.2.2.1, (f_n_changeTerm v (nI t)).2.2.2.2.2.2.2.2.2.2)) (r := ((f_m_becomeTerm r (nI j) (nI t)).2.1, (f_m_becomeTerm r (nI j) (nI t)).2.2.1, (f_m_becomeTerm r (nI j) (nI t)).2.2.2.1, upd (f_m_becomeTerm r (nI j) (nI t)).2.2.2.2.1 j 0, (f_m_becomeTerm r (nI j) (nI t)).2.2.2.2.2.1, (f_m_becomeTerm r (nI j) (nI t)).2.2.2.2.2.2.1, (f_m_becomeTerm r (nI j) (nI t)).2.2.2.2.2.2.2.1, (f_m_becomeTerm r (nI j) (nI t)).2.2.2.2.2.2.2.2.1, (f_m_becomeTerm r (nI j) (nI t)).2.2.2.2.2.2.2.2.2.1, (f_m_becomeTerm r (nI j) (nI t)).2.2.2.2.2.2.2.2.2.2)) hj h ⟨c1, c2, hup2, ⟨pk_us.symm, Or.inl rfl⟩, c6, c7, c8⟩ hm0
        exact ⟨y, hy1, hy2.pre (fun i hi hne => by
          obtain ⟨d1, d2, d3, d4, d5⟩ := fr i hi hne
          exact ⟨d1, d2, d3, (pk_un hne).trans d4, d5⟩)⟩
  · simp only [if_neg g]
    by_cases g2 : (k.2.2.2 a).1 = 1
    · simp only [if_pos g2, if_true]
      obtain ⟨a1, a2⟩ := sd_sim (num := -1) hj h hn0 (Or.inr rfl)
      exact ⟨(_, r), rfl, a1, hn0, a2, fun i _ _ => RE.rf r i⟩
    · simp only [if_neg g2, if_true]
      exact ⟨(q, r), rfl, h, hn0, KP.rf k, fun i _ _ => RE.rf r i⟩
end RESTS

