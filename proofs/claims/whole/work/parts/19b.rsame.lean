def f_m_same (x : Rq × Rn × (Nat → Int32)) : Int32 := nI (sm x.2.1.2.2.2.2.2.2.2.1 x.2.1.2.2.2.2.2.2.2.2.1 x.2.1.2.2.2.2.2.2.2.2.2 (fun j => x.2.1.2.2.2.2.2.2.2.1 (64 + j)) (fun j => x.2.1.2.2.2.2.2.2.2.2.1 (64 + j)) (fun j => x.2.1.2.2.2.2.2.2.2.2.2 (64 + j)) (min (x.2.1.2.1 0).toNatClampNeg (x.2.1.2.1 1).toNatClampNeg) 0)
theorem ix64 {k : Nat} (hk : k < 64) : (64 + nI k).toNatClampNeg = 64 + k := by
  rw [show (64 : Int32) = nI 64 from rfl, nI_add, nI_clamp (by omega)]
set_option maxHeartbeats 4000000 in
set_option maxRecDepth 100000 in
theorem c_m_same (l : Launch) (dC : Nat → ClassId) (dI : Nat → Nat → Nat) (cI cZ cM : ClassId) (q_h : Nat) (q_b0 : Nat) (q_b1 : Nat) (q_b2 : Nat) (q_b3 : Nat) (q_b4 : Nat) (q_b5 : Nat) (q_b6 : Nat) (q_b7 : Nat) (q_b8 : Nat) (q_b9 : Nat) (q_b10 : Nat) (q_b12 : Nat) (sz : Nat) (x : Rq × Rn × Cm)   (hm : ∃ k : Nat, k ≤ 16 ∧ x.1.1 = nI k) (hL : RlOk x.2.1) : Met l yX4_same wsX4_same ({ frames := 0, cells := 0, slots := 0, locals := 0 }) (va_Pc [.ref q_h] (fun U => U.heap.size = sz ∧ va_P (dC, dI) vwCl ([(q_h, .inr (4, [.ref q_b0, .ref q_b1, .ref q_b2, .ref q_b3, .ref q_b4, .ref q_b5, .ref q_b6, .ref q_b7, .ref q_b8, .ref q_b9, .ref q_b10, .int x.1.1, .ref q_b12])), (q_b10, .inl (cI, 144, .inl x.1.2)), (q_b0, .inl (cI, 2, .inl x.2.1.1)), (q_b1, .inl (cI, 2, .inl x.2.1.2.1)), (q_b2, .inl (cZ, 2, .inl x.2.1.2.2.1)), (q_b3, .inl (cZ, 2, .inl x.2.1.2.2.2.1)), (q_b4, .inl (cI, 2, .inl x.2.1.2.2.2.2.1)), (q_b5, .inl (cI, 2, .inl x.2.1.2.2.2.2.2.1)), (q_b6, .inl (cI, 2, .inl x.2.1.2.2.2.2.2.2.1)), (q_b7, .inl (cI, 128, .inl x.2.1.2.2.2.2.2.2.2.1)), (q_b8, .inl (cI, 128, .inl x.2.1.2.2.2.2.2.2.2.2.1)), (q_b9, .inl (cI, 128, .inl x.2.1.2.2.2.2.2.2.2.2.2)), (q_b12, .inl (cI, 9, .inl x.2.2))]) U.heap ∧ va_K (dC, dI) vwCl [(cI, .int), (cZ, .boolean), (cM, .object RX1)] U ∧ va_D (fun _ => True) ([(q_h, .inr (4, [.ref q_b0, .ref q_b1, .ref q_b2, .ref q_b3, .ref q_b4, .ref q_b5, .ref q_b6, .ref q_b7, .ref q_b8, .ref q_b9, .ref q_b10, .int x.1.1, .ref q_b12])), (q_b10, .inl (cI, 144, .inl x.1.2)), (q_b0, .inl (cI, 2, .inl x.2.1.1)), (q_b1, .inl (cI, 2, .inl x.2.1.2.1)), (q_b2, .inl (cZ, 2, .inl x.2.1.2.2.1)), (q_b3, .inl (cZ, 2, .inl x.2.1.2.2.2.1)), (q_b4, .inl (cI, 2, .inl x.2.1.2.2.2.2.1)), (q_b5, .inl (cI, 2, .inl x.2.1.2.2.2.2.2.1)), (q_b6, .inl (cI, 2, .inl x.2.1.2.2.2.2.2.2.1)), (q_b7, .inl (cI, 128, .inl x.2.1.2.2.2.2.2.2.2.1)), (q_b8, .inl (cI, 128, .inl x.2.1.2.2.2.2.2.2.2.2.1)), (q_b9, .inl (cI, 128, .inl x.2.1.2.2.2.2.2.2.2.2.2)), (q_b12, .inl (cI, 9, .inl x.2.2))]))) (va_Qi (fun (r : Int32) (_ : Unit) => r = f_m_same x) (fun _ t => va_P (dC, dI) vwCl ([(q_h, .inr (4, [.ref q_b0, .ref q_b1, .ref q_b2, .ref q_b3, .ref q_b4, .ref q_b5, .ref q_b6, .ref q_b7, .ref q_b8, .ref q_b9, .ref q_b10, .int x.1.1, .ref q_b12])), (q_b10, .inl (cI, 144, .inl x.1.2)), (q_b0, .inl (cI, 2, .inl x.2.1.1)), (q_b1, .inl (cI, 2, .inl x.2.1.2.1)), (q_b2, .inl (cZ, 2, .inl x.2.1.2.2.1)), (q_b3, .inl (cZ, 2, .inl x.2.1.2.2.2.1)), (q_b4, .inl (cI, 2, .inl x.2.1.2.2.2.2.1)), (q_b5, .inl (cI, 2, .inl x.2.1.2.2.2.2.2.1)), (q_b6, .inl (cI, 2, .inl x.2.1.2.2.2.2.2.2.1)), (q_b7, .inl (cI, 128, .inl x.2.1.2.2.2.2.2.2.2.1)), (q_b8, .inl (cI, 128, .inl x.2.1.2.2.2.2.2.2.2.2.1)), (q_b9, .inl (cI, 128, .inl x.2.1.2.2.2.2.2.2.2.2.2)), (q_b12, .inl (cI, 9, .inl x.2.2))]) t.heap ∧ va_K (dC, dI) vwCl [(cI, .int), (cZ, .boolean), (cM, .object RX1)] t ∧ va_D (va_A ([(q_h, .inr (4, [.ref q_b0, .ref q_b1, .ref q_b2, .ref q_b3, .ref q_b4, .ref q_b5, .ref q_b6, .ref q_b7, .ref q_b8, .ref q_b9, .ref q_b10, .int x.1.1, .ref q_b12])), (q_b10, .inl (cI, 144, .inl x.1.2)), (q_b0, .inl (cI, 2, .inl x.2.1.1)), (q_b1, .inl (cI, 2, .inl x.2.1.2.1)), (q_b2, .inl (cZ, 2, .inl x.2.1.2.2.1)), (q_b3, .inl (cZ, 2, .inl x.2.1.2.2.2.1)), (q_b4, .inl (cI, 2, .inl x.2.1.2.2.2.2.1)), (q_b5, .inl (cI, 2, .inl x.2.1.2.2.2.2.2.1)), (q_b6, .inl (cI, 2, .inl x.2.1.2.2.2.2.2.2.1)), (q_b7, .inl (cI, 128, .inl x.2.1.2.2.2.2.2.2.2.1)), (q_b8, .inl (cI, 128, .inl x.2.1.2.2.2.2.2.2.2.2.1)), (q_b9, .inl (cI, 128, .inl x.2.1.2.2.2.2.2.2.2.2.2)), (q_b12, .inl (cI, 9, .inl x.2.2))]) sz) ([(q_h, .inr (4, [.ref q_b0, .ref q_b1, .ref q_b2, .ref q_b3, .ref q_b4, .ref q_b5, .ref q_b6, .ref q_b7, .ref q_b8, .ref q_b9, .ref q_b10, .int x.1.1, .ref q_b12])), (q_b10, .inl (cI, 144, .inl x.1.2)), (q_b0, .inl (cI, 2, .inl x.2.1.1)), (q_b1, .inl (cI, 2, .inl x.2.1.2.1)), (q_b2, .inl (cZ, 2, .inl x.2.1.2.2.1)), (q_b3, .inl (cZ, 2, .inl x.2.1.2.2.2.1)), (q_b4, .inl (cI, 2, .inl x.2.1.2.2.2.2.1)), (q_b5, .inl (cI, 2, .inl x.2.1.2.2.2.2.2.1)), (q_b6, .inl (cI, 2, .inl x.2.1.2.2.2.2.2.2.1)), (q_b7, .inl (cI, 128, .inl x.2.1.2.2.2.2.2.2.2.1)), (q_b8, .inl (cI, 128, .inl x.2.1.2.2.2.2.2.2.2.2.1)), (q_b9, .inl (cI, 128, .inl x.2.1.2.2.2.2.2.2.2.2.2)), (q_b12, .inl (cI, 9, .inl x.2.2))])) (va_A ([(q_h, .inr (4, [.ref q_b0, .ref q_b1, .ref q_b2, .ref q_b3, .ref q_b4, .ref q_b5, .ref q_b6, .ref q_b7, .ref q_b8, .ref q_b9, .ref q_b10, .int x.1.1, .ref q_b12])), (q_b10, .inl (cI, 144, .inl x.1.2)), (q_b0, .inl (cI, 2, .inl x.2.1.1)), (q_b1, .inl (cI, 2, .inl x.2.1.2.1)), (q_b2, .inl (cZ, 2, .inl x.2.1.2.2.1)), (q_b3, .inl (cZ, 2, .inl x.2.1.2.2.2.1)), (q_b4, .inl (cI, 2, .inl x.2.1.2.2.2.2.1)), (q_b5, .inl (cI, 2, .inl x.2.1.2.2.2.2.2.1)), (q_b6, .inl (cI, 2, .inl x.2.1.2.2.2.2.2.2.1)), (q_b7, .inl (cI, 128, .inl x.2.1.2.2.2.2.2.2.2.1)), (q_b8, .inl (cI, 128, .inl x.2.1.2.2.2.2.2.2.2.2.1)), (q_b9, .inl (cI, 128, .inl x.2.1.2.2.2.2.2.2.2.2.2)), (q_b12, .inl (cI, 9, .inl x.2.2))]) sz)) 0 0 (va_A ([(q_h, .inr (4, [.ref q_b0, .ref q_b1, .ref q_b2, .ref q_b3, .ref q_b4, .ref q_b5, .ref q_b6, .ref q_b7, .ref q_b8, .ref q_b9, .ref q_b10, .int x.1.1, .ref q_b12])), (q_b10, .inl (cI, 144, .inl x.1.2)), (q_b0, .inl (cI, 2, .inl x.2.1.1)), (q_b1, .inl (cI, 2, .inl x.2.1.2.1)), (q_b2, .inl (cZ, 2, .inl x.2.1.2.2.1)), (q_b3, .inl (cZ, 2, .inl x.2.1.2.2.2.1)), (q_b4, .inl (cI, 2, .inl x.2.1.2.2.2.2.1)), (q_b5, .inl (cI, 2, .inl x.2.1.2.2.2.2.2.1)), (q_b6, .inl (cI, 2, .inl x.2.1.2.2.2.2.2.2.1)), (q_b7, .inl (cI, 128, .inl x.2.1.2.2.2.2.2.2.2.1)), (q_b8, .inl (cI, 128, .inl x.2.1.2.2.2.2.2.2.2.2.1)), (q_b9, .inl (cI, 128, .inl x.2.1.2.2.2.2.2.2.2.2.2)), (q_b12, .inl (cI, 9, .inl x.2.2))]) sz) := by
  refine Met.ofW (cc := cX4_same) (maxL := 2) (ret := (some .int)) (by decide) rfl ?_
  intro p e s m args below meth c s₁ B hml hv
  obtain ⟨rfl, hsz, hP, hK, hD0⟩ := hv
  have hx := B.exec
  have hb := B.bytes
  have hr := B.returns
  have hts := atoms_spec (ws := wsX4_same) B.pre
  have hown : s.vm.findClass RX4 = some m.cls := findClass_of_methodNamed B.named
  have hlocks := B.notSynchronized
  subst hsz
  have hD := hD0.self (sz := s.heap.size)
  generalize hAe : va_A ([(q_h, .inr (4, [.ref q_b0, .ref q_b1, .ref q_b2, .ref q_b3, .ref q_b4, .ref q_b5, .ref q_b6, .ref q_b7, .ref q_b8, .ref q_b9, .ref q_b10, .int x.1.1, .ref q_b12])), (q_b10, .inl (cI, 144, .inl x.1.2)), (q_b0, .inl (cI, 2, .inl x.2.1.1)), (q_b1, .inl (cI, 2, .inl x.2.1.2.1)), (q_b2, .inl (cZ, 2, .inl x.2.1.2.2.1)), (q_b3, .inl (cZ, 2, .inl x.2.1.2.2.2.1)), (q_b4, .inl (cI, 2, .inl x.2.1.2.2.2.2.1)), (q_b5, .inl (cI, 2, .inl x.2.1.2.2.2.2.2.1)), (q_b6, .inl (cI, 2, .inl x.2.1.2.2.2.2.2.2.1)), (q_b7, .inl (cI, 128, .inl x.2.1.2.2.2.2.2.2.2.1)), (q_b8, .inl (cI, 128, .inl x.2.1.2.2.2.2.2.2.2.2.1)), (q_b9, .inl (cI, 128, .inl x.2.1.2.2.2.2.2.2.2.2.2)), (q_b12, .inl (cI, 9, .inl x.2.2))]) s.heap.size = A at hD ⊢
  have hA : ∀ q : Nat, s.heap.size ≤ q → A q := fun q h => by rw [← hAe]; exact Or.inr h
  have hS : va_S A s.heap s.heap [] := va_S.rf
  have hP : va_P (dC, dI) vwCl ([(q_h, .inr (4, [.ref q_b0, .ref q_b1, .ref q_b2, .ref q_b3, .ref q_b4, .ref q_b5, .ref q_b6, .ref q_b7, .ref q_b8, .ref q_b9, .ref q_b10, .int x.1.1, .ref q_b12])), (q_b10, .inl (cI, 144, .inl x.1.2)), (q_b0, .inl (cI, 2, .inl x.2.1.1)), (q_b1, .inl (cI, 2, .inl x.2.1.2.1)), (q_b2, .inl (cZ, 2, .inl x.2.1.2.2.1)), (q_b3, .inl (cZ, 2, .inl x.2.1.2.2.2.1)), (q_b4, .inl (cI, 2, .inl x.2.1.2.2.2.2.1)), (q_b5, .inl (cI, 2, .inl x.2.1.2.2.2.2.2.1)), (q_b6, .inl (cI, 2, .inl x.2.1.2.2.2.2.2.2.1)), (q_b7, .inl (cI, 128, .inl x.2.1.2.2.2.2.2.2.2.1)), (q_b8, .inl (cI, 128, .inl x.2.1.2.2.2.2.2.2.2.2.1)), (q_b9, .inl (cI, 128, .inl x.2.1.2.2.2.2.2.2.2.2.2)), (q_b12, .inl (cI, 9, .inl x.2.2))]) s.heap := hP
  have hD : va_D A ([(q_h, .inr (4, [.ref q_b0, .ref q_b1, .ref q_b2, .ref q_b3, .ref q_b4, .ref q_b5, .ref q_b6, .ref q_b7, .ref q_b8, .ref q_b9, .ref q_b10, .int x.1.1, .ref q_b12])), (q_b10, .inl (cI, 144, .inl x.1.2)), (q_b0, .inl (cI, 2, .inl x.2.1.1)), (q_b1, .inl (cI, 2, .inl x.2.1.2.1)), (q_b2, .inl (cZ, 2, .inl x.2.1.2.2.1)), (q_b3, .inl (cZ, 2, .inl x.2.1.2.2.2.1)), (q_b4, .inl (cI, 2, .inl x.2.1.2.2.2.2.1)), (q_b5, .inl (cI, 2, .inl x.2.1.2.2.2.2.2.1)), (q_b6, .inl (cI, 2, .inl x.2.1.2.2.2.2.2.2.1)), (q_b7, .inl (cI, 128, .inl x.2.1.2.2.2.2.2.2.2.1)), (q_b8, .inl (cI, 128, .inl x.2.1.2.2.2.2.2.2.2.2.1)), (q_b9, .inl (cI, 128, .inl x.2.1.2.2.2.2.2.2.2.2.2)), (q_b12, .inl (cI, 9, .inl x.2.2))]) := hD
  have hl := lv_entry ([.ref q_h]) (n := 2) (Nat.le_of_ble_eq_true rfl)
  rw [lg_entry_eq]
  generalize (lg_sl ([.ref q_h]) ++ List.replicate (2 - (lg_sl ([.ref q_h])).length) Slot.unset).toArray = ls at hl ⊢
  have hl : lv_has ls 2 [(0, .ref q_h)] := hl
  refine lv_iconst (v := 0) hx hb dX4_same_0 (by decide) ?_
  refine lv_istore_n (lv' := [(1, .int 0), (0, .ref q_h)]) hx hb dX4_same_1 rfl hl (by decide) rfl (fun ls hl => ?_)
  obtain ⟨K0, hK0, eK0⟩ := hL (0 : Int32).toNatClampNeg
  obtain ⟨K1, hK1, eK1⟩ := hL (1 : Int32).toNatClampNeg
  obtain ⟨M, hM⟩ : ∃ M : Nat, M = min K0 K1 := ⟨_, rfl⟩
  have hFN : f_m_same x = nI (sm x.2.1.2.2.2.2.2.2.2.1 x.2.1.2.2.2.2.2.2.2.2.1 x.2.1.2.2.2.2.2.2.2.2.2 (fun j => x.2.1.2.2.2.2.2.2.2.1 (64 + j)) (fun j => x.2.1.2.2.2.2.2.2.2.2.1 (64 + j)) (fun j => x.2.1.2.2.2.2.2.2.2.2.2 (64 + j)) M 0) := by unfold f_m_same; rw [← cl0, ← cl1, eK0, eK1, nI_clamp (by omega), nI_clamp (by omega), hM, cl0]
  have hl := lv_sub hl [0, 1] rfl
  have hl : lv_has ls 2 [(1, .int (nI 0)), (0, .ref q_h)] := hl
  have key : ∀ (n k : Nat) (ls : Array Slot), M - k < n → k ≤ M → sm x.2.1.2.2.2.2.2.2.2.1 x.2.1.2.2.2.2.2.2.2.2.1 x.2.1.2.2.2.2.2.2.2.2.2 (fun j => x.2.1.2.2.2.2.2.2.2.1 (64 + j)) (fun j => x.2.1.2.2.2.2.2.2.2.2.1 (64 + j)) (fun j => x.2.1.2.2.2.2.2.2.2.2.2 (64 + j)) M 0 = sm x.2.1.2.2.2.2.2.2.2.1 x.2.1.2.2.2.2.2.2.2.2.1 x.2.1.2.2.2.2.2.2.2.2.2 (fun j => x.2.1.2.2.2.2.2.2.2.1 (64 + j)) (fun j => x.2.1.2.2.2.2.2.2.2.2.1 (64 + j)) (fun j => x.2.1.2.2.2.2.2.2.2.2.2 (64 + j)) (M - k) k → lv_has ls 2 [(1, .int (nI k)), (0, .ref q_h)] → W p l e (headSpec wsX4_same ({ frames := 0, cells := 0, slots := 0, locals := 0 })).room s m [.ref q_h].toArray below meth c s.heap [] 0 0 (MQ below (va_Qi (fun (r : Int32) (_ : Unit) => r = f_m_same x) (fun _ t => va_P (dC, dI) vwCl ([(q_h, .inr (4, [.ref q_b0, .ref q_b1, .ref q_b2, .ref q_b3, .ref q_b4, .ref q_b5, .ref q_b6, .ref q_b7, .ref q_b8, .ref q_b9, .ref q_b10, .int x.1.1, .ref q_b12])), (q_b10, .inl (cI, 144, .inl x.1.2)), (q_b0, .inl (cI, 2, .inl x.2.1.1)), (q_b1, .inl (cI, 2, .inl x.2.1.2.1)), (q_b2, .inl (cZ, 2, .inl x.2.1.2.2.1)), (q_b3, .inl (cZ, 2, .inl x.2.1.2.2.2.1)), (q_b4, .inl (cI, 2, .inl x.2.1.2.2.2.2.1)), (q_b5, .inl (cI, 2, .inl x.2.1.2.2.2.2.2.1)), (q_b6, .inl (cI, 2, .inl x.2.1.2.2.2.2.2.2.1)), (q_b7, .inl (cI, 128, .inl x.2.1.2.2.2.2.2.2.2.1)), (q_b8, .inl (cI, 128, .inl x.2.1.2.2.2.2.2.2.2.2.1)), (q_b9, .inl (cI, 128, .inl x.2.1.2.2.2.2.2.2.2.2.2)), (q_b12, .inl (cI, 9, .inl x.2.2))]) t.heap ∧ va_K (dC, dI) vwCl [(cI, .int), (cZ, .boolean), (cM, .object RX1)] t ∧ va_D (A) ([(q_h, .inr (4, [.ref q_b0, .ref q_b1, .ref q_b2, .ref q_b3, .ref q_b4, .ref q_b5, .ref q_b6, .ref q_b7, .ref q_b8, .ref q_b9, .ref q_b10, .int x.1.1, .ref q_b12])), (q_b10, .inl (cI, 144, .inl x.1.2)), (q_b0, .inl (cI, 2, .inl x.2.1.1)), (q_b1, .inl (cI, 2, .inl x.2.1.2.1)), (q_b2, .inl (cZ, 2, .inl x.2.1.2.2.1)), (q_b3, .inl (cZ, 2, .inl x.2.1.2.2.2.1)), (q_b4, .inl (cI, 2, .inl x.2.1.2.2.2.2.1)), (q_b5, .inl (cI, 2, .inl x.2.1.2.2.2.2.2.1)), (q_b6, .inl (cI, 2, .inl x.2.1.2.2.2.2.2.2.1)), (q_b7, .inl (cI, 128, .inl x.2.1.2.2.2.2.2.2.2.1)), (q_b8, .inl (cI, 128, .inl x.2.1.2.2.2.2.2.2.2.2.1)), (q_b9, .inl (cI, 128, .inl x.2.1.2.2.2.2.2.2.2.2.2)), (q_b12, .inl (cI, 9, .inl x.2.2))])) A) [.ref q_h].toArray s 0 0 A) (F0 m 2 ls []) := by
    intro n
    induction n with
    | zero => intro k ls h; exact absurd h (Nat.not_lt_zero _)
    | succ n ih =>
      intro k ls hn hkM he hl
      refine lv_iload_n hx hb dX4_same_2 rfl (lv_at hl 0 rfl) ?_
      refine lv_aload_n hx hb dX4_same_3 rfl (lv_at hl 1 rfl) ?_
      refine va_get (D := (dC, dI)) (ci := 4) (v := (.ref q_b1)) (C := RX4) (T := TX4) (N := 13) hx hb hts (fun _ h => List.mem_cons_of_mem _ (List.mem_append_right _ h)) hown hK hP 0 rfl rfl 1 (by decide) (hts (.fieldLink RX4 13 "TwinLogModel" "lengths" "[I") (by decide +kernel)) (fun _ h9 => h9) rfl dX4_same_4 ?_
      refine lv_iconst (v := 0) hx hb dX4_same_7 (by decide) ?_
      refine va_iald (D := (dC, dI)) hx hb hK hP 3 0 rfl rfl (vp_lit (by decide)) dX4_same_8 ?_
      refine lv_icmp_ge (tgt := 82) hx hb dX4_same_9 (by decide) (fun c1 => ?_) (fun c1 => ?_)
      · -- taken
        refine lv_iload_n hx hb dX4_same_82 rfl (lv_at hl 0 rfl) ?_
        have hP9 := hP
        have hD9 := hD
        have e9 : f_m_same x = (nI k) := by have hkM2 : k = M := (by have h := c1; rw [eK0, nI_leI (by omega) (by omega)] at h; omega); rw [hFN, he, hkM2, Nat.sub_self]; rfl
        exact W.iret (v := (nI k)) hx hb hr (fun t ht hW => ⟨⟨(nI k), (), rfl, e9.symm, by rw [ht]; exact hP9, va_K.moved hW.alike hK, hD9⟩, hS.F ht⟩) hS.2.2 dX4_same_83
      · -- not taken
        refine lv_iload_n hx hb dX4_same_12 rfl (lv_at hl 0 rfl) ?_
        refine lv_aload_n hx hb dX4_same_13 rfl (lv_at hl 1 rfl) ?_
        refine va_get (D := (dC, dI)) (ci := 4) (v := (.ref q_b1)) (C := RX4) (T := TX4) (N := 13) hx hb hts (fun _ h => List.mem_cons_of_mem _ (List.mem_append_right _ h)) hown hK hP 0 rfl rfl 1 (by decide) (hts (.fieldLink RX4 13 "TwinLogModel" "lengths" "[I") (by decide +kernel)) (fun _ h9 => h9) rfl dX4_same_14 ?_
        refine lv_iconst (v := 1) hx hb dX4_same_17 (by decide) ?_
        refine va_iald (D := (dC, dI)) hx hb hK hP 3 0 rfl rfl (vp_lit (by decide)) dX4_same_18 ?_
        refine lv_icmp_ge (tgt := 82) hx hb dX4_same_19 (by decide) (fun c2 => ?_) (fun c2 => ?_)
        · -- taken
          refine lv_iload_n hx hb dX4_same_82 rfl (lv_at hl 0 rfl) ?_
          have hP9 := hP
          have hD9 := hD
          have e9 : f_m_same x = (nI k) := by have hkM2 : k = M := (by have h := c2; rw [eK1, nI_leI (by omega) (by omega)] at h; omega); rw [hFN, he, hkM2, Nat.sub_self]; rfl
          exact W.iret (v := (nI k)) hx hb hr (fun t ht hW => ⟨⟨(nI k), (), rfl, e9.symm, by rw [ht]; exact hP9, va_K.moved hW.alike hK, hD9⟩, hS.F ht⟩) hS.2.2 dX4_same_83
        · -- not taken
          refine lv_aload_n hx hb dX4_same_22 rfl (lv_at hl 1 rfl) ?_
          refine va_get (D := (dC, dI)) (ci := 4) (v := (.ref q_b7)) (C := RX4) (T := TX4) (N := 13) hx hb hts (fun _ h => List.mem_cons_of_mem _ (List.mem_append_right _ h)) hown hK hP 0 rfl rfl 7 (by decide) (hts (.fieldLink RX4 32 "TwinLogModel" "entryTerms" "[I") (by decide +kernel)) (fun _ h9 => h9) rfl dX4_same_23 ?_
          refine lv_iload_n hx hb dX4_same_26 rfl (lv_at hl 0 rfl) ?_
          refine va_iald (D := (dC, dI)) hx hb hK hP 9 0 rfl rfl (vp_in_nI (by have h := c1; rw [eK0, nI_leI (by omega) (by omega)] at h; omega) (by decide)) dX4_same_27 ?_
          refine lv_aload_n hx hb dX4_same_28 rfl (lv_at hl 1 rfl) ?_
          refine va_get (D := (dC, dI)) (ci := 4) (v := (.ref q_b7)) (C := RX4) (T := TX4) (N := 13) hx hb hts (fun _ h => List.mem_cons_of_mem _ (List.mem_append_right _ h)) hown hK hP 0 rfl rfl 7 (by decide) (hts (.fieldLink RX4 32 "TwinLogModel" "entryTerms" "[I") (by decide +kernel)) (fun _ h9 => h9) rfl dX4_same_29 ?_
          refine lv_bipush (v := 64) hx hb dX4_same_32 (by decide) ?_
          refine lv_iload_n hx hb dX4_same_34 rfl (lv_at hl 0 rfl) ?_
          refine lv_iadd hx hb dX4_same_35 ?_
          refine va_iald (D := (dC, dI)) hx hb hK hP 9 0 rfl rfl (by rw [show (64 : Int32) = nI 64 from rfl, nI_add]; exact vp_in_nI (by have h := c1; rw [eK0, nI_leI (by omega) (by omega)] at h; omega) (by decide)) dX4_same_36 ?_
          refine lv_icmp_ne (tgt := 82) hx hb dX4_same_37 (by decide) (fun c3 => ?_) (fun c3 => ?_)
          · -- taken
            refine lv_iload_n hx hb dX4_same_82 rfl (lv_at hl 0 rfl) ?_
            have hP9 := hP
            have hD9 := hD
            have e9 : f_m_same x = (nI k) := by have hk0 : k < K0 := (by have h := c1; rw [eK0, nI_leI (by omega) (by omega)] at h; omega); have hk1 : k < K1 := (by have h := c2; rw [eK1, nI_leI (by omega) (by omega)] at h; omega); rw [hFN, he, show M - k = (M - (k + 1)) + 1 by omega, sm_n (fun q => c3 (by rw [nI_clamp (by omega), ix64 (by omega)]; exact q.1))]
            exact W.iret (v := (nI k)) hx hb hr (fun t ht hW => ⟨⟨(nI k), (), rfl, e9.symm, by rw [ht]; exact hP9, va_K.moved hW.alike hK, hD9⟩, hS.F ht⟩) hS.2.2 dX4_same_83
          · -- not taken
            refine lv_aload_n hx hb dX4_same_40 rfl (lv_at hl 1 rfl) ?_
            refine va_get (D := (dC, dI)) (ci := 4) (v := (.ref q_b8)) (C := RX4) (T := TX4) (N := 13) hx hb hts (fun _ h => List.mem_cons_of_mem _ (List.mem_append_right _ h)) hown hK hP 0 rfl rfl 8 (by decide) (hts (.fieldLink RX4 35 "TwinLogModel" "entryKeys" "[I") (by decide +kernel)) (fun _ h9 => h9) rfl dX4_same_41 ?_
            refine lv_iload_n hx hb dX4_same_44 rfl (lv_at hl 0 rfl) ?_
            refine va_iald (D := (dC, dI)) hx hb hK hP 10 0 rfl rfl (vp_in_nI (by have h := c1; rw [eK0, nI_leI (by omega) (by omega)] at h; omega) (by decide)) dX4_same_45 ?_
            refine lv_aload_n hx hb dX4_same_46 rfl (lv_at hl 1 rfl) ?_
            refine va_get (D := (dC, dI)) (ci := 4) (v := (.ref q_b8)) (C := RX4) (T := TX4) (N := 13) hx hb hts (fun _ h => List.mem_cons_of_mem _ (List.mem_append_right _ h)) hown hK hP 0 rfl rfl 8 (by decide) (hts (.fieldLink RX4 35 "TwinLogModel" "entryKeys" "[I") (by decide +kernel)) (fun _ h9 => h9) rfl dX4_same_47 ?_
            refine lv_bipush (v := 64) hx hb dX4_same_50 (by decide) ?_
            refine lv_iload_n hx hb dX4_same_52 rfl (lv_at hl 0 rfl) ?_
            refine lv_iadd hx hb dX4_same_53 ?_
            refine va_iald (D := (dC, dI)) hx hb hK hP 10 0 rfl rfl (by rw [show (64 : Int32) = nI 64 from rfl, nI_add]; exact vp_in_nI (by have h := c1; rw [eK0, nI_leI (by omega) (by omega)] at h; omega) (by decide)) dX4_same_54 ?_
            refine lv_icmp_ne (tgt := 82) hx hb dX4_same_55 (by decide) (fun c4 => ?_) (fun c4 => ?_)
            · -- taken
              refine lv_iload_n hx hb dX4_same_82 rfl (lv_at hl 0 rfl) ?_
              have hP9 := hP
              have hD9 := hD
              have e9 : f_m_same x = (nI k) := by have hk0 : k < K0 := (by have h := c1; rw [eK0, nI_leI (by omega) (by omega)] at h; omega); have hk1 : k < K1 := (by have h := c2; rw [eK1, nI_leI (by omega) (by omega)] at h; omega); rw [hFN, he, show M - k = (M - (k + 1)) + 1 by omega, sm_n (fun q => c4 (by rw [nI_clamp (by omega), ix64 (by omega)]; exact q.2.1))]
              exact W.iret (v := (nI k)) hx hb hr (fun t ht hW => ⟨⟨(nI k), (), rfl, e9.symm, by rw [ht]; exact hP9, va_K.moved hW.alike hK, hD9⟩, hS.F ht⟩) hS.2.2 dX4_same_83
            · -- not taken
              refine lv_aload_n hx hb dX4_same_58 rfl (lv_at hl 1 rfl) ?_
              refine va_get (D := (dC, dI)) (ci := 4) (v := (.ref q_b9)) (C := RX4) (T := TX4) (N := 13) hx hb hts (fun _ h => List.mem_cons_of_mem _ (List.mem_append_right _ h)) hown hK hP 0 rfl rfl 9 (by decide) (hts (.fieldLink RX4 38 "TwinLogModel" "entryValues" "[I") (by decide +kernel)) (fun _ h9 => h9) rfl dX4_same_59 ?_
              refine lv_iload_n hx hb dX4_same_62 rfl (lv_at hl 0 rfl) ?_
              refine va_iald (D := (dC, dI)) hx hb hK hP 11 0 rfl rfl (vp_in_nI (by have h := c1; rw [eK0, nI_leI (by omega) (by omega)] at h; omega) (by decide)) dX4_same_63 ?_
              refine lv_aload_n hx hb dX4_same_64 rfl (lv_at hl 1 rfl) ?_
              refine va_get (D := (dC, dI)) (ci := 4) (v := (.ref q_b9)) (C := RX4) (T := TX4) (N := 13) hx hb hts (fun _ h => List.mem_cons_of_mem _ (List.mem_append_right _ h)) hown hK hP 0 rfl rfl 9 (by decide) (hts (.fieldLink RX4 38 "TwinLogModel" "entryValues" "[I") (by decide +kernel)) (fun _ h9 => h9) rfl dX4_same_65 ?_
              refine lv_bipush (v := 64) hx hb dX4_same_68 (by decide) ?_
              refine lv_iload_n hx hb dX4_same_70 rfl (lv_at hl 0 rfl) ?_
              refine lv_iadd hx hb dX4_same_71 ?_
              refine va_iald (D := (dC, dI)) hx hb hK hP 11 0 rfl rfl (by rw [show (64 : Int32) = nI 64 from rfl, nI_add]; exact vp_in_nI (by have h := c1; rw [eK0, nI_leI (by omega) (by omega)] at h; omega) (by decide)) dX4_same_72 ?_
              refine lv_icmp_ne (tgt := 82) hx hb dX4_same_73 (by decide) (fun c5 => ?_) (fun c5 => ?_)
              · -- taken
                refine lv_iload_n hx hb dX4_same_82 rfl (lv_at hl 0 rfl) ?_
                have hP9 := hP
                have hD9 := hD
                have e9 : f_m_same x = (nI k) := by have hk0 : k < K0 := (by have h := c1; rw [eK0, nI_leI (by omega) (by omega)] at h; omega); have hk1 : k < K1 := (by have h := c2; rw [eK1, nI_leI (by omega) (by omega)] at h; omega); rw [hFN, he, show M - k = (M - (k + 1)) + 1 by omega, sm_n (fun q => c5 (by rw [nI_clamp (by omega), ix64 (by omega)]; exact q.2.2))]
                exact W.iret (v := (nI k)) hx hb hr (fun t ht hW => ⟨⟨(nI k), (), rfl, e9.symm, by rw [ht]; exact hP9, va_K.moved hW.alike hK, hD9⟩, hS.F ht⟩) hS.2.2 dX4_same_83
              · -- not taken
                obtain ⟨x6, ex6⟩ : ∃ y : Int32, y = (nI k) + 1 := ⟨_, rfl⟩
                refine lv_iinc (v := x6) (lv' := [(1, .int x6), (0, .ref q_h)]) hx hb dX4_same_76 hl (k := 0) rfl (by rw [ex6]; rfl) (by decide) rfl (fun ls hl => ?_)
                refine lv_goto (tgt := 2) hx hb dX4_same_79 (by decide) ?_
                rw [nI_1] at ex6
                rw [ex6] at hl
                have hl := lv_sub hl [0, 1] rfl
                have hk0 : k < K0 := (by have h := c1; rw [eK0, nI_leI (by omega) (by omega)] at h; omega); have hk1 : k < K1 := (by have h := c2; rw [eK1, nI_leI (by omega) (by omega)] at h; omega)
                have g1 := c3; have g2 := c4; have g3 := c5
                rw [nI_clamp (by omega), ix64 (by omega)] at g1 g2 g3
                exact ih (k + 1) _ (by omega) (by omega) (he.trans (by rw [show M - k = (M - (k + 1)) + 1 by omega]; exact sm_y ⟨g1, g2, g3⟩)) hl
  exact key (M + 1) 0 _ (by omega) (Nat.zero_le _) (by rw [Nat.sub_zero]) hl
