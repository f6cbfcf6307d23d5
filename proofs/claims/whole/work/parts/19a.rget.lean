/-- the entries of one node of the reference -/
abbrev at_n (f : Nat → Int32) (n : Int32) : Nat → Int32 := fun j => f (64 * n.toNatClampNeg + j)
def f_m_get (x : Rq × Rn × (Nat → Int32)) (p1 p2 : Int32) : Int32 :=
  if f_m_isNode p1 = 0 then (-1) else if p2 < 0 then (-1) else if p2 ≤ 15 then gl (at_n x.2.1.2.2.2.2.2.2.2.2.1 p1) (at_n x.2.1.2.2.2.2.2.2.2.2.2 p1) p2 (x.2.1.2.1 p1.toNatClampNeg).toNatClampNeg else (-1)
theorem ent_ix {n : Int32} {k : Nat} (hn : vp_in n 2) (hk : k < 64) : ((64 * n) + nI k).toNatClampNeg = 64 * n.toNatClampNeg + k := by
  obtain ⟨j, hj, rfl⟩ := vp_in_of hn (by omega)
  rw [show (64 : Int32) = nI 64 from rfl, pk_mul, nI_add, nI_clamp (by omega), nI_clamp (by omega)]
set_option maxHeartbeats 4000000 in
set_option maxRecDepth 100000 in
theorem c_m_get (l : Launch) (dC : Nat → ClassId) (dI : Nat → Nat → Nat) (cI cZ cM : ClassId) (q_h : Nat) (q_b0 : Nat) (q_b1 : Nat) (q_b2 : Nat) (q_b3 : Nat) (q_b4 : Nat) (q_b5 : Nat) (q_b6 : Nat) (q_b7 : Nat) (q_b8 : Nat) (q_b9 : Nat) (q_b10 : Nat) (q_b12 : Nat) (sz : Nat) (x : Rq × Rn × Cm)  (p1 : Int32) (p2 : Int32) (hm : ∃ k : Nat, k ≤ 16 ∧ x.1.1 = nI k) (hL : RlOk x.2.1) : Met l yX4_get wsX4_get ({ frames := 1, cells := 0, slots := 0, locals := 20 }) (va_Pc [.ref q_h, .int p1, .int p2] (fun U => U.heap.size = sz ∧ va_P (dC, dI) vwCl ([(q_h, .inr (4, [.ref q_b0, .ref q_b1, .ref q_b2, .ref q_b3, .ref q_b4, .ref q_b5, .ref q_b6, .ref q_b7, .ref q_b8, .ref q_b9, .ref q_b10, .int x.1.1, .ref q_b12])), (q_b10, .inl (cI, 144, .inl x.1.2)), (q_b0, .inl (cI, 2, .inl x.2.1.1)), (q_b1, .inl (cI, 2, .inl x.2.1.2.1)), (q_b2, .inl (cZ, 2, .inl x.2.1.2.2.1)), (q_b3, .inl (cZ, 2, .inl x.2.1.2.2.2.1)), (q_b4, .inl (cI, 2, .inl x.2.1.2.2.2.2.1)), (q_b5, .inl (cI, 2, .inl x.2.1.2.2.2.2.2.1)), (q_b6, .inl (cI, 2, .inl x.2.1.2.2.2.2.2.2.1)), (q_b7, .inl (cI, 128, .inl x.2.1.2.2.2.2.2.2.2.1)), (q_b8, .inl (cI, 128, .inl x.2.1.2.2.2.2.2.2.2.2.1)), (q_b9, .inl (cI, 128, .inl x.2.1.2.2.2.2.2.2.2.2.2)), (q_b12, .inl (cI, 9, .inl x.2.2))]) U.heap ∧ va_K (dC, dI) vwCl [(cI, .int), (cZ, .boolean), (cM, .object RX1)] U ∧ va_D (fun _ => True) ([(q_h, .inr (4, [.ref q_b0, .ref q_b1, .ref q_b2, .ref q_b3, .ref q_b4, .ref q_b5, .ref q_b6, .ref q_b7, .ref q_b8, .ref q_b9, .ref q_b10, .int x.1.1, .ref q_b12])), (q_b10, .inl (cI, 144, .inl x.1.2)), (q_b0, .inl (cI, 2, .inl x.2.1.1)), (q_b1, .inl (cI, 2, .inl x.2.1.2.1)), (q_b2, .inl (cZ, 2, .inl x.2.1.2.2.1)), (q_b3, .inl (cZ, 2, .inl x.2.1.2.2.2.1)), (q_b4, .inl (cI, 2, .inl x.2.1.2.2.2.2.1)), (q_b5, .inl (cI, 2, .inl x.2.1.2.2.2.2.2.1)), (q_b6, .inl (cI, 2, .inl x.2.1.2.2.2.2.2.2.1)), (q_b7, .inl (cI, 128, .inl x.2.1.2.2.2.2.2.2.2.1)), (q_b8, .inl (cI, 128, .inl x.2.1.2.2.2.2.2.2.2.2.1)), (q_b9, .inl (cI, 128, .inl x.2.1.2.2.2.2.2.2.2.2.2)), (q_b12, .inl (cI, 9, .inl x.2.2))]))) (va_Qi (fun (r : Int32) (_ : Unit) => r = f_m_get x p1 p2) (fun _ t => va_P (dC, dI) vwCl ([(q_h, .inr (4, [.ref q_b0, .ref q_b1, .ref q_b2, .ref q_b3, .ref q_b4, .ref q_b5, .ref q_b6, .ref q_b7, .ref q_b8, .ref q_b9, .ref q_b10, .int x.1.1, .ref q_b12])), (q_b10, .inl (cI, 144, .inl x.1.2)), (q_b0, .inl (cI, 2, .inl x.2.1.1)), (q_b1, .inl (cI, 2, .inl x.2.1.2.1)), (q_b2, .inl (cZ, 2, .inl x.2.1.2.2.1)), (q_b3, .inl (cZ, 2, .inl x.2.1.2.2.2.1)), (q_b4, .inl (cI, 2, .inl x.2.1.2.2.2.2.1)), (q_b5, .inl (cI, 2, .inl x.2.1.2.2.2.2.2.1)), (q_b6, .inl (cI, 2, .inl x.2.1.2.2.2.2.2.2.1)), (q_b7, .inl (cI, 128, .inl x.2.1.2.2.2.2.2.2.2.1)), (q_b8, .inl (cI, 128, .inl x.2.1.2.2.2.2.2.2.2.2.1)), (q_b9, .inl (cI, 128, .inl x.2.1.2.2.2.2.2.2.2.2.2)), (q_b12, .inl (cI, 9, .inl x.2.2))]) t.heap ∧ va_K (dC, dI) vwCl [(cI, .int), (cZ, .boolean), (cM, .object RX1)] t ∧ va_D (va_A ([(q_h, .inr (4, [.ref q_b0, .ref q_b1, .ref q_b2, .ref q_b3, .ref q_b4, .ref q_b5, .ref q_b6, .ref q_b7, .ref q_b8, .ref q_b9, .ref q_b10, .int x.1.1, .ref q_b12])), (q_b10, .inl (cI, 144, .inl x.1.2)), (q_b0, .inl (cI, 2, .inl x.2.1.1)), (q_b1, .inl (cI, 2, .inl x.2.1.2.1)), (q_b2, .inl (cZ, 2, .inl x.2.1.2.2.1)), (q_b3, .inl (cZ, 2, .inl x.2.1.2.2.2.1)), (q_b4, .inl (cI, 2, .inl x.2.1.2.2.2.2.1)), (q_b5, .inl (cI, 2, .inl x.2.1.2.2.2.2.2.1)), (q_b6, .inl (cI, 2, .inl x.2.1.2.2.2.2.2.2.1)), (q_b7, .inl (cI, 128, .inl x.2.1.2.2.2.2.2.2.2.1)), (q_b8, .inl (cI, 128, .inl x.2.1.2.2.2.2.2.2.2.2.1)), (q_b9, .inl (cI, 128, .inl x.2.1.2.2.2.2.2.2.2.2.2)), (q_b12, .inl (cI, 9, .inl x.2.2))]) sz) ([(q_h, .inr (4, [.ref q_b0, .ref q_b1, .ref q_b2, .ref q_b3, .ref q_b4, .ref q_b5, .ref q_b6, .ref q_b7, .ref q_b8, .ref q_b9, .ref q_b10, .int x.1.1, .ref q_b12])), (q_b10, .inl (cI, 144, .inl x.1.2)), (q_b0, .inl (cI, 2, .inl x.2.1.1)), (q_b1, .inl (cI, 2, .inl x.2.1.2.1)), (q_b2, .inl (cZ, 2, .inl x.2.1.2.2.1)), (q_b3, .inl (cZ, 2, .inl x.2.1.2.2.2.1)), (q_b4, .inl (cI, 2, .inl x.2.1.2.2.2.2.1)), (q_b5, .inl (cI, 2, .inl x.2.1.2.2.2.2.2.1)), (q_b6, .inl (cI, 2, .inl x.2.1.2.2.2.2.2.2.1)), (q_b7, .inl (cI, 128, .inl x.2.1.2.2.2.2.2.2.2.1)), (q_b8, .inl (cI, 128, .inl x.2.1.2.2.2.2.2.2.2.2.1)), (q_b9, .inl (cI, 128, .inl x.2.1.2.2.2.2.2.2.2.2.2)), (q_b12, .inl (cI, 9, .inl x.2.2))])) (va_A ([(q_h, .inr (4, [.ref q_b0, .ref q_b1, .ref q_b2, .ref q_b3, .ref q_b4, .ref q_b5, .ref q_b6, .ref q_b7, .ref q_b8, .ref q_b9, .ref q_b10, .int x.1.1, .ref q_b12])), (q_b10, .inl (cI, 144, .inl x.1.2)), (q_b0, .inl (cI, 2, .inl x.2.1.1)), (q_b1, .inl (cI, 2, .inl x.2.1.2.1)), (q_b2, .inl (cZ, 2, .inl x.2.1.2.2.1)), (q_b3, .inl (cZ, 2, .inl x.2.1.2.2.2.1)), (q_b4, .inl (cI, 2, .inl x.2.1.2.2.2.2.1)), (q_b5, .inl (cI, 2, .inl x.2.1.2.2.2.2.2.1)), (q_b6, .inl (cI, 2, .inl x.2.1.2.2.2.2.2.2.1)), (q_b7, .inl (cI, 128, .inl x.2.1.2.2.2.2.2.2.2.1)), (q_b8, .inl (cI, 128, .inl x.2.1.2.2.2.2.2.2.2.2.1)), (q_b9, .inl (cI, 128, .inl x.2.1.2.2.2.2.2.2.2.2.2)), (q_b12, .inl (cI, 9, .inl x.2.2))]) sz)) 0 0 (va_A ([(q_h, .inr (4, [.ref q_b0, .ref q_b1, .ref q_b2, .ref q_b3, .ref q_b4, .ref q_b5, .ref q_b6, .ref q_b7, .ref q_b8, .ref q_b9, .ref q_b10, .int x.1.1, .ref q_b12])), (q_b10, .inl (cI, 144, .inl x.1.2)), (q_b0, .inl (cI, 2, .inl x.2.1.1)), (q_b1, .inl (cI, 2, .inl x.2.1.2.1)), (q_b2, .inl (cZ, 2, .inl x.2.1.2.2.1)), (q_b3, .inl (cZ, 2, .inl x.2.1.2.2.2.1)), (q_b4, .inl (cI, 2, .inl x.2.1.2.2.2.2.1)), (q_b5, .inl (cI, 2, .inl x.2.1.2.2.2.2.2.1)), (q_b6, .inl (cI, 2, .inl x.2.1.2.2.2.2.2.2.1)), (q_b7, .inl (cI, 128, .inl x.2.1.2.2.2.2.2.2.2.1)), (q_b8, .inl (cI, 128, .inl x.2.1.2.2.2.2.2.2.2.2.1)), (q_b9, .inl (cI, 128, .inl x.2.1.2.2.2.2.2.2.2.2.2)), (q_b12, .inl (cI, 9, .inl x.2.2))]) sz) := by
  refine Met.ofW (cc := cX4_get) (maxL := 5) (ret := (some .int)) (by decide) rfl ?_
  intro p e s m args below meth c s₁ B hml hv
  obtain ⟨rfl, hsz, hP, hK, hD0⟩ := hv
  have hx := B.exec
  have hb := B.bytes
  have hr := B.returns
  have hts := atoms_spec (ws := wsX4_get) B.pre
  have hown : s.vm.findClass RX4 = some m.cls := findClass_of_methodNamed B.named
  have hlocks := B.notSynchronized
  subst hsz
  have hD := hD0.self (sz := s.heap.size)
  generalize hAe : va_A ([(q_h, .inr (4, [.ref q_b0, .ref q_b1, .ref q_b2, .ref q_b3, .ref q_b4, .ref q_b5, .ref q_b6, .ref q_b7, .ref q_b8, .ref q_b9, .ref q_b10, .int x.1.1, .ref q_b12])), (q_b10, .inl (cI, 144, .inl x.1.2)), (q_b0, .inl (cI, 2, .inl x.2.1.1)), (q_b1, .inl (cI, 2, .inl x.2.1.2.1)), (q_b2, .inl (cZ, 2, .inl x.2.1.2.2.1)), (q_b3, .inl (cZ, 2, .inl x.2.1.2.2.2.1)), (q_b4, .inl (cI, 2, .inl x.2.1.2.2.2.2.1)), (q_b5, .inl (cI, 2, .inl x.2.1.2.2.2.2.2.1)), (q_b6, .inl (cI, 2, .inl x.2.1.2.2.2.2.2.2.1)), (q_b7, .inl (cI, 128, .inl x.2.1.2.2.2.2.2.2.2.1)), (q_b8, .inl (cI, 128, .inl x.2.1.2.2.2.2.2.2.2.2.1)), (q_b9, .inl (cI, 128, .inl x.2.1.2.2.2.2.2.2.2.2.2)), (q_b12, .inl (cI, 9, .inl x.2.2))]) s.heap.size = A at hD ⊢
  have hA : ∀ q : Nat, s.heap.size ≤ q → A q := fun q h => by rw [← hAe]; exact Or.inr h
  have hS : va_S A s.heap s.heap [] := va_S.rf
  have hP : va_P (dC, dI) vwCl ([(q_h, .inr (4, [.ref q_b0, .ref q_b1, .ref q_b2, .ref q_b3, .ref q_b4, .ref q_b5, .ref q_b6, .ref q_b7, .ref q_b8, .ref q_b9, .ref q_b10, .int x.1.1, .ref q_b12])), (q_b10, .inl (cI, 144, .inl x.1.2)), (q_b0, .inl (cI, 2, .inl x.2.1.1)), (q_b1, .inl (cI, 2, .inl x.2.1.2.1)), (q_b2, .inl (cZ, 2, .inl x.2.1.2.2.1)), (q_b3, .inl (cZ, 2, .inl x.2.1.2.2.2.1)), (q_b4, .inl (cI, 2, .inl x.2.1.2.2.2.2.1)), (q_b5, .inl (cI, 2, .inl x.2.1.2.2.2.2.2.1)), (q_b6, .inl (cI, 2, .inl x.2.1.2.2.2.2.2.2.1)), (q_b7, .inl (cI, 128, .inl x.2.1.2.2.2.2.2.2.2.1)), (q_b8, .inl (cI, 128, .inl x.2.1.2.2.2.2.2.2.2.2.1)), (q_b9, .inl (cI, 128, .inl x.2.1.2.2.2.2.2.2.2.2.2)), (q_b12, .inl (cI, 9, .inl x.2.2))]) s.heap := hP
  have hD : va_D A ([(q_h, .inr (4, [.ref q_b0, .ref q_b1, .ref q_b2, .ref q_b3, .ref q_b4, .ref q_b5, .ref q_b6, .ref q_b7, .ref q_b8, .ref q_b9, .ref q_b10, .int x.1.1, .ref q_b12])), (q_b10, .inl (cI, 144, .inl x.1.2)), (q_b0, .inl (cI, 2, .inl x.2.1.1)), (q_b1, .inl (cI, 2, .inl x.2.1.2.1)), (q_b2, .inl (cZ, 2, .inl x.2.1.2.2.1)), (q_b3, .inl (cZ, 2, .inl x.2.1.2.2.2.1)), (q_b4, .inl (cI, 2, .inl x.2.1.2.2.2.2.1)), (q_b5, .inl (cI, 2, .inl x.2.1.2.2.2.2.2.1)), (q_b6, .inl (cI, 2, .inl x.2.1.2.2.2.2.2.2.1)), (q_b7, .inl (cI, 128, .inl x.2.1.2.2.2.2.2.2.2.1)), (q_b8, .inl (cI, 128, .inl x.2.1.2.2.2.2.2.2.2.2.1)), (q_b9, .inl (cI, 128, .inl x.2.1.2.2.2.2.2.2.2.2.2)), (q_b12, .inl (cI, 9, .inl x.2.2))]) := hD
  have hl := lv_entry ([.ref q_h, .int p1, .int p2]) (n := 5) (Nat.le_of_ble_eq_true rfl)
  rw [lg_entry_eq]
  generalize (lg_sl ([.ref q_h, .int p1, .int p2]) ++ List.replicate (5 - (lg_sl ([.ref q_h, .int p1, .int p2])).length) Slot.unset).toArray = ls at hl ⊢
  have hl : lv_has ls 5 [(0, .ref q_h), (1, .int p1), (2, .int p2)] := hl
  refine lv_iload_n hx hb dX4_get_0 rfl (lv_at hl 1 rfl) ?_
  have hPc := hP.sub (ws' := []) [] rfl
  have hDc := hD.sub (ws' := []) [] (by decide) rfl
  have hFc := va_free (wc := []) hD hS hA [] rfl
  refine kc_Si (As := [.int p1]) (rest := []) (J := fun w => [(q_h, .inr (4, [.ref q_b0, .ref q_b1, .ref q_b2, .ref q_b3, .ref q_b4, .ref q_b5, .ref q_b6, .ref q_b7, .ref q_b8, .ref q_b9, .ref q_b10, .int x.1.1, .ref q_b12])), (q_b10, .inl (cI, 144, .inl x.1.2)), (q_b0, .inl (cI, 2, .inl x.2.1.1)), (q_b1, .inl (cI, 2, .inl x.2.1.2.1)), (q_b2, .inl (cZ, 2, .inl x.2.1.2.2.1)), (q_b3, .inl (cZ, 2, .inl x.2.1.2.2.2.1)), (q_b4, .inl (cI, 2, .inl x.2.1.2.2.2.2.1)), (q_b5, .inl (cI, 2, .inl x.2.1.2.2.2.2.2.1)), (q_b6, .inl (cI, 2, .inl x.2.1.2.2.2.2.2.2.1)), (q_b7, .inl (cI, 128, .inl x.2.1.2.2.2.2.2.2.2.1)), (q_b8, .inl (cI, 128, .inl x.2.1.2.2.2.2.2.2.2.2.1)), (q_b9, .inl (cI, 128, .inl x.2.1.2.2.2.2.2.2.2.2.2)), (q_b12, .inl (cI, 9, .inl x.2.2))] ++ w) ⟨hx, hb, hml, hown, hts⟩ (c_m_isNode l dC dI cI cZ cM  s.heap.size  p1 ) (cwS 1 hts gX4_get_X4_isNode rfl rfl rfl (by decide +kernel) ⟨Nat.le_of_ble_eq_true rfl, Nat.le_of_ble_eq_true rfl⟩) hK hPc hDc hFc hS (fun H1 w1 hk1 hP1 hD1 => va_join (wr := [(q_h, .inr (4, [.ref q_b0, .ref q_b1, .ref q_b2, .ref q_b3, .ref q_b4, .ref q_b5, .ref q_b6, .ref q_b7, .ref q_b8, .ref q_b9, .ref q_b10, .int x.1.1, .ref q_b12])), (q_b10, .inl (cI, 144, .inl x.1.2)), (q_b0, .inl (cI, 2, .inl x.2.1.1)), (q_b1, .inl (cI, 2, .inl x.2.1.2.1)), (q_b2, .inl (cZ, 2, .inl x.2.1.2.2.1)), (q_b3, .inl (cZ, 2, .inl x.2.1.2.2.2.1)), (q_b4, .inl (cI, 2, .inl x.2.1.2.2.2.2.1)), (q_b5, .inl (cI, 2, .inl x.2.1.2.2.2.2.2.1)), (q_b6, .inl (cI, 2, .inl x.2.1.2.2.2.2.2.2.1)), (q_b7, .inl (cI, 128, .inl x.2.1.2.2.2.2.2.2.2.1)), (q_b8, .inl (cI, 128, .inl x.2.1.2.2.2.2.2.2.2.2.1)), (q_b9, .inl (cI, 128, .inl x.2.1.2.2.2.2.2.2.2.2.2)), (q_b12, .inl (cI, 9, .inl x.2.2))]) hP hD [] [0, 1, 2, 3, 4, 5, 6, 7, 8, 9, 10, 11, 12] rfl rfl (by decide) (by decide) hk1 hFc hP1 hD1) rfl hl.1 rfl (Nat.le_of_ble_eq_true rfl) dX4_get_1 ⟨Nat.zero_le _, Nat.zero_le _⟩ (fun r1 u1 H locs hw1 hP hD hS => ?_)
  have hP : va_P (dC, dI) vwCl ([(q_h, .inr (4, [.ref q_b0, .ref q_b1, .ref q_b2, .ref q_b3, .ref q_b4, .ref q_b5, .ref q_b6, .ref q_b7, .ref q_b8, .ref q_b9, .ref q_b10, .int x.1.1, .ref q_b12])), (q_b10, .inl (cI, 144, .inl x.1.2)), (q_b0, .inl (cI, 2, .inl x.2.1.1)), (q_b1, .inl (cI, 2, .inl x.2.1.2.1)), (q_b2, .inl (cZ, 2, .inl x.2.1.2.2.1)), (q_b3, .inl (cZ, 2, .inl x.2.1.2.2.2.1)), (q_b4, .inl (cI, 2, .inl x.2.1.2.2.2.2.1)), (q_b5, .inl (cI, 2, .inl x.2.1.2.2.2.2.2.1)), (q_b6, .inl (cI, 2, .inl x.2.1.2.2.2.2.2.2.1)), (q_b7, .inl (cI, 128, .inl x.2.1.2.2.2.2.2.2.2.1)), (q_b8, .inl (cI, 128, .inl x.2.1.2.2.2.2.2.2.2.2.1)), (q_b9, .inl (cI, 128, .inl x.2.1.2.2.2.2.2.2.2.2.2)), (q_b12, .inl (cI, 9, .inl x.2.2))]) H := hP
  have hD : va_D A ([(q_h, .inr (4, [.ref q_b0, .ref q_b1, .ref q_b2, .ref q_b3, .ref q_b4, .ref q_b5, .ref q_b6, .ref q_b7, .ref q_b8, .ref q_b9, .ref q_b10, .int x.1.1, .ref q_b12])), (q_b10, .inl (cI, 144, .inl x.1.2)), (q_b0, .inl (cI, 2, .inl x.2.1.1)), (q_b1, .inl (cI, 2, .inl x.2.1.2.1)), (q_b2, .inl (cZ, 2, .inl x.2.1.2.2.1)), (q_b3, .inl (cZ, 2, .inl x.2.1.2.2.2.1)), (q_b4, .inl (cI, 2, .inl x.2.1.2.2.2.2.1)), (q_b5, .inl (cI, 2, .inl x.2.1.2.2.2.2.2.1)), (q_b6, .inl (cI, 2, .inl x.2.1.2.2.2.2.2.2.1)), (q_b7, .inl (cI, 128, .inl x.2.1.2.2.2.2.2.2.2.1)), (q_b8, .inl (cI, 128, .inl x.2.1.2.2.2.2.2.2.2.2.1)), (q_b9, .inl (cI, 128, .inl x.2.1.2.2.2.2.2.2.2.2.2)), (q_b12, .inl (cI, 9, .inl x.2.2))]) := hD
  refine lv_if_eq (tgt := 17) hx hb dX4_get_4 (by decide) (fun c2 => ?_) (fun c2 => ?_)
  · -- taken
    refine lv_iconst (v := (-1)) hx hb dX4_get_17 (by decide) ?_
    have hP9 := hP
    have hD9 := hD
    have e9 : f_m_get x p1 p2 = (-1) := by simp only [f_m_get, ← hw1, if_pos c2]
    exact W.iret (v := (-1)) hx hb hr (fun t ht hW => ⟨⟨(-1), (), rfl, e9.symm, by rw [ht]; exact hP9, va_K.moved hW.alike hK, hD9⟩, hS.F ht⟩) hS.2.2 dX4_get_18
  · -- not taken
    refine lv_iload_n hx hb dX4_get_7 rfl (lv_at hl 2 rfl) ?_
    refine lv_if_lt (tgt := 17) hx hb dX4_get_8 (by decide) (fun c3 => ?_) (fun c3 => ?_)
    · -- taken
      refine lv_iconst (v := (-1)) hx hb dX4_get_17 (by decide) ?_
      have hP9 := hP
      have hD9 := hD
      have e9 : f_m_get x p1 p2 = (-1) := by simp only [f_m_get, ← hw1, if_neg c2, if_pos c3]
      exact W.iret (v := (-1)) hx hb hr (fun t ht hW => ⟨⟨(-1), (), rfl, e9.symm, by rw [ht]; exact hP9, va_K.moved hW.alike hK, hD9⟩, hS.F ht⟩) hS.2.2 dX4_get_18
    · -- not taken
      refine lv_iload_n hx hb dX4_get_11 rfl (lv_at hl 2 rfl) ?_
      refine lv_bipush (v := 15) hx hb dX4_get_12 (by decide) ?_
      refine lv_icmp_le (tgt := 19) hx hb dX4_get_14 (by decide) (fun c4 => ?_) (fun c4 => ?_)
      · -- taken
        refine lv_iconst (v := 0) hx hb dX4_get_19 (by decide) ?_
        refine lv_istore_n (lv' := [(3, .int 0), (0, .ref q_h), (1, .int p1), (2, .int p2)]) hx hb dX4_get_20 rfl hl (by decide) rfl (fun ls hl => ?_)
        refine lv_iconst (v := 0) hx hb dX4_get_21 (by decide) ?_
        refine lv_istore (lv' := [(4, .int 0), (3, .int 0), (0, .ref q_h), (1, .int p1), (2, .int p2)]) hx hb dX4_get_22 hl (by decide) rfl (fun ls hl => ?_)
        have HN := isn_in (fun q => c2 (hw1.trans q))
        obtain ⟨K, hK64, eK⟩ := hL p1.toNatClampNeg
        have hl := lv_sub hl [0, 1, 2, 3, 4] rfl
        have hl : lv_has ls 5 [(4, .int (nI 0)), (3, .int (gl (at_n x.2.1.2.2.2.2.2.2.2.2.1 p1) (at_n x.2.1.2.2.2.2.2.2.2.2.2 p1) p2 0)), (0, .ref q_h), (1, .int p1), (2, .int p2)] := hl
        have key : ∀ (n k : Nat) (ls : Array Slot), K - k < n → k ≤ K → lv_has ls 5 [(4, .int (nI k)), (3, .int (gl (at_n x.2.1.2.2.2.2.2.2.2.2.1 p1) (at_n x.2.1.2.2.2.2.2.2.2.2.2 p1) p2 k)), (0, .ref q_h), (1, .int p1), (2, .int p2)] → W p l e (headSpec wsX4_get ({ frames := 1, cells := 0, slots := 0, locals := 20 })).room s m [.ref q_h, .int p1, .int p2].toArray below meth c H locs 0 0 (MQ below (va_Qi (fun (r : Int32) (_ : Unit) => r = f_m_get x p1 p2) (fun _ t => va_P (dC, dI) vwCl ([(q_h, .inr (4, [.ref q_b0, .ref q_b1, .ref q_b2, .ref q_b3, .ref q_b4, .ref q_b5, .ref q_b6, .ref q_b7, .ref q_b8, .ref q_b9, .ref q_b10, .int x.1.1, .ref q_b12])), (q_b10, .inl (cI, 144, .inl x.1.2)), (q_b0, .inl (cI, 2, .inl x.2.1.1)), (q_b1, .inl (cI, 2, .inl x.2.1.2.1)), (q_b2, .inl (cZ, 2, .inl x.2.1.2.2.1)), (q_b3, .inl (cZ, 2, .inl x.2.1.2.2.2.1)), (q_b4, .inl (cI, 2, .inl x.2.1.2.2.2.2.1)), (q_b5, .inl (cI, 2, .inl x.2.1.2.2.2.2.2.1)), (q_b6, .inl (cI, 2, .inl x.2.1.2.2.2.2.2.2.1)), (q_b7, .inl (cI, 128, .inl x.2.1.2.2.2.2.2.2.2.1)), (q_b8, .inl (cI, 128, .inl x.2.1.2.2.2.2.2.2.2.2.1)), (q_b9, .inl (cI, 128, .inl x.2.1.2.2.2.2.2.2.2.2.2)), (q_b12, .inl (cI, 9, .inl x.2.2))]) t.heap ∧ va_K (dC, dI) vwCl [(cI, .int), (cZ, .boolean), (cM, .object RX1)] t ∧ va_D (A) ([(q_h, .inr (4, [.ref q_b0, .ref q_b1, .ref q_b2, .ref q_b3, .ref q_b4, .ref q_b5, .ref q_b6, .ref q_b7, .ref q_b8, .ref q_b9, .ref q_b10, .int x.1.1, .ref q_b12])), (q_b10, .inl (cI, 144, .inl x.1.2)), (q_b0, .inl (cI, 2, .inl x.2.1.1)), (q_b1, .inl (cI, 2, .inl x.2.1.2.1)), (q_b2, .inl (cZ, 2, .inl x.2.1.2.2.1)), (q_b3, .inl (cZ, 2, .inl x.2.1.2.2.2.1)), (q_b4, .inl (cI, 2, .inl x.2.1.2.2.2.2.1)), (q_b5, .inl (cI, 2, .inl x.2.1.2.2.2.2.2.1)), (q_b6, .inl (cI, 2, .inl x.2.1.2.2.2.2.2.2.1)), (q_b7, .inl (cI, 128, .inl x.2.1.2.2.2.2.2.2.2.1)), (q_b8, .inl (cI, 128, .inl x.2.1.2.2.2.2.2.2.2.2.1)), (q_b9, .inl (cI, 128, .inl x.2.1.2.2.2.2.2.2.2.2.2)), (q_b12, .inl (cI, 9, .inl x.2.2))])) A) [.ref q_h, .int p1, .int p2].toArray s 0 0 A) (F0 m 24 ls []) := by
          intro n
          induction n with
          | zero => intro k ls h; exact absurd h (Nat.not_lt_zero _)
          | succ n ih =>
            intro k ls hn hkK hl
            refine lv_iload hx hb dX4_get_24 (lv_at hl 0 rfl) ?_
            refine lv_aload_n hx hb dX4_get_26 rfl (lv_at hl 2 rfl) ?_
            refine va_get (D := (dC, dI)) (ci := 4) (v := (.ref q_b1)) (C := RX4) (T := TX4) (N := 13) hx hb hts (fun _ h => List.mem_cons_of_mem _ (List.mem_append_right _ h)) hown hK hP 0 rfl rfl 1 (by decide) (hts (.fieldLink RX4 13 "TwinLogModel" "lengths" "[I") (by decide +kernel)) (fun _ h9 => h9) rfl dX4_get_27 ?_
            refine lv_iload_n hx hb dX4_get_30 rfl (lv_at hl 3 rfl) ?_
            refine va_iald (D := (dC, dI)) hx hb hK hP 3 0 rfl rfl HN dX4_get_31 ?_
            refine lv_icmp_ge (tgt := 74) hx hb dX4_get_32 (by decide) (fun c5 => ?_) (fun c5 => ?_)
            · -- taken
              refine lv_iload_n hx hb dX4_get_74 rfl (lv_at hl 1 rfl) ?_
              have hP9 := hP
              have hD9 := hD
              have e9 : f_m_get x p1 p2 = (gl (at_n x.2.1.2.2.2.2.2.2.2.2.1 p1) (at_n x.2.1.2.2.2.2.2.2.2.2.2 p1) p2 k) := by have hkK2 : k = K := (by have h := c5; rw [eK, nI_leI (by omega) (by omega)] at h; omega); simp only [f_m_get, ← hw1, if_neg c2, if_neg c3, if_pos c4]; rw [eK, nI_clamp (by omega), hkK2]
              exact W.iret (v := (gl (at_n x.2.1.2.2.2.2.2.2.2.2.1 p1) (at_n x.2.1.2.2.2.2.2.2.2.2.2 p1) p2 k)) hx hb hr (fun t ht hW => ⟨⟨(gl (at_n x.2.1.2.2.2.2.2.2.2.2.1 p1) (at_n x.2.1.2.2.2.2.2.2.2.2.2 p1) p2 k), (), rfl, e9.symm, by rw [ht]; exact hP9, va_K.moved hW.alike hK, hD9⟩, hS.F ht⟩) hS.2.2 dX4_get_75
            · -- not taken
              refine lv_aload_n hx hb dX4_get_35 rfl (lv_at hl 2 rfl) ?_
              refine va_get (D := (dC, dI)) (ci := 4) (v := (.ref q_b8)) (C := RX4) (T := TX4) (N := 13) hx hb hts (fun _ h => List.mem_cons_of_mem _ (List.mem_append_right _ h)) hown hK hP 0 rfl rfl 8 (by decide) (hts (.fieldLink RX4 35 "TwinLogModel" "entryKeys" "[I") (by decide +kernel)) (fun _ h9 => h9) rfl dX4_get_36 ?_
              refine lv_bipush (v := 64) hx hb dX4_get_39 (by decide) ?_
              refine lv_iload_n hx hb dX4_get_41 rfl (lv_at hl 3 rfl) ?_
              refine lv_imul hx hb dX4_get_42 ?_
              refine lv_iload hx hb dX4_get_43 (lv_at hl 0 rfl) ?_
              refine lv_iadd hx hb dX4_get_45 ?_
              refine va_iald (D := (dC, dI)) hx hb hK hP 10 0 rfl rfl (vp_ent HN ⟨k, (by have h := c5; rw [eK, nI_leI (by omega) (by omega)] at h; omega), rfl⟩ rfl) dX4_get_46 ?_
              refine lv_iload_n hx hb dX4_get_47 rfl (lv_at hl 4 rfl) ?_
              refine lv_icmp_ne (tgt := 66) hx hb dX4_get_48 (by decide) (fun c6 => ?_) (fun c6 => ?_)
              · -- taken
                refine lv_iload_n hx hb dX4_get_66 rfl (lv_at hl 1 rfl) ?_
                refine lv_istore_n (lv' := [(3, .int (gl (at_n x.2.1.2.2.2.2.2.2.2.2.1 p1) (at_n x.2.1.2.2.2.2.2.2.2.2.2 p1) p2 k)), (4, .int (nI k)), (0, .ref q_h), (1, .int p1), (2, .int p2)]) hx hb dX4_get_67 rfl hl (by decide) rfl (fun ls hl => ?_)
                obtain ⟨x7, ex7⟩ : ∃ y : Int32, y = (nI k) + 1 := ⟨_, rfl⟩
                refine lv_iinc (v := x7) (lv' := [(4, .int x7), (3, .int (gl (at_n x.2.1.2.2.2.2.2.2.2.2.1 p1) (at_n x.2.1.2.2.2.2.2.2.2.2.2 p1) p2 k)), (0, .ref q_h), (1, .int p1), (2, .int p2)]) hx hb dX4_get_68 hl (k := 1) rfl (by rw [ex7]; rfl) (by decide) rfl (fun ls hl => ?_)
                refine lv_goto (tgt := 24) hx hb dX4_get_71 (by decide) ?_
                rw [nI_1] at ex7
                rw [ex7] at hl
                have hkd1 : k < K := by have h := c5; rw [eK, nI_leI (by omega) (by omega)] at h; omega
                have hg : (gl (at_n x.2.1.2.2.2.2.2.2.2.2.1 p1) (at_n x.2.1.2.2.2.2.2.2.2.2.2 p1) p2 k) = gl (at_n x.2.1.2.2.2.2.2.2.2.2.1 p1) (at_n x.2.1.2.2.2.2.2.2.2.2.2 p1) p2 (k + 1) := by have h := c6; rw [ent_ix HN (by omega)] at h; show _ = (if at_n x.2.1.2.2.2.2.2.2.2.2.1 p1 k = p2 then _ else _); rw [if_neg h]
                rw [hg] at hl
                have hl := lv_sub hl [0, 1, 2, 3, 4] rfl
                exact ih (k + 1) _ (by omega) (by omega) hl
              · -- not taken
                refine lv_aload_n hx hb dX4_get_51 rfl (lv_at hl 2 rfl) ?_
                refine va_get (D := (dC, dI)) (ci := 4) (v := (.ref q_b9)) (C := RX4) (T := TX4) (N := 13) hx hb hts (fun _ h => List.mem_cons_of_mem _ (List.mem_append_right _ h)) hown hK hP 0 rfl rfl 9 (by decide) (hts (.fieldLink RX4 38 "TwinLogModel" "entryValues" "[I") (by decide +kernel)) (fun _ h9 => h9) rfl dX4_get_52 ?_
                refine lv_bipush (v := 64) hx hb dX4_get_55 (by decide) ?_
                refine lv_iload_n hx hb dX4_get_57 rfl (lv_at hl 3 rfl) ?_
                refine lv_imul hx hb dX4_get_58 ?_
                refine lv_iload hx hb dX4_get_59 (lv_at hl 0 rfl) ?_
                refine lv_iadd hx hb dX4_get_61 ?_
                refine va_iald (D := (dC, dI)) hx hb hK hP 11 0 rfl rfl (vp_ent HN ⟨k, (by have h := c5; rw [eK, nI_leI (by omega) (by omega)] at h; omega), rfl⟩ rfl) dX4_get_62 ?_
                refine lv_goto (tgt := 67) hx hb dX4_get_63 (by decide) ?_
                refine lv_istore_n (lv' := [(3, .int (x.2.1.2.2.2.2.2.2.2.2.2 ((64 * p1) + (nI k)).toNatClampNeg)), (4, .int (nI k)), (0, .ref q_h), (1, .int p1), (2, .int p2)]) hx hb dX4_get_67 rfl hl (by decide) rfl (fun ls hl => ?_)
                obtain ⟨x8, ex8⟩ : ∃ y : Int32, y = (nI k) + 1 := ⟨_, rfl⟩
                refine lv_iinc (v := x8) (lv' := [(4, .int x8), (3, .int (x.2.1.2.2.2.2.2.2.2.2.2 ((64 * p1) + (nI k)).toNatClampNeg)), (0, .ref q_h), (1, .int p1), (2, .int p2)]) hx hb dX4_get_68 hl (k := 1) rfl (by rw [ex8]; rfl) (by decide) rfl (fun ls hl => ?_)
                refine lv_goto (tgt := 24) hx hb dX4_get_71 (by decide) ?_
                rw [nI_1] at ex8
                rw [ex8] at hl
                have hkd1 : k < K := by have h := c5; rw [eK, nI_leI (by omega) (by omega)] at h; omega
                have hg : (x.2.1.2.2.2.2.2.2.2.2.2 ((64 * p1) + (nI k)).toNatClampNeg) = gl (at_n x.2.1.2.2.2.2.2.2.2.2.1 p1) (at_n x.2.1.2.2.2.2.2.2.2.2.2 p1) p2 (k + 1) := by have h := c6; rw [ent_ix HN (by omega)] at h; show _ = (if at_n x.2.1.2.2.2.2.2.2.2.2.1 p1 k = p2 then _ else _); rw [if_pos h, ent_ix HN (by omega)]
                rw [hg] at hl
                have hl := lv_sub hl [0, 1, 2, 3, 4] rfl
                exact ih (k + 1) _ (by omega) (by omega) hl
        exact key (K + 1) 0 _ (by omega) (Nat.zero_le _) hl
      · -- not taken
        refine lv_iconst (v := (-1)) hx hb dX4_get_17 (by decide) ?_
        have hP9 := hP
        have hD9 := hD
        have e9 : f_m_get x p1 p2 = (-1) := by simp only [f_m_get, ← hw1, if_neg c2, if_neg c3, if_neg c4]
        exact W.iret (v := (-1)) hx hb hr (fun t ht hW => ⟨⟨(-1), (), rfl, e9.symm, by rw [ht]; exact hP9, va_K.moved hW.alike hK, hD9⟩, hS.F ht⟩) hS.2.2 dX4_get_18
