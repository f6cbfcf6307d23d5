def f_n_goDown (x : Nd) : Nd :=
  (x.1, x.2.1, 0, 0, x.2.2.2.2.1, (-1), x.2.2.2.2.2.2.1, x.2.2.2.2.2.2.2.1, x.2.2.2.2.2.2.2.2.1, x.2.2.2.2.2.2.2.2.2)
set_option maxHeartbeats 4000000 in
set_option maxRecDepth 100000 in
theorem c_n_goDown (l : Launch) (dC : Nat → ClassId) (dI : Nat → Nat → Nat) (cI cZ cM : ClassId) (n_n : Int32) (n_h : Nat) (n_a1 : Nat) (n_a2 : Nat) (n_a3 : Nat) (sz : Nat) (x : Nd)    : Met l yX2_goDown wsX2_goDown ({ frames := 0, cells := 0, slots := 0, locals := 0 }) (va_Pc [.ref n_h] (fun U => U.heap.size = sz ∧ va_P (dC, dI) vwCl ([(n_h, .inr (2, [.int n_n, .ref n_a1, .ref n_a2, .ref n_a3, .int x.1, .int x.2.1, .int x.2.2.1, .int x.2.2.2.1, .int x.2.2.2.2.1, .int x.2.2.2.2.2.1, .int x.2.2.2.2.2.2.1])), (n_a1, .inl (cI, 64, .inl x.2.2.2.2.2.2.2.1)), (n_a2, .inl (cI, 64, .inl x.2.2.2.2.2.2.2.2.1)), (n_a3, .inl (cI, 64, .inl x.2.2.2.2.2.2.2.2.2))]) U.heap ∧ va_K (dC, dI) vwCl [(cI, .int), (cZ, .boolean), (cM, .object RX1)] U ∧ va_D (fun _ => True) ([(n_h, .inr (2, [.int n_n, .ref n_a1, .ref n_a2, .ref n_a3, .int x.1, .int x.2.1, .int x.2.2.1, .int x.2.2.2.1, .int x.2.2.2.2.1, .int x.2.2.2.2.2.1, .int x.2.2.2.2.2.2.1])), (n_a1, .inl (cI, 64, .inl x.2.2.2.2.2.2.2.1)), (n_a2, .inl (cI, 64, .inl x.2.2.2.2.2.2.2.2.1)), (n_a3, .inl (cI, 64, .inl x.2.2.2.2.2.2.2.2.2))]))) (va_Qv (fun (u : Nd) => u = f_n_goDown x) (fun u t => va_P (dC, dI) vwCl ([(n_h, .inr (2, [.int n_n, .ref n_a1, .ref n_a2, .ref n_a3, .int u.1, .int u.2.1, .int u.2.2.1, .int u.2.2.2.1, .int u.2.2.2.2.1, .int u.2.2.2.2.2.1, .int u.2.2.2.2.2.2.1])), (n_a1, .inl (cI, 64, .inl u.2.2.2.2.2.2.2.1)), (n_a2, .inl (cI, 64, .inl u.2.2.2.2.2.2.2.2.1)), (n_a3, .inl (cI, 64, .inl u.2.2.2.2.2.2.2.2.2))]) t.heap ∧ va_K (dC, dI) vwCl [(cI, .int), (cZ, .boolean), (cM, .object RX1)] t ∧ va_D (va_A ([(n_h, .inr (2, [.int n_n, .ref n_a1, .ref n_a2, .ref n_a3, .int x.1, .int x.2.1, .int x.2.2.1, .int x.2.2.2.1, .int x.2.2.2.2.1, .int x.2.2.2.2.2.1, .int x.2.2.2.2.2.2.1])), (n_a1, .inl (cI, 64, .inl x.2.2.2.2.2.2.2.1)), (n_a2, .inl (cI, 64, .inl x.2.2.2.2.2.2.2.2.1)), (n_a3, .inl (cI, 64, .inl x.2.2.2.2.2.2.2.2.2))]) sz) ([(n_h, .inr (2, [.int n_n, .ref n_a1, .ref n_a2, .ref n_a3, .int u.1, .int u.2.1, .int u.2.2.1, .int u.2.2.2.1, .int u.2.2.2.2.1, .int u.2.2.2.2.2.1, .int u.2.2.2.2.2.2.1])), (n_a1, .inl (cI, 64, .inl u.2.2.2.2.2.2.2.1)), (n_a2, .inl (cI, 64, .inl u.2.2.2.2.2.2.2.2.1)), (n_a3, .inl (cI, 64, .inl u.2.2.2.2.2.2.2.2.2))])) (va_A ([(n_h, .inr (2, [.int n_n, .ref n_a1, .ref n_a2, .ref n_a3, .int x.1, .int x.2.1, .int x.2.2.1, .int x.2.2.2.1, .int x.2.2.2.2.1, .int x.2.2.2.2.2.1, .int x.2.2.2.2.2.2.1])), (n_a1, .inl (cI, 64, .inl x.2.2.2.2.2.2.2.1)), (n_a2, .inl (cI, 64, .inl x.2.2.2.2.2.2.2.2.1)), (n_a3, .inl (cI, 64, .inl x.2.2.2.2.2.2.2.2.2))]) sz)) 0 0 (va_A ([(n_h, .inr (2, [.int n_n, .ref n_a1, .ref n_a2, .ref n_a3, .int x.1, .int x.2.1, .int x.2.2.1, .int x.2.2.2.1, .int x.2.2.2.2.1, .int x.2.2.2.2.2.1, .int x.2.2.2.2.2.2.1])), (n_a1, .inl (cI, 64, .inl x.2.2.2.2.2.2.2.1)), (n_a2, .inl (cI, 64, .inl x.2.2.2.2.2.2.2.2.1)), (n_a3, .inl (cI, 64, .inl x.2.2.2.2.2.2.2.2.2))]) sz) := by
  refine Met.ofW (cc := cX2_goDown) (maxL := 1) (ret := none) (by decide) rfl ?_
  intro p e s m args below meth c s₁ B hml hv
  obtain ⟨rfl, hsz, hP, hK, hD0⟩ := hv
  have hx := B.exec
  have hb := B.bytes
  have hr := B.returns
  have hts := atoms_spec (ws := wsX2_goDown) B.pre
  have hown : s.vm.findClass RX2 = some m.cls := findClass_of_methodNamed B.named
  have hlocks := B.notSynchronized
  subst hsz
  have hD := hD0.self (sz := s.heap.size)
  generalize hAe : va_A ([(n_h, .inr (2, [.int n_n, .ref n_a1, .ref n_a2, .ref n_a3, .int x.1, .int x.2.1, .int x.2.2.1, .int x.2.2.2.1, .int x.2.2.2.2.1, .int x.2.2.2.2.2.1, .int x.2.2.2.2.2.2.1])), (n_a1, .inl (cI, 64, .inl x.2.2.2.2.2.2.2.1)), (n_a2, .inl (cI, 64, .inl x.2.2.2.2.2.2.2.2.1)), (n_a3, .inl (cI, 64, .inl x.2.2.2.2.2.2.2.2.2))]) s.heap.size = A at hD ⊢
  have hA : ∀ q : Nat, s.heap.size ≤ q → A q := fun q h => by rw [← hAe]; exact Or.inr h
  have hS : va_S A s.heap s.heap [] := va_S.rf
  have hP : va_P (dC, dI) vwCl ([(n_h, .inr (2, [.int n_n, .ref n_a1, .ref n_a2, .ref n_a3, .int x.1, .int x.2.1, .int x.2.2.1, .int x.2.2.2.1, .int x.2.2.2.2.1, .int x.2.2.2.2.2.1, .int x.2.2.2.2.2.2.1])), (n_a1, .inl (cI, 64, .inl x.2.2.2.2.2.2.2.1)), (n_a2, .inl (cI, 64, .inl x.2.2.2.2.2.2.2.2.1)), (n_a3, .inl (cI, 64, .inl x.2.2.2.2.2.2.2.2.2))]) s.heap := hP
  have hD : va_D A ([(n_h, .inr (2, [.int n_n, .ref n_a1, .ref n_a2, .ref n_a3, .int x.1, .int x.2.1, .int x.2.2.1, .int x.2.2.2.1, .int x.2.2.2.2.1, .int x.2.2.2.2.2.1, .int x.2.2.2.2.2.2.1])), (n_a1, .inl (cI, 64, .inl x.2.2.2.2.2.2.2.1)), (n_a2, .inl (cI, 64, .inl x.2.2.2.2.2.2.2.2.1)), (n_a3, .inl (cI, 64, .inl x.2.2.2.2.2.2.2.2.2))]) := hD
  have hl := lv_entry ([.ref n_h]) (n := 1) (Nat.le_of_ble_eq_true rfl)
  rw [lg_entry_eq]
  generalize (lg_sl ([.ref n_h]) ++ List.replicate (1 - (lg_sl ([.ref n_h])).length) Slot.unset).toArray = ls at hl ⊢
  have hl : lv_has ls 1 [(0, .ref n_h)] := hl
  refine lv_aload_n hx hb dX2_goDown_0 rfl (lv_at hl 0 rfl) ?_
  refine lv_iconst (v := 0) hx hb dX2_goDown_1 (by decide) ?_
  refine va_put (D := (dC, dI)) (ci := 2) (v := .int 0) (ty := .boolean) (C := RX2) (T := TX2) (N := 11) hx hb hts (fun _ h => List.mem_cons_of_mem _ (List.mem_append_right _ h)) tyX2 tyX2_ok nmX2 hown hK hP hD hS 0 rfl rfl 6 (by decide) (hts (.fieldLink RX2 32 "TwinLog$Node" "up" "Z") (by decide +kernel)) (fun _ h9 => h9) rfl (by decide +kernel) rfl rfl (Nat.le_of_ble_eq_true rfl) dX2_goDown_2 (fun H locs hP hD hS => ?_)
  have hP : va_P (dC, dI) vwCl ([(n_h, .inr (2, [.int n_n, .ref n_a1, .ref n_a2, .ref n_a3, .int x.1, .int x.2.1, .int 0, .int x.2.2.2.1, .int x.2.2.2.2.1, .int x.2.2.2.2.2.1, .int x.2.2.2.2.2.2.1])), (n_a1, .inl (cI, 64, .inl x.2.2.2.2.2.2.2.1)), (n_a2, .inl (cI, 64, .inl x.2.2.2.2.2.2.2.2.1)), (n_a3, .inl (cI, 64, .inl x.2.2.2.2.2.2.2.2.2))]) H := hP
  have hD : va_D A ([(n_h, .inr (2, [.int n_n, .ref n_a1, .ref n_a2, .ref n_a3, .int x.1, .int x.2.1, .int 0, .int x.2.2.2.1, .int x.2.2.2.2.1, .int x.2.2.2.2.2.1, .int x.2.2.2.2.2.2.1])), (n_a1, .inl (cI, 64, .inl x.2.2.2.2.2.2.2.1)), (n_a2, .inl (cI, 64, .inl x.2.2.2.2.2.2.2.2.1)), (n_a3, .inl (cI, 64, .inl x.2.2.2.2.2.2.2.2.2))]) := hD
  refine lv_aload_n hx hb dX2_goDown_5 rfl (lv_at hl 0 rfl) ?_
  refine lv_iconst (v := 0) hx hb dX2_goDown_6 (by decide) ?_
  refine va_put (D := (dC, dI)) (ci := 2) (v := .int 0) (ty := .boolean) (C := RX2) (T := TX2) (N := 11) hx hb hts (fun _ h => List.mem_cons_of_mem _ (List.mem_append_right _ h)) tyX2 tyX2_ok nmX2 hown hK hP hD hS 0 rfl rfl 7 (by decide) (hts (.fieldLink RX2 18 "TwinLog$Node" "primary" "Z") (by decide +kernel)) (fun _ h9 => h9) rfl (by decide +kernel) rfl rfl (Nat.le_of_ble_eq_true rfl) dX2_goDown_7 (fun H locs hP hD hS => ?_)
  have hP : va_P (dC, dI) vwCl ([(n_h, .inr (2, [.int n_n, .ref n_a1, .ref n_a2, .ref n_a3, .int x.1, .int x.2.1, .int 0, .int 0, .int x.2.2.2.2.1, .int x.2.2.2.2.2.1, .int x.2.2.2.2.2.2.1])), (n_a1, .inl (cI, 64, .inl x.2.2.2.2.2.2.2.1)), (n_a2, .inl (cI, 64, .inl x.2.2.2.2.2.2.2.2.1)), (n_a3, .inl (cI, 64, .inl x.2.2.2.2.2.2.2.2.2))]) H := hP
  have hD : va_D A ([(n_h, .inr (2, [.int n_n, .ref n_a1, .ref n_a2, .ref n_a3, .int x.1, .int x.2.1, .int 0, .int 0, .int x.2.2.2.2.1, .int x.2.2.2.2.2.1, .int x.2.2.2.2.2.2.1])), (n_a1, .inl (cI, 64, .inl x.2.2.2.2.2.2.2.1)), (n_a2, .inl (cI, 64, .inl x.2.2.2.2.2.2.2.2.1)), (n_a3, .inl (cI, 64, .inl x.2.2.2.2.2.2.2.2.2))]) := hD
  refine lv_aload_n hx hb dX2_goDown_10 rfl (lv_at hl 0 rfl) ?_
  refine lv_iconst (v := (-1)) hx hb dX2_goDown_11 (by decide) ?_
  refine va_put (D := (dC, dI)) (ci := 2) (v := .int (-1)) (ty := .int) (C := RX2) (T := TX2) (N := 11) hx hb hts (fun _ h => List.mem_cons_of_mem _ (List.mem_append_right _ h)) tyX2 tyX2_ok nmX2 hown hK hP hD hS 0 rfl rfl 9 (by decide) (hts (.fieldLink RX2 38 "TwinLog$Node" "fuseLeft" "I") (by decide +kernel)) (fun _ h9 => h9) rfl (by decide +kernel) rfl rfl (Nat.le_of_ble_eq_true rfl) dX2_goDown_12 (fun H locs hP hD hS => ?_)
  have hP : va_P (dC, dI) vwCl ([(n_h, .inr (2, [.int n_n, .ref n_a1, .ref n_a2, .ref n_a3, .int x.1, .int x.2.1, .int 0, .int 0, .int x.2.2.2.2.1, .int (-1), .int x.2.2.2.2.2.2.1])), (n_a1, .inl (cI, 64, .inl x.2.2.2.2.2.2.2.1)), (n_a2, .inl (cI, 64, .inl x.2.2.2.2.2.2.2.2.1)), (n_a3, .inl (cI, 64, .inl x.2.2.2.2.2.2.2.2.2))]) H := hP
  have hD : va_D A ([(n_h, .inr (2, [.int n_n, .ref n_a1, .ref n_a2, .ref n_a3, .int x.1, .int x.2.1, .int 0, .int 0, .int x.2.2.2.2.1, .int (-1), .int x.2.2.2.2.2.2.1])), (n_a1, .inl (cI, 64, .inl x.2.2.2.2.2.2.2.1)), (n_a2, .inl (cI, 64, .inl x.2.2.2.2.2.2.2.2.1)), (n_a3, .inl (cI, 64, .inl x.2.2.2.2.2.2.2.2.2))]) := hD
  have hP9 := hP
  have hD9 := hD
  have e9 : f_n_goDown x = (x.1, x.2.1, 0, 0, x.2.2.2.2.1, (-1), x.2.2.2.2.2.2.1, x.2.2.2.2.2.2.2.1, x.2.2.2.2.2.2.2.2.1, x.2.2.2.2.2.2.2.2.2) := by simp only [f_n_goDown]
  exact W.vret hx hb hr (fun t ht hW => ⟨⟨(x.1, x.2.1, 0, 0, x.2.2.2.2.1, (-1), x.2.2.2.2.2.2.1, x.2.2.2.2.2.2.2.1, x.2.2.2.2.2.2.2.2.1, x.2.2.2.2.2.2.2.2.2), rfl, e9.symm, by rw [ht]; exact hP9, va_K.moved hW.alike hK, hD9⟩, hS.F ht⟩) hS.2.2 dX2_goDown_15
def f_n_comeUp (x : Nd) : Nd :=
  (x.1, x.2.1, 1, x.2.2.2.1, x.2.2.2.2.1, (-1), x.2.2.2.2.2.2.1, x.2.2.2.2.2.2.2.1, x.2.2.2.2.2.2.2.2.1, x.2.2.2.2.2.2.2.2.2)
set_option maxHeartbeats 4000000 in
set_option maxRecDepth 100000 in
theorem c_n_comeUp (l : Launch) (dC : Nat → ClassId) (dI : Nat → Nat → Nat) (cI cZ cM : ClassId) (n_n : Int32) (n_h : Nat) (n_a1 : Nat) (n_a2 : Nat) (n_a3 : Nat) (sz : Nat) (x : Nd)    : Met l yX2_comeUp wsX2_comeUp ({ frames := 0, cells := 0, slots := 0, locals := 0 }) (va_Pc [.ref n_h] (fun U => U.heap.size = sz ∧ va_P (dC, dI) vwCl ([(n_h, .inr (2, [.int n_n, .ref n_a1, .ref n_a2, .ref n_a3, .int x.1, .int x.2.1, .int x.2.2.1, .int x.2.2.2.1, .int x.2.2.2.2.1, .int x.2.2.2.2.2.1, .int x.2.2.2.2.2.2.1])), (n_a1, .inl (cI, 64, .inl x.2.2.2.2.2.2.2.1)), (n_a2, .inl (cI, 64, .inl x.2.2.2.2.2.2.2.2.1)), (n_a3, .inl (cI, 64, .inl x.2.2.2.2.2.2.2.2.2))]) U.heap ∧ va_K (dC, dI) vwCl [(cI, .int), (cZ, .boolean), (cM, .object RX1)] U ∧ va_D (fun _ => True) ([(n_h, .inr (2, [.int n_n, .ref n_a1, .ref n_a2, .ref n_a3, .int x.1, .int x.2.1, .int x.2.2.1, .int x.2.2.2.1, .int x.2.2.2.2.1, .int x.2.2.2.2.2.1, .int x.2.2.2.2.2.2.1])), (n_a1, .inl (cI, 64, .inl x.2.2.2.2.2.2.2.1)), (n_a2, .inl (cI, 64, .inl x.2.2.2.2.2.2.2.2.1)), (n_a3, .inl (cI, 64, .inl x.2.2.2.2.2.2.2.2.2))]))) (va_Qv (fun (u : Nd) => u = f_n_comeUp x) (fun u t => va_P (dC, dI) vwCl ([(n_h, .inr (2, [.int n_n, .ref n_a1, .ref n_a2, .ref n_a3, .int u.1, .int u.2.1, .int u.2.2.1, .int u.2.2.2.1, .int u.2.2.2.2.1, .int u.2.2.2.2.2.1, .int u.2.2.2.2.2.2.1])), (n_a1, .inl (cI, 64, .inl u.2.2.2.2.2.2.2.1)), (n_a2, .inl (cI, 64, .inl u.2.2.2.2.2.2.2.2.1)), (n_a3, .inl (cI, 64, .inl u.2.2.2.2.2.2.2.2.2))]) t.heap ∧ va_K (dC, dI) vwCl [(cI, .int), (cZ, .boolean), (cM, .object RX1)] t ∧ va_D (va_A ([(n_h, .inr (2, [.int n_n, .ref n_a1, .ref n_a2, .ref n_a3, .int x.1, .int x.2.1, .int x.2.2.1, .int x.2.2.2.1, .int x.2.2.2.2.1, .int x.2.2.2.2.2.1, .int x.2.2.2.2.2.2.1])), (n_a1, .inl (cI, 64, .inl x.2.2.2.2.2.2.2.1)), (n_a2, .inl (cI, 64, .inl x.2.2.2.2.2.2.2.2.1)), (n_a3, .inl (cI, 64, .inl x.2.2.2.2.2.2.2.2.2))]) sz) ([(n_h, .inr (2, [.int n_n, .ref n_a1, .ref n_a2, .ref n_a3, .int u.1, .int u.2.1, .int u.2.2.1, .int u.2.2.2.1, .int u.2.2.2.2.1, .int u.2.2.2.2.2.1, .int u.2.2.2.2.2.2.1])), (n_a1, .inl (cI, 64, .inl u.2.2.2.2.2.2.2.1)), (n_a2, .inl (cI, 64, .inl u.2.2.2.2.2.2.2.2.1)), (n_a3, .inl (cI, 64, .inl u.2.2.2.2.2.2.2.2.2))])) (va_A ([(n_h, .inr (2, [.int n_n, .ref n_a1, .ref n_a2, .ref n_a3, .int x.1, .int x.2.1, .int x.2.2.1, .int x.2.2.2.1, .int x.2.2.2.2.1, .int x.2.2.2.2.2.1, .int x.2.2.2.2.2.2.1])), (n_a1, .inl (cI, 64, .inl x.2.2.2.2.2.2.2.1)), (n_a2, .inl (cI, 64, .inl x.2.2.2.2.2.2.2.2.1)), (n_a3, .inl (cI, 64, .inl x.2.2.2.2.2.2.2.2.2))]) sz)) 0 0 (va_A ([(n_h, .inr (2, [.int n_n, .ref n_a1, .ref n_a2, .ref n_a3, .int x.1, .int x.2.1, .int x.2.2.1, .int x.2.2.2.1, .int x.2.2.2.2.1, .int x.2.2.2.2.2.1, .int x.2.2.2.2.2.2.1])), (n_a1, .inl (cI, 64, .inl x.2.2.2.2.2.2.2.1)), (n_a2, .inl (cI, 64, .inl x.2.2.2.2.2.2.2.2.1)), (n_a3, .inl (cI, 64, .inl x.2.2.2.2.2.2.2.2.2))]) sz) := by
  refine Met.ofW (cc := cX2_comeUp) (maxL := 1) (ret := none) (by decide) rfl ?_
  intro p e s m args below meth c s₁ B hml hv
  obtain ⟨rfl, hsz, hP, hK, hD0⟩ := hv
  have hx := B.exec
  have hb := B.bytes
  have hr := B.returns
  have hts := atoms_spec (ws := wsX2_comeUp) B.pre
  have hown : s.vm.findClass RX2 = some m.cls := findClass_of_methodNamed B.named
  have hlocks := B.notSynchronized
  subst hsz
  have hD := hD0.self (sz := s.heap.size)
  generalize hAe : va_A ([(n_h, .inr (2, [.int n_n, .ref n_a1, .ref n_a2, .ref n_a3, .int x.1, .int x.2.1, .int x.2.2.1, .int x.2.2.2.1, .int x.2.2.2.2.1, .int x.2.2.2.2.2.1, .int x.2.2.2.2.2.2.1])), (n_a1, .inl (cI, 64, .inl x.2.2.2.2.2.2.2.1)), (n_a2, .inl (cI, 64, .inl x.2.2.2.2.2.2.2.2.1)), (n_a3, .inl (cI, 64, .inl x.2.2.2.2.2.2.2.2.2))]) s.heap.size = A at hD ⊢
  have hA : ∀ q : Nat, s.heap.size ≤ q → A q := fun q h => by rw [← hAe]; exact Or.inr h
  have hS : va_S A s.heap s.heap [] := va_S.rf
  have hP : va_P (dC, dI) vwCl ([(n_h, .inr (2, [.int n_n, .ref n_a1, .ref n_a2, .ref n_a3, .int x.1, .int x.2.1, .int x.2.2.1, .int x.2.2.2.1, .int x.2.2.2.2.1, .int x.2.2.2.2.2.1, .int x.2.2.2.2.2.2.1])), (n_a1, .inl (cI, 64, .inl x.2.2.2.2.2.2.2.1)), (n_a2, .inl (cI, 64, .inl x.2.2.2.2.2.2.2.2.1)), (n_a3, .inl (cI, 64, .inl x.2.2.2.2.2.2.2.2.2))]) s.heap := hP
  have hD : va_D A ([(n_h, .inr (2, [.int n_n, .ref n_a1, .ref n_a2, .ref n_a3, .int x.1, .int x.2.1, .int x.2.2.1, .int x.2.2.2.1, .int x.2.2.2.2.1, .int x.2.2.2.2.2.1, .int x.2.2.2.2.2.2.1])), (n_a1, .inl (cI, 64, .inl x.2.2.2.2.2.2.2.1)), (n_a2, .inl (cI, 64, .inl x.2.2.2.2.2.2.2.2.1)), (n_a3, .inl (cI, 64, .inl x.2.2.2.2.2.2.2.2.2))]) := hD
  have hl := lv_entry ([.ref n_h]) (n := 1) (Nat.le_of_ble_eq_true rfl)
  rw [lg_entry_eq]
  generalize (lg_sl ([.ref n_h]) ++ List.replicate (1 - (lg_sl ([.ref n_h])).length) Slot.unset).toArray = ls at hl ⊢
  have hl : lv_has ls 1 [(0, .ref n_h)] := hl
  refine lv_aload_n hx hb dX2_comeUp_0 rfl (lv_at hl 0 rfl) ?_
  refine lv_iconst (v := 1) hx hb dX2_comeUp_1 (by decide) ?_
  refine va_put (D := (dC, dI)) (ci := 2) (v := .int 1) (ty := .boolean) (C := RX2) (T := TX2) (N := 11) hx hb hts (fun _ h => List.mem_cons_of_mem _ (List.mem_append_right _ h)) tyX2 tyX2_ok nmX2 hown hK hP hD hS 0 rfl rfl 6 (by decide) (hts (.fieldLink RX2 32 "TwinLog$Node" "up" "Z") (by decide +kernel)) (fun _ h9 => h9) rfl (by decide +kernel) rfl rfl (Nat.le_of_ble_eq_true rfl) dX2_comeUp_2 (fun H locs hP hD hS => ?_)
  have hP : va_P (dC, dI) vwCl ([(n_h, .inr (2, [.int n_n, .ref n_a1, .ref n_a2, .ref n_a3, .int x.1, .int x.2.1, .int 1, .int x.2.2.2.1, .int x.2.2.2.2.1, .int x.2.2.2.2.2.1, .int x.2.2.2.2.2.2.1])), (n_a1, .inl (cI, 64, .inl x.2.2.2.2.2.2.2.1)), (n_a2, .inl (cI, 64, .inl x.2.2.2.2.2.2.2.2.1)), (n_a3, .inl (cI, 64, .inl x.2.2.2.2.2.2.2.2.2))]) H := hP
  have hD : va_D A ([(n_h, .inr (2, [.int n_n, .ref n_a1, .ref n_a2, .ref n_a3, .int x.1, .int x.2.1, .int 1, .int x.2.2.2.1, .int x.2.2.2.2.1, .int x.2.2.2.2.2.1, .int x.2.2.2.2.2.2.1])), (n_a1, .inl (cI, 64, .inl x.2.2.2.2.2.2.2.1)), (n_a2, .inl (cI, 64, .inl x.2.2.2.2.2.2.2.2.1)), (n_a3, .inl (cI, 64, .inl x.2.2.2.2.2.2.2.2.2))]) := hD
  refine lv_aload_n hx hb dX2_comeUp_5 rfl (lv_at hl 0 rfl) ?_
  refine lv_iconst (v := (-1)) hx hb dX2_comeUp_6 (by decide) ?_
  refine va_put (D := (dC, dI)) (ci := 2) (v := .int (-1)) (ty := .int) (C := RX2) (T := TX2) (N := 11) hx hb hts (fun _ h => List.mem_cons_of_mem _ (List.mem_append_right _ h)) tyX2 tyX2_ok nmX2 hown hK hP hD hS 0 rfl rfl 9 (by decide) (hts (.fieldLink RX2 38 "TwinLog$Node" "fuseLeft" "I") (by decide +kernel)) (fun _ h9 => h9) rfl (by decide +kernel) rfl rfl (Nat.le_of_ble_eq_true rfl) dX2_comeUp_7 (fun H locs hP hD hS => ?_)
  have hP : va_P (dC, dI) vwCl ([(n_h, .inr (2, [.int n_n, .ref n_a1, .ref n_a2, .ref n_a3, .int x.1, .int x.2.1, .int 1, .int x.2.2.2.1, .int x.2.2.2.2.1, .int (-1), .int x.2.2.2.2.2.2.1])), (n_a1, .inl (cI, 64, .inl x.2.2.2.2.2.2.2.1)), (n_a2, .inl (cI, 64, .inl x.2.2.2.2.2.2.2.2.1)), (n_a3, .inl (cI, 64, .inl x.2.2.2.2.2.2.2.2.2))]) H := hP
  have hD : va_D A ([(n_h, .inr (2, [.int n_n, .ref n_a1, .ref n_a2, .ref n_a3, .int x.1, .int x.2.1, .int 1, .int x.2.2.2.1, .int x.2.2.2.2.1, .int (-1), .int x.2.2.2.2.2.2.1])), (n_a1, .inl (cI, 64, .inl x.2.2.2.2.2.2.2.1)), (n_a2, .inl (cI, 64, .inl x.2.2.2.2.2.2.2.2.1)), (n_a3, .inl (cI, 64, .inl x.2.2.2.2.2.2.2.2.2))]) := hD
  have hP9 := hP
  have hD9 := hD
  have e9 : f_n_comeUp x = (x.1, x.2.1, 1, x.2.2.2.1, x.2.2.2.2.1, (-1), x.2.2.2.2.2.2.1, x.2.2.2.2.2.2.2.1, x.2.2.2.2.2.2.2.2.1, x.2.2.2.2.2.2.2.2.2) := by simp only [f_n_comeUp]
  exact W.vret hx hb hr (fun t ht hW => ⟨⟨(x.1, x.2.1, 1, x.2.2.2.1, x.2.2.2.2.1, (-1), x.2.2.2.2.2.2.1, x.2.2.2.2.2.2.2.1, x.2.2.2.2.2.2.2.2.1, x.2.2.2.2.2.2.2.2.2), rfl, e9.symm, by rw [ht]; exact hP9, va_K.moved hW.alike hK, hD9⟩, hS.F ht⟩) hS.2.2 dX2_comeUp_10
def f_n_startWrite (x : Nd) : Int32 × Nd :=
  if x.2.2.2.2.2.1 = 0 then let u3 := f_n_goDown x; (0, u3) else if x.2.2.2.2.2.1 ≤ 0 then (1, (x.1, x.2.1, x.2.2.1, x.2.2.2.1, x.2.2.2.2.1, x.2.2.2.2.2.1, (x.2.2.2.2.2.2.1 + 1), x.2.2.2.2.2.2.2.1, x.2.2.2.2.2.2.2.2.1, x.2.2.2.2.2.2.2.2.2)) else (1, (x.1, x.2.1, x.2.2.1, x.2.2.2.1, x.2.2.2.2.1, (x.2.2.2.2.2.1 - 1), (x.2.2.2.2.2.2.1 + 1), x.2.2.2.2.2.2.2.1, x.2.2.2.2.2.2.2.2.1, x.2.2.2.2.2.2.2.2.2))
set_option maxHeartbeats 4000000 in
set_option maxRecDepth 100000 in
theorem c_n_startWrite (l : Launch) (dC : Nat → ClassId) (dI : Nat → Nat → Nat) (cI cZ cM : ClassId) (n_n : Int32) (n_h : Nat) (n_a1 : Nat) (n_a2 : Nat) (n_a3 : Nat) (sz : Nat) (x : Nd)    : Met l yX2_startWrite wsX2_startWrite ({ frames := 1, cells := 0, slots := 0, locals := 20 }) (va_Pc [.ref n_h] (fun U => U.heap.size = sz ∧ va_P (dC, dI) vwCl ([(n_h, .inr (2, [.int n_n, .ref n_a1, .ref n_a2, .ref n_a3, .int x.1, .int x.2.1, .int x.2.2.1, .int x.2.2.2.1, .int x.2.2.2.2.1, .int x.2.2.2.2.2.1, .int x.2.2.2.2.2.2.1])), (n_a1, .inl (cI, 64, .inl x.2.2.2.2.2.2.2.1)), (n_a2, .inl (cI, 64, .inl x.2.2.2.2.2.2.2.2.1)), (n_a3, .inl (cI, 64, .inl x.2.2.2.2.2.2.2.2.2))]) U.heap ∧ va_K (dC, dI) vwCl [(cI, .int), (cZ, .boolean), (cM, .object RX1)] U ∧ va_D (fun _ => True) ([(n_h, .inr (2, [.int n_n, .ref n_a1, .ref n_a2, .ref n_a3, .int x.1, .int x.2.1, .int x.2.2.1, .int x.2.2.2.1, .int x.2.2.2.2.1, .int x.2.2.2.2.2.1, .int x.2.2.2.2.2.2.1])), (n_a1, .inl (cI, 64, .inl x.2.2.2.2.2.2.2.1)), (n_a2, .inl (cI, 64, .inl x.2.2.2.2.2.2.2.2.1)), (n_a3, .inl (cI, 64, .inl x.2.2.2.2.2.2.2.2.2))]))) (va_Qi (fun (r : Int32) (u : Nd) => r = (f_n_startWrite x).1 ∧ u = (f_n_startWrite x).2) (fun u t => va_P (dC, dI) vwCl ([(n_h, .inr (2, [.int n_n, .ref n_a1, .ref n_a2, .ref n_a3, .int u.1, .int u.2.1, .int u.2.2.1, .int u.2.2.2.1, .int u.2.2.2.2.1, .int u.2.2.2.2.2.1, .int u.2.2.2.2.2.2.1])), (n_a1, .inl (cI, 64, .inl u.2.2.2.2.2.2.2.1)), (n_a2, .inl (cI, 64, .inl u.2.2.2.2.2.2.2.2.1)), (n_a3, .inl (cI, 64, .inl u.2.2.2.2.2.2.2.2.2))]) t.heap ∧ va_K (dC, dI) vwCl [(cI, .int), (cZ, .boolean), (cM, .object RX1)] t ∧ va_D (va_A ([(n_h, .inr (2, [.int n_n, .ref n_a1, .ref n_a2, .ref n_a3, .int x.1, .int x.2.1, .int x.2.2.1, .int x.2.2.2.1, .int x.2.2.2.2.1, .int x.2.2.2.2.2.1, .int x.2.2.2.2.2.2.1])), (n_a1, .inl (cI, 64, .inl x.2.2.2.2.2.2.2.1)), (n_a2, .inl (cI, 64, .inl x.2.2.2.2.2.2.2.2.1)), (n_a3, .inl (cI, 64, .inl x.2.2.2.2.2.2.2.2.2))]) sz) ([(n_h, .inr (2, [.int n_n, .ref n_a1, .ref n_a2, .ref n_a3, .int u.1, .int u.2.1, .int u.2.2.1, .int u.2.2.2.1, .int u.2.2.2.2.1, .int u.2.2.2.2.2.1, .int u.2.2.2.2.2.2.1])), (n_a1, .inl (cI, 64, .inl u.2.2.2.2.2.2.2.1)), (n_a2, .inl (cI, 64, .inl u.2.2.2.2.2.2.2.2.1)), (n_a3, .inl (cI, 64, .inl u.2.2.2.2.2.2.2.2.2))])) (va_A ([(n_h, .inr (2, [.int n_n, .ref n_a1, .ref n_a2, .ref n_a3, .int x.1, .int x.2.1, .int x.2.2.1, .int x.2.2.2.1, .int x.2.2.2.2.1, .int x.2.2.2.2.2.1, .int x.2.2.2.2.2.2.1])), (n_a1, .inl (cI, 64, .inl x.2.2.2.2.2.2.2.1)), (n_a2, .inl (cI, 64, .inl x.2.2.2.2.2.2.2.2.1)), (n_a3, .inl (cI, 64, .inl x.2.2.2.2.2.2.2.2.2))]) sz)) 0 0 (va_A ([(n_h, .inr (2, [.int n_n, .ref n_a1, .ref n_a2, .ref n_a3, .int x.1, .int x.2.1, .int x.2.2.1, .int x.2.2.2.1, .int x.2.2.2.2.1, .int x.2.2.2.2.2.1, .int x.2.2.2.2.2.2.1])), (n_a1, .inl (cI, 64, .inl x.2.2.2.2.2.2.2.1)), (n_a2, .inl (cI, 64, .inl x.2.2.2.2.2.2.2.2.1)), (n_a3, .inl (cI, 64, .inl x.2.2.2.2.2.2.2.2.2))]) sz) := by
  refine Met.ofW (cc := cX2_startWrite) (maxL := 1) (ret := (some .boolean)) (by decide) rfl ?_
  intro p e s m args below meth c s₁ B hml hv
  obtain ⟨rfl, hsz, hP, hK, hD0⟩ := hv
  have hx := B.exec
  have hb := B.bytes
  have hr := B.returns
  have hts := atoms_spec (ws := wsX2_startWrite) B.pre
  have hown : s.vm.findClass RX2 = some m.cls := findClass_of_methodNamed B.named
  have hlocks := B.notSynchronized
  subst hsz
  have hD := hD0.self (sz := s.heap.size)
  generalize hAe : va_A ([(n_h, .inr (2, [.int n_n, .ref n_a1, .ref n_a2, .ref n_a3, .int x.1, .int x.2.1, .int x.2.2.1, .int x.2.2.2.1, .int x.2.2.2.2.1, .int x.2.2.2.2.2.1, .int x.2.2.2.2.2.2.1])), (n_a1, .inl (cI, 64, .inl x.2.2.2.2.2.2.2.1)), (n_a2, .inl (cI, 64, .inl x.2.2.2.2.2.2.2.2.1)), (n_a3, .inl (cI, 64, .inl x.2.2.2.2.2.2.2.2.2))]) s.heap.size = A at hD ⊢
  have hA : ∀ q : Nat, s.heap.size ≤ q → A q := fun q h => by rw [← hAe]; exact Or.inr h
  have hS : va_S A s.heap s.heap [] := va_S.rf
  have hP : va_P (dC, dI) vwCl ([(n_h, .inr (2, [.int n_n, .ref n_a1, .ref n_a2, .ref n_a3, .int x.1, .int x.2.1, .int x.2.2.1, .int x.2.2.2.1, .int x.2.2.2.2.1, .int x.2.2.2.2.2.1, .int x.2.2.2.2.2.2.1])), (n_a1, .inl (cI, 64, .inl x.2.2.2.2.2.2.2.1)), (n_a2, .inl (cI, 64, .inl x.2.2.2.2.2.2.2.2.1)), (n_a3, .inl (cI, 64, .inl x.2.2.2.2.2.2.2.2.2))]) s.heap := hP
  have hD : va_D A ([(n_h, .inr (2, [.int n_n, .ref n_a1, .ref n_a2, .ref n_a3, .int x.1, .int x.2.1, .int x.2.2.1, .int x.2.2.2.1, .int x.2.2.2.2.1, .int x.2.2.2.2.2.1, .int x.2.2.2.2.2.2.1])), (n_a1, .inl (cI, 64, .inl x.2.2.2.2.2.2.2.1)), (n_a2, .inl (cI, 64, .inl x.2.2.2.2.2.2.2.2.1)), (n_a3, .inl (cI, 64, .inl x.2.2.2.2.2.2.2.2.2))]) := hD
  have hl := lv_entry ([.ref n_h]) (n := 1) (Nat.le_of_ble_eq_true rfl)
  rw [lg_entry_eq]
  generalize (lg_sl ([.ref n_h]) ++ List.replicate (1 - (lg_sl ([.ref n_h])).length) Slot.unset).toArray = ls at hl ⊢
  have hl : lv_has ls 1 [(0, .ref n_h)] := hl
  refine lv_aload_n hx hb dX2_startWrite_0 rfl (lv_at hl 0 rfl) ?_
  refine va_get (D := (dC, dI)) (ci := 2) (v := (.int x.2.2.2.2.2.1)) (C := RX2) (T := TX2) (N := 11) hx hb hts (fun _ h => List.mem_cons_of_mem _ (List.mem_append_right _ h)) hown hK hP 0 rfl rfl 9 (by decide) (hts (.fieldLink RX2 38 "TwinLog$Node" "fuseLeft" "I") (by decide +kernel)) (fun _ h9 => h9) rfl dX2_startWrite_1 ?_
  refine lv_if_ne (tgt := 13) hx hb dX2_startWrite_4 (by decide) (fun c1 => ?_) (fun c1 => ?_)
  · -- taken
    refine lv_aload_n hx hb dX2_startWrite_13 rfl (lv_at hl 0 rfl) ?_
    refine va_get (D := (dC, dI)) (ci := 2) (v := (.int x.2.2.2.2.2.1)) (C := RX2) (T := TX2) (N := 11) hx hb hts (fun _ h => List.mem_cons_of_mem _ (List.mem_append_right _ h)) hown hK hP 0 rfl rfl 9 (by decide) (hts (.fieldLink RX2 38 "TwinLog$Node" "fuseLeft" "I") (by decide +kernel)) (fun _ h9 => h9) rfl dX2_startWrite_14 ?_
    refine lv_if_le (tgt := 30) hx hb dX2_startWrite_17 (by decide) (fun c2 => ?_) (fun c2 => ?_)
    · -- taken
      refine lv_aload_n hx hb dX2_startWrite_30 rfl (lv_at hl 0 rfl) ?_
      refine lv_dup hx hb dX2_startWrite_31 rfl ?_
      refine va_get (D := (dC, dI)) (ci := 2) (v := (.int x.2.2.2.2.2.2.1)) (C := RX2) (T := TX2) (N := 11) hx hb hts (fun _ h => List.mem_cons_of_mem _ (List.mem_append_right _ h)) hown hK hP 0 rfl rfl 10 (by decide) (hts (.fieldLink RX2 44 "TwinLog$Node" "writes" "I") (by decide +kernel)) (fun _ h9 => h9) rfl dX2_startWrite_32 ?_
      refine lv_iconst (v := 1) hx hb dX2_startWrite_35 (by decide) ?_
      refine lv_iadd hx hb dX2_startWrite_36 ?_
      refine va_put (D := (dC, dI)) (ci := 2) (v := .int (x.2.2.2.2.2.2.1 + 1)) (ty := .int) (C := RX2) (T := TX2) (N := 11) hx hb hts (fun _ h => List.mem_cons_of_mem _ (List.mem_append_right _ h)) tyX2 tyX2_ok nmX2 hown hK hP hD hS 0 rfl rfl 10 (by decide) (hts (.fieldLink RX2 44 "TwinLog$Node" "writes" "I") (by decide +kernel)) (fun _ h9 => h9) rfl (by decide +kernel) rfl rfl (Nat.le_of_ble_eq_true rfl) dX2_startWrite_37 (fun H locs hP hD hS => ?_)
      have hP : va_P (dC, dI) vwCl ([(n_h, .inr (2, [.int n_n, .ref n_a1, .ref n_a2, .ref n_a3, .int x.1, .int x.2.1, .int x.2.2.1, .int x.2.2.2.1, .int x.2.2.2.2.1, .int x.2.2.2.2.2.1, .int (x.2.2.2.2.2.2.1 + 1)])), (n_a1, .inl (cI, 64, .inl x.2.2.2.2.2.2.2.1)), (n_a2, .inl (cI, 64, .inl x.2.2.2.2.2.2.2.2.1)), (n_a3, .inl (cI, 64, .inl x.2.2.2.2.2.2.2.2.2))]) H := hP
      have hD : va_D A ([(n_h, .inr (2, [.int n_n, .ref n_a1, .ref n_a2, .ref n_a3, .int x.1, .int x.2.1, .int x.2.2.1, .int x.2.2.2.1, .int x.2.2.2.2.1, .int x.2.2.2.2.2.1, .int (x.2.2.2.2.2.2.1 + 1)])), (n_a1, .inl (cI, 64, .inl x.2.2.2.2.2.2.2.1)), (n_a2, .inl (cI, 64, .inl x.2.2.2.2.2.2.2.2.1)), (n_a3, .inl (cI, 64, .inl x.2.2.2.2.2.2.2.2.2))]) := hD
      refine lv_iconst (v := 1) hx hb dX2_startWrite_40 (by decide) ?_
      have hP9 := hP
      have hD9 := hD
      have e9 : f_n_startWrite x = (1, (x.1, x.2.1, x.2.2.1, x.2.2.2.1, x.2.2.2.2.1, x.2.2.2.2.2.1, (x.2.2.2.2.2.2.1 + 1), x.2.2.2.2.2.2.2.1, x.2.2.2.2.2.2.2.2.1, x.2.2.2.2.2.2.2.2.2)) := by simp only [f_n_startWrite, if_neg c1, if_pos c2]
      exact W.zret (v := 1) hx hb hr (by rfl) (fun t ht hW => ⟨⟨1, (x.1, x.2.1, x.2.2.1, x.2.2.2.1, x.2.2.2.2.1, x.2.2.2.2.2.1, (x.2.2.2.2.2.2.1 + 1), x.2.2.2.2.2.2.2.1, x.2.2.2.2.2.2.2.2.1, x.2.2.2.2.2.2.2.2.2), rfl, ⟨by rw [e9], by rw [e9]⟩, by rw [ht]; exact hP9, va_K.moved hW.alike hK, hD9⟩, hS.F ht⟩) hS.2.2 dX2_startWrite_41
    · -- not taken
      refine lv_aload_n hx hb dX2_startWrite_20 rfl (lv_at hl 0 rfl) ?_
      refine lv_dup hx hb dX2_startWrite_21 rfl ?_
      refine va_get (D := (dC, dI)) (ci := 2) (v := (.int x.2.2.2.2.2.1)) (C := RX2) (T := TX2) (N := 11) hx hb hts (fun _ h => List.mem_cons_of_mem _ (List.mem_append_right _ h)) hown hK hP 0 rfl rfl 9 (by decide) (hts (.fieldLink RX2 38 "TwinLog$Node" "fuseLeft" "I") (by decide +kernel)) (fun _ h9 => h9) rfl dX2_startWrite_22 ?_
      refine lv_iconst (v := 1) hx hb dX2_startWrite_25 (by decide) ?_
      refine lv_isub hx hb dX2_startWrite_26 ?_
      refine va_put (D := (dC, dI)) (ci := 2) (v := .int (x.2.2.2.2.2.1 - 1)) (ty := .int) (C := RX2) (T := TX2) (N := 11) hx hb hts (fun _ h => List.mem_cons_of_mem _ (List.mem_append_right _ h)) tyX2 tyX2_ok nmX2 hown hK hP hD hS 0 rfl rfl 9 (by decide) (hts (.fieldLink RX2 38 "TwinLog$Node" "fuseLeft" "I") (by decide +kernel)) (fun _ h9 => h9) rfl (by decide +kernel) rfl rfl (Nat.le_of_ble_eq_true rfl) dX2_startWrite_27 (fun H locs hP hD hS => ?_)
      have hP : va_P (dC, dI) vwCl ([(n_h, .inr (2, [.int n_n, .ref n_a1, .ref n_a2, .ref n_a3, .int x.1, .int x.2.1, .int x.2.2.1, .int x.2.2.2.1, .int x.2.2.2.2.1, .int (x.2.2.2.2.2.1 - 1), .int x.2.2.2.2.2.2.1])), (n_a1, .inl (cI, 64, .inl x.2.2.2.2.2.2.2.1)), (n_a2, .inl (cI, 64, .inl x.2.2.2.2.2.2.2.2.1)), (n_a3, .inl (cI, 64, .inl x.2.2.2.2.2.2.2.2.2))]) H := hP
      have hD : va_D A ([(n_h, .inr (2, [.int n_n, .ref n_a1, .ref n_a2, .ref n_a3, .int x.1, .int x.2.1, .int x.2.2.1, .int x.2.2.2.1, .int x.2.2.2.2.1, .int (x.2.2.2.2.2.1 - 1), .int x.2.2.2.2.2.2.1])), (n_a1, .inl (cI, 64, .inl x.2.2.2.2.2.2.2.1)), (n_a2, .inl (cI, 64, .inl x.2.2.2.2.2.2.2.2.1)), (n_a3, .inl (cI, 64, .inl x.2.2.2.2.2.2.2.2.2))]) := hD
      refine lv_aload_n hx hb dX2_startWrite_30 rfl (lv_at hl 0 rfl) ?_
      refine lv_dup hx hb dX2_startWrite_31 rfl ?_
      refine va_get (D := (dC, dI)) (ci := 2) (v := (.int x.2.2.2.2.2.2.1)) (C := RX2) (T := TX2) (N := 11) hx hb hts (fun _ h => List.mem_cons_of_mem _ (List.mem_append_right _ h)) hown hK hP 0 rfl rfl 10 (by decide) (hts (.fieldLink RX2 44 "TwinLog$Node" "writes" "I") (by decide +kernel)) (fun _ h9 => h9) rfl dX2_startWrite_32 ?_
      refine lv_iconst (v := 1) hx hb dX2_startWrite_35 (by decide) ?_
      refine lv_iadd hx hb dX2_startWrite_36 ?_
      refine va_put (D := (dC, dI)) (ci := 2) (v := .int (x.2.2.2.2.2.2.1 + 1)) (ty := .int) (C := RX2) (T := TX2) (N := 11) hx hb hts (fun _ h => List.mem_cons_of_mem _ (List.mem_append_right _ h)) tyX2 tyX2_ok nmX2 hown hK hP hD hS 0 rfl rfl 10 (by decide) (hts (.fieldLink RX2 44 "TwinLog$Node" "writes" "I") (by decide +kernel)) (fun _ h9 => h9) rfl (by decide +kernel) rfl rfl (Nat.le_of_ble_eq_true rfl) dX2_startWrite_37 (fun H locs hP hD hS => ?_)
      have hP : va_P (dC, dI) vwCl ([(n_h, .inr (2, [.int n_n, .ref n_a1, .ref n_a2, .ref n_a3, .int x.1, .int x.2.1, .int x.2.2.1, .int x.2.2.2.1, .int x.2.2.2.2.1, .int (x.2.2.2.2.2.1 - 1), .int (x.2.2.2.2.2.2.1 + 1)])), (n_a1, .inl (cI, 64, .inl x.2.2.2.2.2.2.2.1)), (n_a2, .inl (cI, 64, .inl x.2.2.2.2.2.2.2.2.1)), (n_a3, .inl (cI, 64, .inl x.2.2.2.2.2.2.2.2.2))]) H := hP
      have hD : va_D A ([(n_h, .inr (2, [.int n_n, .ref n_a1, .ref n_a2, .ref n_a3, .int x.1, .int x.2.1, .int x.2.2.1, .int x.2.2.2.1, .int x.2.2.2.2.1, .int (x.2.2.2.2.2.1 - 1), .int (x.2.2.2.2.2.2.1 + 1)])), (n_a1, .inl (cI, 64, .inl x.2.2.2.2.2.2.2.1)), (n_a2, .inl (cI, 64, .inl x.2.2.2.2.2.2.2.2.1)), (n_a3, .inl (cI, 64, .inl x.2.2.2.2.2.2.2.2.2))]) := hD
      refine lv_iconst (v := 1) hx hb dX2_startWrite_40 (by decide) ?_
      have hP9 := hP
      have hD9 := hD
      have e9 : f_n_startWrite x = (1, (x.1, x.2.1, x.2.2.1, x.2.2.2.1, x.2.2.2.2.1, (x.2.2.2.2.2.1 - 1), (x.2.2.2.2.2.2.1 + 1), x.2.2.2.2.2.2.2.1, x.2.2.2.2.2.2.2.2.1, x.2.2.2.2.2.2.2.2.2)) := by simp only [f_n_startWrite, if_neg c1, if_neg c2]
      exact W.zret (v := 1) hx hb hr (by rfl) (fun t ht hW => ⟨⟨1, (x.1, x.2.1, x.2.2.1, x.2.2.2.1, x.2.2.2.2.1, (x.2.2.2.2.2.1 - 1), (x.2.2.2.2.2.2.1 + 1), x.2.2.2.2.2.2.2.1, x.2.2.2.2.2.2.2.2.1, x.2.2.2.2.2.2.2.2.2), rfl, ⟨by rw [e9], by rw [e9]⟩, by rw [ht]; exact hP9, va_K.moved hW.alike hK, hD9⟩, hS.F ht⟩) hS.2.2 dX2_startWrite_41
  · -- not taken
    refine lv_aload_n hx hb dX2_startWrite_7 rfl (lv_at hl 0 rfl) ?_
    have hPc := hP.sub (ws' := [(n_h, .inr (2, [.int n_n, .ref n_a1, .ref n_a2, .ref n_a3, .int x.1, .int x.2.1, .int x.2.2.1, .int x.2.2.2.1, .int x.2.2.2.2.1, .int x.2.2.2.2.2.1, .int x.2.2.2.2.2.2.1])), (n_a1, .inl (cI, 64, .inl x.2.2.2.2.2.2.2.1)), (n_a2, .inl (cI, 64, .inl x.2.2.2.2.2.2.2.2.1)), (n_a3, .inl (cI, 64, .inl x.2.2.2.2.2.2.2.2.2))]) [0, 1, 2, 3] rfl
    have hDc := hD.sub (ws' := [(n_h, .inr (2, [.int n_n, .ref n_a1, .ref n_a2, .ref n_a3, .int x.1, .int x.2.1, .int x.2.2.1, .int x.2.2.2.1, .int x.2.2.2.2.1, .int x.2.2.2.2.2.1, .int x.2.2.2.2.2.2.1])), (n_a1, .inl (cI, 64, .inl x.2.2.2.2.2.2.2.1)), (n_a2, .inl (cI, 64, .inl x.2.2.2.2.2.2.2.2.1)), (n_a3, .inl (cI, 64, .inl x.2.2.2.2.2.2.2.2.2))]) [0, 1, 2, 3] (by decide) rfl
    have hFc := va_free (wc := [(n_h, .inr (2, [.int n_n, .ref n_a1, .ref n_a2, .ref n_a3, .int x.1, .int x.2.1, .int x.2.2.1, .int x.2.2.2.1, .int x.2.2.2.2.1, .int x.2.2.2.2.2.1, .int x.2.2.2.2.2.2.1])), (n_a1, .inl (cI, 64, .inl x.2.2.2.2.2.2.2.1)), (n_a2, .inl (cI, 64, .inl x.2.2.2.2.2.2.2.2.1)), (n_a3, .inl (cI, 64, .inl x.2.2.2.2.2.2.2.2.2))]) hD hS hA [0, 1, 2, 3] rfl
    refine kc_Vv (As := []) (rest := []) (J := fun w => [] ++ w) ⟨hx, hb, hml, hown, hts⟩ (c_n_goDown l dC dI cI cZ cM n_n n_h n_a1 n_a2 n_a3 s.heap.size x  ) (cwV 0 hts gX2_startWrite_X2_goDown rfl rfl rfl (by decide +kernel) ⟨Nat.le_of_ble_eq_true rfl, Nat.le_of_ble_eq_true rfl⟩) (va_recv hK hPc (ci := 2) (q0 := 0) rfl rfl) hK hPc hDc hFc hS (fun H1 w1 hk1 hP1 hD1 => va_join (wr := []) hP hD [0, 1, 2, 3] [] rfl rfl (by decide) (by decide) hk1 hFc hP1 hD1) rfl hl.1 rfl (Nat.le_of_ble_eq_true rfl) dX2_startWrite_8 ⟨Nat.zero_le _, Nat.zero_le _⟩ (fun u3 H locs hw3 hP hD hS => ?_)
    have hP : va_P (dC, dI) vwCl ([(n_h, .inr (2, [.int n_n, .ref n_a1, .ref n_a2, .ref n_a3, .int u3.1, .int u3.2.1, .int u3.2.2.1, .int u3.2.2.2.1, .int u3.2.2.2.2.1, .int u3.2.2.2.2.2.1, .int u3.2.2.2.2.2.2.1])), (n_a1, .inl (cI, 64, .inl u3.2.2.2.2.2.2.2.1)), (n_a2, .inl (cI, 64, .inl u3.2.2.2.2.2.2.2.2.1)), (n_a3, .inl (cI, 64, .inl u3.2.2.2.2.2.2.2.2.2))]) H := hP
    have hD : va_D A ([(n_h, .inr (2, [.int n_n, .ref n_a1, .ref n_a2, .ref n_a3, .int u3.1, .int u3.2.1, .int u3.2.2.1, .int u3.2.2.2.1, .int u3.2.2.2.2.1, .int u3.2.2.2.2.2.1, .int u3.2.2.2.2.2.2.1])), (n_a1, .inl (cI, 64, .inl u3.2.2.2.2.2.2.2.1)), (n_a2, .inl (cI, 64, .inl u3.2.2.2.2.2.2.2.2.1)), (n_a3, .inl (cI, 64, .inl u3.2.2.2.2.2.2.2.2.2))]) := hD
    refine lv_iconst (v := 0) hx hb dX2_startWrite_11 (by decide) ?_
    have hP9 := hP
    have hD9 := hD
    have e9 : f_n_startWrite x = (0, u3) := by simp only [f_n_startWrite, if_pos c1, ← hw3]
    exact W.zret (v := 0) hx hb hr (by rfl) (fun t ht hW => ⟨⟨0, u3, rfl, ⟨by rw [e9], by rw [e9]⟩, by rw [ht]; exact hP9, va_K.moved hW.alike hK, hD9⟩, hS.F ht⟩) hS.2.2 dX2_startWrite_12
def f_n_cutTo (x : Nd) (p1 : Int32) : Int32 × Nd :=
  let r1 := (f_n_startWrite x).1; let u1 := (f_n_startWrite x).2; if r1 = 0 then (0, u1) else (1, (p1, u1.2.1, u1.2.2.1, u1.2.2.2.1, u1.2.2.2.2.1, u1.2.2.2.2.2.1, u1.2.2.2.2.2.2.1, u1.2.2.2.2.2.2.2.1, u1.2.2.2.2.2.2.2.2.1, u1.2.2.2.2.2.2.2.2.2))
set_option maxHeartbeats 4000000 in
set_option maxRecDepth 100000 in
theorem c_n_cutTo (l : Launch) (dC : Nat → ClassId) (dI : Nat → Nat → Nat) (cI cZ cM : ClassId) (n_n : Int32) (n_h : Nat) (n_a1 : Nat) (n_a2 : Nat) (n_a3 : Nat) (sz : Nat) (x : Nd)  (p1 : Int32)  : Met l yX2_cutTo wsX2_cutTo ({ frames := 2, cells := 0, slots := 0, locals := 40 }) (va_Pc [.ref n_h, .int p1] (fun U => U.heap.size = sz ∧ va_P (dC, dI) vwCl ([(n_h, .inr (2, [.int n_n, .ref n_a1, .ref n_a2, .ref n_a3, .int x.1, .int x.2.1, .int x.2.2.1, .int x.2.2.2.1, .int x.2.2.2.2.1, .int x.2.2.2.2.2.1, .int x.2.2.2.2.2.2.1])), (n_a1, .inl (cI, 64, .inl x.2.2.2.2.2.2.2.1)), (n_a2, .inl (cI, 64, .inl x.2.2.2.2.2.2.2.2.1)), (n_a3, .inl (cI, 64, .inl x.2.2.2.2.2.2.2.2.2))]) U.heap ∧ va_K (dC, dI) vwCl [(cI, .int), (cZ, .boolean), (cM, .object RX1)] U ∧ va_D (fun _ => True) ([(n_h, .inr (2, [.int n_n, .ref n_a1, .ref n_a2, .ref n_a3, .int x.1, .int x.2.1, .int x.2.2.1, .int x.2.2.2.1, .int x.2.2.2.2.1, .int x.2.2.2.2.2.1, .int x.2.2.2.2.2.2.1])), (n_a1, .inl (cI, 64, .inl x.2.2.2.2.2.2.2.1)), (n_a2, .inl (cI, 64, .inl x.2.2.2.2.2.2.2.2.1)), (n_a3, .inl (cI, 64, .inl x.2.2.2.2.2.2.2.2.2))]))) (va_Qi (fun (r : Int32) (u : Nd) => r = (f_n_cutTo x p1).1 ∧ u = (f_n_cutTo x p1).2) (fun u t => va_P (dC, dI) vwCl ([(n_h, .inr (2, [.int n_n, .ref n_a1, .ref n_a2, .ref n_a3, .int u.1, .int u.2.1, .int u.2.2.1, .int u.2.2.2.1, .int u.2.2.2.2.1, .int u.2.2.2.2.2.1, .int u.2.2.2.2.2.2.1])), (n_a1, .inl (cI, 64, .inl u.2.2.2.2.2.2.2.1)), (n_a2, .inl (cI, 64, .inl u.2.2.2.2.2.2.2.2.1)), (n_a3, .inl (cI, 64, .inl u.2.2.2.2.2.2.2.2.2))]) t.heap ∧ va_K (dC, dI) vwCl [(cI, .int), (cZ, .boolean), (cM, .object RX1)] t ∧ va_D (va_A ([(n_h, .inr (2, [.int n_n, .ref n_a1, .ref n_a2, .ref n_a3, .int x.1, .int x.2.1, .int x.2.2.1, .int x.2.2.2.1, .int x.2.2.2.2.1, .int x.2.2.2.2.2.1, .int x.2.2.2.2.2.2.1])), (n_a1, .inl (cI, 64, .inl x.2.2.2.2.2.2.2.1)), (n_a2, .inl (cI, 64, .inl x.2.2.2.2.2.2.2.2.1)), (n_a3, .inl (cI, 64, .inl x.2.2.2.2.2.2.2.2.2))]) sz) ([(n_h, .inr (2, [.int n_n, .ref n_a1, .ref n_a2, .ref n_a3, .int u.1, .int u.2.1, .int u.2.2.1, .int u.2.2.2.1, .int u.2.2.2.2.1, .int u.2.2.2.2.2.1, .int u.2.2.2.2.2.2.1])), (n_a1, .inl (cI, 64, .inl u.2.2.2.2.2.2.2.1)), (n_a2, .inl (cI, 64, .inl u.2.2.2.2.2.2.2.2.1)), (n_a3, .inl (cI, 64, .inl u.2.2.2.2.2.2.2.2.2))])) (va_A ([(n_h, .inr (2, [.int n_n, .ref n_a1, .ref n_a2, .ref n_a3, .int x.1, .int x.2.1, .int x.2.2.1, .int x.2.2.2.1, .int x.2.2.2.2.1, .int x.2.2.2.2.2.1, .int x.2.2.2.2.2.2.1])), (n_a1, .inl (cI, 64, .inl x.2.2.2.2.2.2.2.1)), (n_a2, .inl (cI, 64, .inl x.2.2.2.2.2.2.2.2.1)), (n_a3, .inl (cI, 64, .inl x.2.2.2.2.2.2.2.2.2))]) sz)) 0 0 (va_A ([(n_h, .inr (2, [.int n_n, .ref n_a1, .ref n_a2, .ref n_a3, .int x.1, .int x.2.1, .int x.2.2.1, .int x.2.2.2.1, .int x.2.2.2.2.1, .int x.2.2.2.2.2.1, .int x.2.2.2.2.2.2.1])), (n_a1, .inl (cI, 64, .inl x.2.2.2.2.2.2.2.1)), (n_a2, .inl (cI, 64, .inl x.2.2.2.2.2.2.2.2.1)), (n_a3, .inl (cI, 64, .inl x.2.2.2.2.2.2.2.2.2))]) sz) := by
  refine Met.ofW (cc := cX2_cutTo) (maxL := 2) (ret := (some .boolean)) (by decide) rfl ?_
  intro p e s m args below meth c s₁ B hml hv
  obtain ⟨rfl, hsz, hP, hK, hD0⟩ := hv
  have hx := B.exec
  have hb := B.bytes
  have hr := B.returns
  have hts := atoms_spec (ws := wsX2_cutTo) B.pre
  have hown : s.vm.findClass RX2 = some m.cls := findClass_of_methodNamed B.named
  have hlocks := B.notSynchronized
  subst hsz
  have hD := hD0.self (sz := s.heap.size)
  generalize hAe : va_A ([(n_h, .inr (2, [.int n_n, .ref n_a1, .ref n_a2, .ref n_a3, .int x.1, .int x.2.1, .int x.2.2.1, .int x.2.2.2.1, .int x.2.2.2.2.1, .int x.2.2.2.2.2.1, .int x.2.2.2.2.2.2.1])), (n_a1, .inl (cI, 64, .inl x.2.2.2.2.2.2.2.1)), (n_a2, .inl (cI, 64, .inl x.2.2.2.2.2.2.2.2.1)), (n_a3, .inl (cI, 64, .inl x.2.2.2.2.2.2.2.2.2))]) s.heap.size = A at hD ⊢
  have hA : ∀ q : Nat, s.heap.size ≤ q → A q := fun q h => by rw [← hAe]; exact Or.inr h
  have hS : va_S A s.heap s.heap [] := va_S.rf
  have hP : va_P (dC, dI) vwCl ([(n_h, .inr (2, [.int n_n, .ref n_a1, .ref n_a2, .ref n_a3, .int x.1, .int x.2.1, .int x.2.2.1, .int x.2.2.2.1, .int x.2.2.2.2.1, .int x.2.2.2.2.2.1, .int x.2.2.2.2.2.2.1])), (n_a1, .inl (cI, 64, .inl x.2.2.2.2.2.2.2.1)), (n_a2, .inl (cI, 64, .inl x.2.2.2.2.2.2.2.2.1)), (n_a3, .inl (cI, 64, .inl x.2.2.2.2.2.2.2.2.2))]) s.heap := hP
  have hD : va_D A ([(n_h, .inr (2, [.int n_n, .ref n_a1, .ref n_a2, .ref n_a3, .int x.1, .int x.2.1, .int x.2.2.1, .int x.2.2.2.1, .int x.2.2.2.2.1, .int x.2.2.2.2.2.1, .int x.2.2.2.2.2.2.1])), (n_a1, .inl (cI, 64, .inl x.2.2.2.2.2.2.2.1)), (n_a2, .inl (cI, 64, .inl x.2.2.2.2.2.2.2.2.1)), (n_a3, .inl (cI, 64, .inl x.2.2.2.2.2.2.2.2.2))]) := hD
  have hl := lv_entry ([.ref n_h, .int p1]) (n := 2) (Nat.le_of_ble_eq_true rfl)
  rw [lg_entry_eq]
  generalize (lg_sl ([.ref n_h, .int p1]) ++ List.replicate (2 - (lg_sl ([.ref n_h, .int p1])).length) Slot.unset).toArray = ls at hl ⊢
  have hl : lv_has ls 2 [(0, .ref n_h), (1, .int p1)] := hl
  refine lv_aload_n hx hb dX2_cutTo_0 rfl (lv_at hl 0 rfl) ?_
  have hPc := hP.sub (ws' := [(n_h, .inr (2, [.int n_n, .ref n_a1, .ref n_a2, .ref n_a3, .int x.1, .int x.2.1, .int x.2.2.1, .int x.2.2.2.1, .int x.2.2.2.2.1, .int x.2.2.2.2.2.1, .int x.2.2.2.2.2.2.1])), (n_a1, .inl (cI, 64, .inl x.2.2.2.2.2.2.2.1)), (n_a2, .inl (cI, 64, .inl x.2.2.2.2.2.2.2.2.1)), (n_a3, .inl (cI, 64, .inl x.2.2.2.2.2.2.2.2.2))]) [0, 1, 2, 3] rfl
  have hDc := hD.sub (ws' := [(n_h, .inr (2, [.int n_n, .ref n_a1, .ref n_a2, .ref n_a3, .int x.1, .int x.2.1, .int x.2.2.1, .int x.2.2.2.1, .int x.2.2.2.2.1, .int x.2.2.2.2.2.1, .int x.2.2.2.2.2.2.1])), (n_a1, .inl (cI, 64, .inl x.2.2.2.2.2.2.2.1)), (n_a2, .inl (cI, 64, .inl x.2.2.2.2.2.2.2.2.1)), (n_a3, .inl (cI, 64, .inl x.2.2.2.2.2.2.2.2.2))]) [0, 1, 2, 3] (by decide) rfl
  have hFc := va_free (wc := [(n_h, .inr (2, [.int n_n, .ref n_a1, .ref n_a2, .ref n_a3, .int x.1, .int x.2.1, .int x.2.2.1, .int x.2.2.2.1, .int x.2.2.2.2.1, .int x.2.2.2.2.2.1, .int x.2.2.2.2.2.2.1])), (n_a1, .inl (cI, 64, .inl x.2.2.2.2.2.2.2.1)), (n_a2, .inl (cI, 64, .inl x.2.2.2.2.2.2.2.2.1)), (n_a3, .inl (cI, 64, .inl x.2.2.2.2.2.2.2.2.2))]) hD hS hA [0, 1, 2, 3] rfl
  refine kc_Vi (As := []) (rest := []) (J := fun w => [] ++ w) ⟨hx, hb, hml, hown, hts⟩ (c_n_startWrite l dC dI cI cZ cM n_n n_h n_a1 n_a2 n_a3 s.heap.size x  ) (cwV 0 hts gX2_cutTo_X2_startWrite rfl rfl rfl (by decide +kernel) ⟨Nat.le_of_ble_eq_true rfl, Nat.le_of_ble_eq_true rfl⟩) (va_recv hK hPc (ci := 2) (q0 := 0) rfl rfl) hK hPc hDc hFc hS (fun H1 w1 hk1 hP1 hD1 => va_join (wr := []) hP hD [0, 1, 2, 3] [] rfl rfl (by decide) (by decide) hk1 hFc hP1 hD1) rfl hl.1 rfl (Nat.le_of_ble_eq_true rfl) dX2_cutTo_1 ⟨Nat.zero_le _, Nat.zero_le _⟩ (fun r1 u1 H locs hw1 hP hD hS => ?_)
  have hP : va_P (dC, dI) vwCl ([(n_h, .inr (2, [.int n_n, .ref n_a1, .ref n_a2, .ref n_a3, .int u1.1, .int u1.2.1, .int u1.2.2.1, .int u1.2.2.2.1, .int u1.2.2.2.2.1, .int u1.2.2.2.2.2.1, .int u1.2.2.2.2.2.2.1])), (n_a1, .inl (cI, 64, .inl u1.2.2.2.2.2.2.2.1)), (n_a2, .inl (cI, 64, .inl u1.2.2.2.2.2.2.2.2.1)), (n_a3, .inl (cI, 64, .inl u1.2.2.2.2.2.2.2.2.2))]) H := hP
  have hD : va_D A ([(n_h, .inr (2, [.int n_n, .ref n_a1, .ref n_a2, .ref n_a3, .int u1.1, .int u1.2.1, .int u1.2.2.1, .int u1.2.2.2.1, .int u1.2.2.2.2.1, .int u1.2.2.2.2.2.1, .int u1.2.2.2.2.2.2.1])), (n_a1, .inl (cI, 64, .inl u1.2.2.2.2.2.2.2.1)), (n_a2, .inl (cI, 64, .inl u1.2.2.2.2.2.2.2.2.1)), (n_a3, .inl (cI, 64, .inl u1.2.2.2.2.2.2.2.2.2))]) := hD
  refine lv_if_ne (tgt := 9) hx hb dX2_cutTo_4 (by decide) (fun c2 => ?_) (fun c2 => ?_)
  · -- taken
    refine lv_aload_n hx hb dX2_cutTo_9 rfl (lv_at hl 0 rfl) ?_
    refine lv_iload_n hx hb dX2_cutTo_10 rfl (lv_at hl 1 rfl) ?_
    refine va_put (D := (dC, dI)) (ci := 2) (v := .int p1) (ty := .int) (C := RX2) (T := TX2) (N := 11) hx hb hts (fun _ h => List.mem_cons_of_mem _ (List.mem_append_right _ h)) tyX2 tyX2_ok nmX2 hown hK hP hD hS 0 rfl rfl 4 (by decide) (hts (.fieldLink RX2 47 "TwinLog$Node" "length" "I") (by decide +kernel)) (fun _ h9 => h9) rfl (by decide +kernel) rfl rfl (Nat.le_of_ble_eq_true rfl) dX2_cutTo_11 (fun H locs hP hD hS => ?_)
    have hP : va_P (dC, dI) vwCl ([(n_h, .inr (2, [.int n_n, .ref n_a1, .ref n_a2, .ref n_a3, .int p1, .int u1.2.1, .int u1.2.2.1, .int u1.2.2.2.1, .int u1.2.2.2.2.1, .int u1.2.2.2.2.2.1, .int u1.2.2.2.2.2.2.1])), (n_a1, .inl (cI, 64, .inl u1.2.2.2.2.2.2.2.1)), (n_a2, .inl (cI, 64, .inl u1.2.2.2.2.2.2.2.2.1)), (n_a3, .inl (cI, 64, .inl u1.2.2.2.2.2.2.2.2.2))]) H := hP
    have hD : va_D A ([(n_h, .inr (2, [.int n_n, .ref n_a1, .ref n_a2, .ref n_a3, .int p1, .int u1.2.1, .int u1.2.2.1, .int u1.2.2.2.1, .int u1.2.2.2.2.1, .int u1.2.2.2.2.2.1, .int u1.2.2.2.2.2.2.1])), (n_a1, .inl (cI, 64, .inl u1.2.2.2.2.2.2.2.1)), (n_a2, .inl (cI, 64, .inl u1.2.2.2.2.2.2.2.2.1)), (n_a3, .inl (cI, 64, .inl u1.2.2.2.2.2.2.2.2.2))]) := hD
    refine lv_iconst (v := 1) hx hb dX2_cutTo_14 (by decide) ?_
    have hP9 := hP
    have hD9 := hD
    have e9 : f_n_cutTo x p1 = (1, (p1, u1.2.1, u1.2.2.1, u1.2.2.2.1, u1.2.2.2.2.1, u1.2.2.2.2.2.1, u1.2.2.2.2.2.2.1, u1.2.2.2.2.2.2.2.1, u1.2.2.2.2.2.2.2.2.1, u1.2.2.2.2.2.2.2.2.2)) := by simp only [f_n_cutTo, ← hw1.1, ← hw1.2, if_neg c2]
    exact W.zret (v := 1) hx hb hr (by rfl) (fun t ht hW => ⟨⟨1, (p1, u1.2.1, u1.2.2.1, u1.2.2.2.1, u1.2.2.2.2.1, u1.2.2.2.2.2.1, u1.2.2.2.2.2.2.1, u1.2.2.2.2.2.2.2.1, u1.2.2.2.2.2.2.2.2.1, u1.2.2.2.2.2.2.2.2.2), rfl, ⟨by rw [e9], by rw [e9]⟩, by rw [ht]; exact hP9, va_K.moved hW.alike hK, hD9⟩, hS.F ht⟩) hS.2.2 dX2_cutTo_15
  · -- not taken
    refine lv_iconst (v := 0) hx hb dX2_cutTo_7 (by decide) ?_
    have hP9 := hP
    have hD9 := hD
    have e9 : f_n_cutTo x p1 = (0, u1) := by simp only [f_n_cutTo, ← hw1.1, ← hw1.2, if_pos c2]
    exact W.zret (v := 0) hx hb hr (by rfl) (fun t ht hW => ⟨⟨0, u1, rfl, ⟨by rw [e9], by rw [e9]⟩, by rw [ht]; exact hP9, va_K.moved hW.alike hK, hD9⟩, hS.F ht⟩) hS.2.2 dX2_cutTo_8
def f_n_changeTerm (x : Nd) (p1 : Int32) : Int32 × Nd :=
  let r1 := (f_n_startWrite x).1; let u1 := (f_n_startWrite x).2; if r1 = 0 then (0, u1) else (1, (u1.1, p1, u1.2.2.1, u1.2.2.2.1, u1.2.2.2.2.1, u1.2.2.2.2.2.1, u1.2.2.2.2.2.2.1, u1.2.2.2.2.2.2.2.1, u1.2.2.2.2.2.2.2.2.1, u1.2.2.2.2.2.2.2.2.2))
set_option maxHeartbeats 4000000 in
set_option maxRecDepth 100000 in
theorem c_n_changeTerm (l : Launch) (dC : Nat → ClassId) (dI : Nat → Nat → Nat) (cI cZ cM : ClassId) (n_n : Int32) (n_h : Nat) (n_a1 : Nat) (n_a2 : Nat) (n_a3 : Nat) (sz : Nat) (x : Nd)  (p1 : Int32)  : Met l yX2_changeTerm wsX2_changeTerm ({ frames := 2, cells := 0, slots := 0, locals := 40 }) (va_Pc [.ref n_h, .int p1] (fun U => U.heap.size = sz ∧ va_P (dC, dI) vwCl ([(n_h, .inr (2, [.int n_n, .ref n_a1, .ref n_a2, .ref n_a3, .int x.1, .int x.2.1, .int x.2.2.1, .int x.2.2.2.1, .int x.2.2.2.2.1, .int x.2.2.2.2.2.1, .int x.2.2.2.2.2.2.1])), (n_a1, .inl (cI, 64, .inl x.2.2.2.2.2.2.2.1)), (n_a2, .inl (cI, 64, .inl x.2.2.2.2.2.2.2.2.1)), (n_a3, .inl (cI, 64, .inl x.2.2.2.2.2.2.2.2.2))]) U.heap ∧ va_K (dC, dI) vwCl [(cI, .int), (cZ, .boolean), (cM, .object RX1)] U ∧ va_D (fun _ => True) ([(n_h, .inr (2, [.int n_n, .ref n_a1, .ref n_a2, .ref n_a3, .int x.1, .int x.2.1, .int x.2.2.1, .int x.2.2.2.1, .int x.2.2.2.2.1, .int x.2.2.2.2.2.1, .int x.2.2.2.2.2.2.1])), (n_a1, .inl (cI, 64, .inl x.2.2.2.2.2.2.2.1)), (n_a2, .inl (cI, 64, .inl x.2.2.2.2.2.2.2.2.1)), (n_a3, .inl (cI, 64, .inl x.2.2.2.2.2.2.2.2.2))]))) (va_Qi (fun (r : Int32) (u : Nd) => r = (f_n_changeTerm x p1).1 ∧ u = (f_n_changeTerm x p1).2) (fun u t => va_P (dC, dI) vwCl ([(n_h, .inr (2, [.int n_n, .ref n_a1, .ref n_a2, .ref n_a3, .int u.1, .int u.2.1, .int u.2.2.1, .int u.2.2.2.1, .int u.2.2.2.2.1, .int u.2.2.2.2.2.1, .int u.2.2.2.2.2.2.1])), (n_a1, .inl (cI, 64, .inl u.2.2.2.2.2.2.2.1)), (n_a2, .inl (cI, 64, .inl u.2.2.2.2.2.2.2.2.1)), (n_a3, .inl (cI, 64, .inl u.2.2.2.2.2.2.2.2.2))]) t.heap ∧ va_K (dC, dI) vwCl [(cI, .int), (cZ, .boolean), (cM, .object RX1)] t ∧ va_D (va_A ([(n_h, .inr (2, [.int n_n, .ref n_a1, .ref n_a2, .ref n_a3, .int x.1, .int x.2.1, .int x.2.2.1, .int x.2.2.2.1, .int x.2.2.2.2.1, .int x.2.2.2.2.2.1, .int x.2.2.2.2.2.2.1])), (n_a1, .inl (cI, 64, .inl x.2.2.2.2.2.2.2.1)), (n_a2, .inl (cI, 64, .inl x.2.2.2.2.2.2.2.2.1)), (n_a3, .inl (cI, 64, .inl x.2.2.2.2.2.2.2.2.2))]) sz) ([(n_h, .inr (2, [.int n_n, .ref n_a1, .ref n_a2, .ref n_a3, .int u.1, .int u.2.1, .int u.2.2.1, .int u.2.2.2.1, .int u.2.2.2.2.1, .int u.2.2.2.2.2.1, .int u.2.2.2.2.2.2.1])), (n_a1, .inl (cI, 64, .inl u.2.2.2.2.2.2.2.1)), (n_a2, .inl (cI, 64, .inl u.2.2.2.2.2.2.2.2.1)), (n_a3, .inl (cI, 64, .inl u.2.2.2.2.2.2.2.2.2))])) (va_A ([(n_h, .inr (2, [.int n_n, .ref n_a1, .ref n_a2, .ref n_a3, .int x.1, .int x.2.1, .int x.2.2.1, .int x.2.2.2.1, .int x.2.2.2.2.1, .int x.2.2.2.2.2.1, .int x.2.2.2.2.2.2.1])), (n_a1, .inl (cI, 64, .inl x.2.2.2.2.2.2.2.1)), (n_a2, .inl (cI, 64, .inl x.2.2.2.2.2.2.2.2.1)), (n_a3, .inl (cI, 64, .inl x.2.2.2.2.2.2.2.2.2))]) sz)) 0 0 (va_A ([(n_h, .inr (2, [.int n_n, .ref n_a1, .ref n_a2, .ref n_a3, .int x.1, .int x.2.1, .int x.2.2.1, .int x.2.2.2.1, .int x.2.2.2.2.1, .int x.2.2.2.2.2.1, .int x.2.2.2.2.2.2.1])), (n_a1, .inl (cI, 64, .inl x.2.2.2.2.2.2.2.1)), (n_a2, .inl (cI, 64, .inl x.2.2.2.2.2.2.2.2.1)), (n_a3, .inl (cI, 64, .inl x.2.2.2.2.2.2.2.2.2))]) sz) := by
  refine Met.ofW (cc := cX2_changeTerm) (maxL := 2) (ret := (some .boolean)) (by decide) rfl ?_
  intro p e s m args below meth c s₁ B hml hv
  obtain ⟨rfl, hsz, hP, hK, hD0⟩ := hv
  have hx := B.exec
  have hb := B.bytes
  have hr := B.returns
  have hts := atoms_spec (ws := wsX2_changeTerm) B.pre
  have hown : s.vm.findClass RX2 = some m.cls := findClass_of_methodNamed B.named
  have hlocks := B.notSynchronized
  subst hsz
  have hD := hD0.self (sz := s.heap.size)
  generalize hAe : va_A ([(n_h, .inr (2, [.int n_n, .ref n_a1, .ref n_a2, .ref n_a3, .int x.1, .int x.2.1, .int x.2.2.1, .int x.2.2.2.1, .int x.2.2.2.2.1, .int x.2.2.2.2.2.1, .int x.2.2.2.2.2.2.1])), (n_a1, .inl (cI, 64, .inl x.2.2.2.2.2.2.2.1)), (n_a2, .inl (cI, 64, .inl x.2.2.2.2.2.2.2.2.1)), (n_a3, .inl (cI, 64, .inl x.2.2.2.2.2.2.2.2.2))]) s.heap.size = A at hD ⊢
  have hA : ∀ q : Nat, s.heap.size ≤ q → A q := fun q h => by rw [← hAe]; exact Or.inr h
  have hS : va_S A s.heap s.heap [] := va_S.rf
  have hP : va_P (dC, dI) vwCl ([(n_h, .inr (2, [.int n_n, .ref n_a1, .ref n_a2, .ref n_a3, .int x.1, .int x.2.1, .int x.2.2.1, .int x.2.2.2.1, .int x.2.2.2.2.1, .int x.2.2.2.2.2.1, .int x.2.2.2.2.2.2.1])), (n_a1, .inl (cI, 64, .inl x.2.2.2.2.2.2.2.1)), (n_a2, .inl (cI, 64, .inl x.2.2.2.2.2.2.2.2.1)), (n_a3, .inl (cI, 64, .inl x.2.2.2.2.2.2.2.2.2))]) s.heap := hP
  have hD : va_D A ([(n_h, .inr (2, [.int n_n, .ref n_a1, .ref n_a2, .ref n_a3, .int x.1, .int x.2.1, .int x.2.2.1, .int x.2.2.2.1, .int x.2.2.2.2.1, .int x.2.2.2.2.2.1, .int x.2.2.2.2.2.2.1])), (n_a1, .inl (cI, 64, .inl x.2.2.2.2.2.2.2.1)), (n_a2, .inl (cI, 64, .inl x.2.2.2.2.2.2.2.2.1)), (n_a3, .inl (cI, 64, .inl x.2.2.2.2.2.2.2.2.2))]) := hD
  have hl := lv_entry ([.ref n_h, .int p1]) (n := 2) (Nat.le_of_ble_eq_true rfl)
  rw [lg_entry_eq]
  generalize (lg_sl ([.ref n_h, .int p1]) ++ List.replicate (2 - (lg_sl ([.ref n_h, .int p1])).length) Slot.unset).toArray = ls at hl ⊢
  have hl : lv_has ls 2 [(0, .ref n_h), (1, .int p1)] := hl
  refine lv_aload_n hx hb dX2_changeTerm_0 rfl (lv_at hl 0 rfl) ?_
  have hPc := hP.sub (ws' := [(n_h, .inr (2, [.int n_n, .ref n_a1, .ref n_a2, .ref n_a3, .int x.1, .int x.2.1, .int x.2.2.1, .int x.2.2.2.1, .int x.2.2.2.2.1, .int x.2.2.2.2.2.1, .int x.2.2.2.2.2.2.1])), (n_a1, .inl (cI, 64, .inl x.2.2.2.2.2.2.2.1)), (n_a2, .inl (cI, 64, .inl x.2.2.2.2.2.2.2.2.1)), (n_a3, .inl (cI, 64, .inl x.2.2.2.2.2.2.2.2.2))]) [0, 1, 2, 3] rfl
  have hDc := hD.sub (ws' := [(n_h, .inr (2, [.int n_n, .ref n_a1, .ref n_a2, .ref n_a3, .int x.1, .int x.2.1, .int x.2.2.1, .int x.2.2.2.1, .int x.2.2.2.2.1, .int x.2.2.2.2.2.1, .int x.2.2.2.2.2.2.1])), (n_a1, .inl (cI, 64, .inl x.2.2.2.2.2.2.2.1)), (n_a2, .inl (cI, 64, .inl x.2.2.2.2.2.2.2.2.1)), (n_a3, .inl (cI, 64, .inl x.2.2.2.2.2.2.2.2.2))]) [0, 1, 2, 3] (by decide) rfl
  have hFc := va_free (wc := [(n_h, .inr (2, [.int n_n, .ref n_a1, .ref n_a2, .ref n_a3, .int x.1, .int x.2.1, .int x.2.2.1, .int x.2.2.2.1, .int x.2.2.2.2.1, .int x.2.2.2.2.2.1, .int x.2.2.2.2.2.2.1])), (n_a1, .inl (cI, 64, .inl x.2.2.2.2.2.2.2.1)), (n_a2, .inl (cI, 64, .inl x.2.2.2.2.2.2.2.2.1)), (n_a3, .inl (cI, 64, .inl x.2.2.2.2.2.2.2.2.2))]) hD hS hA [0, 1, 2, 3] rfl
  refine kc_Vi (As := []) (rest := []) (J := fun w => [] ++ w) ⟨hx, hb, hml, hown, hts⟩ (c_n_startWrite l dC dI cI cZ cM n_n n_h n_a1 n_a2 n_a3 s.heap.size x  ) (cwV 0 hts gX2_changeTerm_X2_startWrite rfl rfl rfl (by decide +kernel) ⟨Nat.le_of_ble_eq_true rfl, Nat.le_of_ble_eq_true rfl⟩) (va_recv hK hPc (ci := 2) (q0 := 0) rfl rfl) hK hPc hDc hFc hS (fun H1 w1 hk1 hP1 hD1 => va_join (wr := []) hP hD [0, 1, 2, 3] [] rfl rfl (by decide) (by decide) hk1 hFc hP1 hD1) rfl hl.1 rfl (Nat.le_of_ble_eq_true rfl) dX2_changeTerm_1 ⟨Nat.zero_le _, Nat.zero_le _⟩ (fun r1 u1 H locs hw1 hP hD hS => ?_)
  have hP : va_P (dC, dI) vwCl ([(n_h, .inr (2, [.int n_n, .ref n_a1, .ref n_a2, .ref n_a3, .int u1.1, .int u1.2.1, .int u1.2.2.1, .int u1.2.2.2.1, .int u1.2.2.2.2.1, .int u1.2.2.2.2.2.1, .int u1.2.2.2.2.2.2.1])), (n_a1, .inl (cI, 64, .inl u1.2.2.2.2.2.2.2.1)), (n_a2, .inl (cI, 64, .inl u1.2.2.2.2.2.2.2.2.1)), (n_a3, .inl (cI, 64, .inl u1.2.2.2.2.2.2.2.2.2))]) H := hP
  have hD : va_D A ([(n_h, .inr (2, [.int n_n, .ref n_a1, .ref n_a2, .ref n_a3, .int u1.1, .int u1.2.1, .int u1.2.2.1, .int u1.2.2.2.1, .int u1.2.2.2.2.1, .int u1.2.2.2.2.2.1, .int u1.2.2.2.2.2.2.1])), (n_a1, .inl (cI, 64, .inl u1.2.2.2.2.2.2.2.1)), (n_a2, .inl (cI, 64, .inl u1.2.2.2.2.2.2.2.2.1)), (n_a3, .inl (cI, 64, .inl u1.2.2.2.2.2.2.2.2.2))]) := hD
  refine lv_if_ne (tgt := 9) hx hb dX2_changeTerm_4 (by decide) (fun c2 => ?_) (fun c2 => ?_)
  · -- taken
    refine lv_aload_n hx hb dX2_changeTerm_9 rfl (lv_at hl 0 rfl) ?_
    refine lv_iload_n hx hb dX2_changeTerm_10 rfl (lv_at hl 1 rfl) ?_
    refine va_put (D := (dC, dI)) (ci := 2) (v := .int p1) (ty := .int) (C := RX2) (T := TX2) (N := 11) hx hb hts (fun _ h => List.mem_cons_of_mem _ (List.mem_append_right _ h)) tyX2 tyX2_ok nmX2 hown hK hP hD hS 0 rfl rfl 5 (by decide) (hts (.fieldLink RX2 15 "TwinLog$Node" "term" "I") (by decide +kernel)) (fun _ h9 => h9) rfl (by decide +kernel) rfl rfl (Nat.le_of_ble_eq_true rfl) dX2_changeTerm_11 (fun H locs hP hD hS => ?_)
    have hP : va_P (dC, dI) vwCl ([(n_h, .inr (2, [.int n_n, .ref n_a1, .ref n_a2, .ref n_a3, .int u1.1, .int p1, .int u1.2.2.1, .int u1.2.2.2.1, .int u1.2.2.2.2.1, .int u1.2.2.2.2.2.1, .int u1.2.2.2.2.2.2.1])), (n_a1, .inl (cI, 64, .inl u1.2.2.2.2.2.2.2.1)), (n_a2, .inl (cI, 64, .inl u1.2.2.2.2.2.2.2.2.1)), (n_a3, .inl (cI, 64, .inl u1.2.2.2.2.2.2.2.2.2))]) H := hP
    have hD : va_D A ([(n_h, .inr (2, [.int n_n, .ref n_a1, .ref n_a2, .ref n_a3, .int u1.1, .int p1, .int u1.2.2.1, .int u1.2.2.2.1, .int u1.2.2.2.2.1, .int u1.2.2.2.2.2.1, .int u1.2.2.2.2.2.2.1])), (n_a1, .inl (cI, 64, .inl u1.2.2.2.2.2.2.2.1)), (n_a2, .inl (cI, 64, .inl u1.2.2.2.2.2.2.2.2.1)), (n_a3, .inl (cI, 64, .inl u1.2.2.2.2.2.2.2.2.2))]) := hD
    refine lv_iconst (v := 1) hx hb dX2_changeTerm_14 (by decide) ?_
    have hP9 := hP
    have hD9 := hD
    have e9 : f_n_changeTerm x p1 = (1, (u1.1, p1, u1.2.2.1, u1.2.2.2.1, u1.2.2.2.2.1, u1.2.2.2.2.2.1, u1.2.2.2.2.2.2.1, u1.2.2.2.2.2.2.2.1, u1.2.2.2.2.2.2.2.2.1, u1.2.2.2.2.2.2.2.2.2)) := by simp only [f_n_changeTerm, ← hw1.1, ← hw1.2, if_neg c2]
    exact W.zret (v := 1) hx hb hr (by rfl) (fun t ht hW => ⟨⟨1, (u1.1, p1, u1.2.2.1, u1.2.2.2.1, u1.2.2.2.2.1, u1.2.2.2.2.2.1, u1.2.2.2.2.2.2.1, u1.2.2.2.2.2.2.2.1, u1.2.2.2.2.2.2.2.2.1, u1.2.2.2.2.2.2.2.2.2), rfl, ⟨by rw [e9], by rw [e9]⟩, by rw [ht]; exact hP9, va_K.moved hW.alike hK, hD9⟩, hS.F ht⟩) hS.2.2 dX2_changeTerm_15
  · -- not taken
    refine lv_iconst (v := 0) hx hb dX2_changeTerm_7 (by decide) ?_
    have hP9 := hP
    have hD9 := hD
    have e9 : f_n_changeTerm x p1 = (0, u1) := by simp only [f_n_changeTerm, ← hw1.1, ← hw1.2, if_pos c2]
    exact W.zret (v := 0) hx hb hr (by rfl) (fun t ht hW => ⟨⟨0, u1, rfl, ⟨by rw [e9], by rw [e9]⟩, by rw [ht]; exact hP9, va_K.moved hW.alike hK, hD9⟩, hS.F ht⟩) hS.2.2 dX2_changeTerm_8
def f_n_follow (x : Nd) (p1 : Int32) : Int32 × Nd :=
  let r1 := (f_n_changeTerm x p1).1; let u1 := (f_n_changeTerm x p1).2; if r1 = 0 then (0, u1) else (1, (u1.1, u1.2.1, u1.2.2.1, 0, u1.2.2.2.2.1, u1.2.2.2.2.2.1, u1.2.2.2.2.2.2.1, u1.2.2.2.2.2.2.2.1, u1.2.2.2.2.2.2.2.2.1, u1.2.2.2.2.2.2.2.2.2))
set_option maxHeartbeats 4000000 in
set_option maxRecDepth 100000 in
theorem c_n_follow (l : Launch) (dC : Nat → ClassId) (dI : Nat → Nat → Nat) (cI cZ cM : ClassId) (n_n : Int32) (n_h : Nat) (n_a1 : Nat) (n_a2 : Nat) (n_a3 : Nat) (sz : Nat) (x : Nd)  (p1 : Int32)  : Met l yX2_follow wsX2_follow ({ frames := 3, cells := 0, slots := 0, locals := 61 }) (va_Pc [.ref n_h, .int p1] (fun U => U.heap.size = sz ∧ va_P (dC, dI) vwCl ([(n_h, .inr (2, [.int n_n, .ref n_a1, .ref n_a2, .ref n_a3, .int x.1, .int x.2.1, .int x.2.2.1, .int x.2.2.2.1, .int x.2.2.2.2.1, .int x.2.2.2.2.2.1, .int x.2.2.2.2.2.2.1])), (n_a1, .inl (cI, 64, .inl x.2.2.2.2.2.2.2.1)), (n_a2, .inl (cI, 64, .inl x.2.2.2.2.2.2.2.2.1)), (n_a3, .inl (cI, 64, .inl x.2.2.2.2.2.2.2.2.2))]) U.heap ∧ va_K (dC, dI) vwCl [(cI, .int), (cZ, .boolean), (cM, .object RX1)] U ∧ va_D (fun _ => True) ([(n_h, .inr (2, [.int n_n, .ref n_a1, .ref n_a2, .ref n_a3, .int x.1, .int x.2.1, .int x.2.2.1, .int x.2.2.2.1, .int x.2.2.2.2.1, .int x.2.2.2.2.2.1, .int x.2.2.2.2.2.2.1])), (n_a1, .inl (cI, 64, .inl x.2.2.2.2.2.2.2.1)), (n_a2, .inl (cI, 64, .inl x.2.2.2.2.2.2.2.2.1)), (n_a3, .inl (cI, 64, .inl x.2.2.2.2.2.2.2.2.2))]))) (va_Qi (fun (r : Int32) (u : Nd) => r = (f_n_follow x p1).1 ∧ u = (f_n_follow x p1).2) (fun u t => va_P (dC, dI) vwCl ([(n_h, .inr (2, [.int n_n, .ref n_a1, .ref n_a2, .ref n_a3, .int u.1, .int u.2.1, .int u.2.2.1, .int u.2.2.2.1, .int u.2.2.2.2.1, .int u.2.2.2.2.2.1, .int u.2.2.2.2.2.2.1])), (n_a1, .inl (cI, 64, .inl u.2.2.2.2.2.2.2.1)), (n_a2, .inl (cI, 64, .inl u.2.2.2.2.2.2.2.2.1)), (n_a3, .inl (cI, 64, .inl u.2.2.2.2.2.2.2.2.2))]) t.heap ∧ va_K (dC, dI) vwCl [(cI, .int), (cZ, .boolean), (cM, .object RX1)] t ∧ va_D (va_A ([(n_h, .inr (2, [.int n_n, .ref n_a1, .ref n_a2, .ref n_a3, .int x.1, .int x.2.1, .int x.2.2.1, .int x.2.2.2.1, .int x.2.2.2.2.1, .int x.2.2.2.2.2.1, .int x.2.2.2.2.2.2.1])), (n_a1, .inl (cI, 64, .inl x.2.2.2.2.2.2.2.1)), (n_a2, .inl (cI, 64, .inl x.2.2.2.2.2.2.2.2.1)), (n_a3, .inl (cI, 64, .inl x.2.2.2.2.2.2.2.2.2))]) sz) ([(n_h, .inr (2, [.int n_n, .ref n_a1, .ref n_a2, .ref n_a3, .int u.1, .int u.2.1, .int u.2.2.1, .int u.2.2.2.1, .int u.2.2.2.2.1, .int u.2.2.2.2.2.1, .int u.2.2.2.2.2.2.1])), (n_a1, .inl (cI, 64, .inl u.2.2.2.2.2.2.2.1)), (n_a2, .inl (cI, 64, .inl u.2.2.2.2.2.2.2.2.1)), (n_a3, .inl (cI, 64, .inl u.2.2.2.2.2.2.2.2.2))])) (va_A ([(n_h, .inr (2, [.int n_n, .ref n_a1, .ref n_a2, .ref n_a3, .int x.1, .int x.2.1, .int x.2.2.1, .int x.2.2.2.1, .int x.2.2.2.2.1, .int x.2.2.2.2.2.1, .int x.2.2.2.2.2.2.1])), (n_a1, .inl (cI, 64, .inl x.2.2.2.2.2.2.2.1)), (n_a2, .inl (cI, 64, .inl x.2.2.2.2.2.2.2.2.1)), (n_a3, .inl (cI, 64, .inl x.2.2.2.2.2.2.2.2.2))]) sz)) 0 0 (va_A ([(n_h, .inr (2, [.int n_n, .ref n_a1, .ref n_a2, .ref n_a3, .int x.1, .int x.2.1, .int x.2.2.1, .int x.2.2.2.1, .int x.2.2.2.2.1, .int x.2.2.2.2.2.1, .int x.2.2.2.2.2.2.1])), (n_a1, .inl (cI, 64, .inl x.2.2.2.2.2.2.2.1)), (n_a2, .inl (cI, 64, .inl x.2.2.2.2.2.2.2.2.1)), (n_a3, .inl (cI, 64, .inl x.2.2.2.2.2.2.2.2.2))]) sz) := by
  refine Met.ofW (cc := cX2_follow) (maxL := 2) (ret := (some .boolean)) (by decide) rfl ?_
  intro p e s m args below meth c s₁ B hml hv
  obtain ⟨rfl, hsz, hP, hK, hD0⟩ := hv
  have hx := B.exec
  have hb := B.bytes
  have hr := B.returns
  have hts := atoms_spec (ws := wsX2_follow) B.pre
  have hown : s.vm.findClass RX2 = some m.cls := findClass_of_methodNamed B.named
  have hlocks := B.notSynchronized
  subst hsz
  have hD := hD0.self (sz := s.heap.size)
  generalize hAe : va_A ([(n_h, .inr (2, [.int n_n, .ref n_a1, .ref n_a2, .ref n_a3, .int x.1, .int x.2.1, .int x.2.2.1, .int x.2.2.2.1, .int x.2.2.2.2.1, .int x.2.2.2.2.2.1, .int x.2.2.2.2.2.2.1])), (n_a1, .inl (cI, 64, .inl x.2.2.2.2.2.2.2.1)), (n_a2, .inl (cI, 64, .inl x.2.2.2.2.2.2.2.2.1)), (n_a3, .inl (cI, 64, .inl x.2.2.2.2.2.2.2.2.2))]) s.heap.size = A at hD ⊢
  have hA : ∀ q : Nat, s.heap.size ≤ q → A q := fun q h => by rw [← hAe]; exact Or.inr h
  have hS : va_S A s.heap s.heap [] := va_S.rf
  have hP : va_P (dC, dI) vwCl ([(n_h, .inr (2, [.int n_n, .ref n_a1, .ref n_a2, .ref n_a3, .int x.1, .int x.2.1, .int x.2.2.1, .int x.2.2.2.1, .int x.2.2.2.2.1, .int x.2.2.2.2.2.1, .int x.2.2.2.2.2.2.1])), (n_a1, .inl (cI, 64, .inl x.2.2.2.2.2.2.2.1)), (n_a2, .inl (cI, 64, .inl x.2.2.2.2.2.2.2.2.1)), (n_a3, .inl (cI, 64, .inl x.2.2.2.2.2.2.2.2.2))]) s.heap := hP
  have hD : va_D A ([(n_h, .inr (2, [.int n_n, .ref n_a1, .ref n_a2, .ref n_a3, .int x.1, .int x.2.1, .int x.2.2.1, .int x.2.2.2.1, .int x.2.2.2.2.1, .int x.2.2.2.2.2.1, .int x.2.2.2.2.2.2.1])), (n_a1, .inl (cI, 64, .inl x.2.2.2.2.2.2.2.1)), (n_a2, .inl (cI, 64, .inl x.2.2.2.2.2.2.2.2.1)), (n_a3, .inl (cI, 64, .inl x.2.2.2.2.2.2.2.2.2))]) := hD
  have hl := lv_entry ([.ref n_h, .int p1]) (n := 2) (Nat.le_of_ble_eq_true rfl)
  rw [lg_entry_eq]
  generalize (lg_sl ([.ref n_h, .int p1]) ++ List.replicate (2 - (lg_sl ([.ref n_h, .int p1])).length) Slot.unset).toArray = ls at hl ⊢
  have hl : lv_has ls 2 [(0, .ref n_h), (1, .int p1)] := hl
  refine lv_aload_n hx hb dX2_follow_0 rfl (lv_at hl 0 rfl) ?_
  refine lv_iload_n hx hb dX2_follow_1 rfl (lv_at hl 1 rfl) ?_
  have hPc := hP.sub (ws' := [(n_h, .inr (2, [.int n_n, .ref n_a1, .ref n_a2, .ref n_a3, .int x.1, .int x.2.1, .int x.2.2.1, .int x.2.2.2.1, .int x.2.2.2.2.1, .int x.2.2.2.2.2.1, .int x.2.2.2.2.2.2.1])), (n_a1, .inl (cI, 64, .inl x.2.2.2.2.2.2.2.1)), (n_a2, .inl (cI, 64, .inl x.2.2.2.2.2.2.2.2.1)), (n_a3, .inl (cI, 64, .inl x.2.2.2.2.2.2.2.2.2))]) [0, 1, 2, 3] rfl
  have hDc := hD.sub (ws' := [(n_h, .inr (2, [.int n_n, .ref n_a1, .ref n_a2, .ref n_a3, .int x.1, .int x.2.1, .int x.2.2.1, .int x.2.2.2.1, .int x.2.2.2.2.1, .int x.2.2.2.2.2.1, .int x.2.2.2.2.2.2.1])), (n_a1, .inl (cI, 64, .inl x.2.2.2.2.2.2.2.1)), (n_a2, .inl (cI, 64, .inl x.2.2.2.2.2.2.2.2.1)), (n_a3, .inl (cI, 64, .inl x.2.2.2.2.2.2.2.2.2))]) [0, 1, 2, 3] (by decide) rfl
  have hFc := va_free (wc := [(n_h, .inr (2, [.int n_n, .ref n_a1, .ref n_a2, .ref n_a3, .int x.1, .int x.2.1, .int x.2.2.1, .int x.2.2.2.1, .int x.2.2.2.2.1, .int x.2.2.2.2.2.1, .int x.2.2.2.2.2.2.1])), (n_a1, .inl (cI, 64, .inl x.2.2.2.2.2.2.2.1)), (n_a2, .inl (cI, 64, .inl x.2.2.2.2.2.2.2.2.1)), (n_a3, .inl (cI, 64, .inl x.2.2.2.2.2.2.2.2.2))]) hD hS hA [0, 1, 2, 3] rfl
  refine kc_Vi (As := [.int p1]) (rest := []) (J := fun w => [] ++ w) ⟨hx, hb, hml, hown, hts⟩ (c_n_changeTerm l dC dI cI cZ cM n_n n_h n_a1 n_a2 n_a3 s.heap.size x p1 ) (cwV 1 hts gX2_follow_X2_changeTerm rfl rfl rfl (by decide +kernel) ⟨Nat.le_of_ble_eq_true rfl, Nat.le_of_ble_eq_true rfl⟩) (va_recv hK hPc (ci := 2) (q0 := 0) rfl rfl) hK hPc hDc hFc hS (fun H1 w1 hk1 hP1 hD1 => va_join (wr := []) hP hD [0, 1, 2, 3] [] rfl rfl (by decide) (by decide) hk1 hFc hP1 hD1) rfl hl.1 rfl (Nat.le_of_ble_eq_true rfl) dX2_follow_2 ⟨Nat.zero_le _, Nat.zero_le _⟩ (fun r1 u1 H locs hw1 hP hD hS => ?_)
  have hP : va_P (dC, dI) vwCl ([(n_h, .inr (2, [.int n_n, .ref n_a1, .ref n_a2, .ref n_a3, .int u1.1, .int u1.2.1, .int u1.2.2.1, .int u1.2.2.2.1, .int u1.2.2.2.2.1, .int u1.2.2.2.2.2.1, .int u1.2.2.2.2.2.2.1])), (n_a1, .inl (cI, 64, .inl u1.2.2.2.2.2.2.2.1)), (n_a2, .inl (cI, 64, .inl u1.2.2.2.2.2.2.2.2.1)), (n_a3, .inl (cI, 64, .inl u1.2.2.2.2.2.2.2.2.2))]) H := hP
  have hD : va_D A ([(n_h, .inr (2, [.int n_n, .ref n_a1, .ref n_a2, .ref n_a3, .int u1.1, .int u1.2.1, .int u1.2.2.1, .int u1.2.2.2.1, .int u1.2.2.2.2.1, .int u1.2.2.2.2.2.1, .int u1.2.2.2.2.2.2.1])), (n_a1, .inl (cI, 64, .inl u1.2.2.2.2.2.2.2.1)), (n_a2, .inl (cI, 64, .inl u1.2.2.2.2.2.2.2.2.1)), (n_a3, .inl (cI, 64, .inl u1.2.2.2.2.2.2.2.2.2))]) := hD
  refine lv_if_ne (tgt := 10) hx hb dX2_follow_5 (by decide) (fun c2 => ?_) (fun c2 => ?_)
  · -- taken
    refine lv_aload_n hx hb dX2_follow_10 rfl (lv_at hl 0 rfl) ?_
    refine lv_iconst (v := 0) hx hb dX2_follow_11 (by decide) ?_
    refine va_put (D := (dC, dI)) (ci := 2) (v := .int 0) (ty := .boolean) (C := RX2) (T := TX2) (N := 11) hx hb hts (fun _ h => List.mem_cons_of_mem _ (List.mem_append_right _ h)) tyX2 tyX2_ok nmX2 hown hK hP hD hS 0 rfl rfl 7 (by decide) (hts (.fieldLink RX2 18 "TwinLog$Node" "primary" "Z") (by decide +kernel)) (fun _ h9 => h9) rfl (by decide +kernel) rfl rfl (Nat.le_of_ble_eq_true rfl) dX2_follow_12 (fun H locs hP hD hS => ?_)
    have hP : va_P (dC, dI) vwCl ([(n_h, .inr (2, [.int n_n, .ref n_a1, .ref n_a2, .ref n_a3, .int u1.1, .int u1.2.1, .int u1.2.2.1, .int 0, .int u1.2.2.2.2.1, .int u1.2.2.2.2.2.1, .int u1.2.2.2.2.2.2.1])), (n_a1, .inl (cI, 64, .inl u1.2.2.2.2.2.2.2.1)), (n_a2, .inl (cI, 64, .inl u1.2.2.2.2.2.2.2.2.1)), (n_a3, .inl (cI, 64, .inl u1.2.2.2.2.2.2.2.2.2))]) H := hP
    have hD : va_D A ([(n_h, .inr (2, [.int n_n, .ref n_a1, .ref n_a2, .ref n_a3, .int u1.1, .int u1.2.1, .int u1.2.2.1, .int 0, .int u1.2.2.2.2.1, .int u1.2.2.2.2.2.1, .int u1.2.2.2.2.2.2.1])), (n_a1, .inl (cI, 64, .inl u1.2.2.2.2.2.2.2.1)), (n_a2, .inl (cI, 64, .inl u1.2.2.2.2.2.2.2.2.1)), (n_a3, .inl (cI, 64, .inl u1.2.2.2.2.2.2.2.2.2))]) := hD
    refine lv_iconst (v := 1) hx hb dX2_follow_15 (by decide) ?_
    have hP9 := hP
    have hD9 := hD
    have e9 : f_n_follow x p1 = (1, (u1.1, u1.2.1, u1.2.2.1, 0, u1.2.2.2.2.1, u1.2.2.2.2.2.1, u1.2.2.2.2.2.2.1, u1.2.2.2.2.2.2.2.1, u1.2.2.2.2.2.2.2.2.1, u1.2.2.2.2.2.2.2.2.2)) := by simp only [f_n_follow, ← hw1.1, ← hw1.2, if_neg c2]
    exact W.zret (v := 1) hx hb hr (by rfl) (fun t ht hW => ⟨⟨1, (u1.1, u1.2.1, u1.2.2.1, 0, u1.2.2.2.2.1, u1.2.2.2.2.2.1, u1.2.2.2.2.2.2.1, u1.2.2.2.2.2.2.2.1, u1.2.2.2.2.2.2.2.2.1, u1.2.2.2.2.2.2.2.2.2), rfl, ⟨by rw [e9], by rw [e9]⟩, by rw [ht]; exact hP9, va_K.moved hW.alike hK, hD9⟩, hS.F ht⟩) hS.2.2 dX2_follow_16
  · -- not taken
    refine lv_iconst (v := 0) hx hb dX2_follow_8 (by decide) ?_
    have hP9 := hP
    have hD9 := hD
    have e9 : f_n_follow x p1 = (0, u1) := by simp only [f_n_follow, ← hw1.1, ← hw1.2, if_pos c2]
    exact W.zret (v := 0) hx hb hr (by rfl) (fun t ht hW => ⟨⟨0, u1, rfl, ⟨by rw [e9], by rw [e9]⟩, by rw [ht]; exact hP9, va_K.moved hW.alike hK, hD9⟩, hS.F ht⟩) hS.2.2 dX2_follow_9
def f_n_nextOwnTerm (n_n : Int32) (x : Nd) : Int32 :=
  if ((x.2.1 + 1) - (x.2.1 + 1) / 2 * 2) = n_n then (x.2.1 + 1) else (x.2.1 + 2)
set_option maxHeartbeats 4000000 in
set_option maxRecDepth 100000 in
theorem c_n_nextOwnTerm (l : Launch) (dC : Nat → ClassId) (dI : Nat → Nat → Nat) (cI cZ cM : ClassId) (n_n : Int32) (n_h : Nat) (n_a1 : Nat) (n_a2 : Nat) (n_a3 : Nat) (sz : Nat) (x : Nd)    : Met l yX2_nextOwnTerm wsX2_nextOwnTerm ({ frames := 0, cells := 0, slots := 0, locals := 0 }) (va_Pc [.ref n_h] (fun U => U.heap.size = sz ∧ va_P (dC, dI) vwCl ([(n_h, .inr (2, [.int n_n, .ref n_a1, .ref n_a2, .ref n_a3, .int x.1, .int x.2.1, .int x.2.2.1, .int x.2.2.2.1, .int x.2.2.2.2.1, .int x.2.2.2.2.2.1, .int x.2.2.2.2.2.2.1])), (n_a1, .inl (cI, 64, .inl x.2.2.2.2.2.2.2.1)), (n_a2, .inl (cI, 64, .inl x.2.2.2.2.2.2.2.2.1)), (n_a3, .inl (cI, 64, .inl x.2.2.2.2.2.2.2.2.2))]) U.heap ∧ va_K (dC, dI) vwCl [(cI, .int), (cZ, .boolean), (cM, .object RX1)] U ∧ va_D (fun _ => True) ([(n_h, .inr (2, [.int n_n, .ref n_a1, .ref n_a2, .ref n_a3, .int x.1, .int x.2.1, .int x.2.2.1, .int x.2.2.2.1, .int x.2.2.2.2.1, .int x.2.2.2.2.2.1, .int x.2.2.2.2.2.2.1])), (n_a1, .inl (cI, 64, .inl x.2.2.2.2.2.2.2.1)), (n_a2, .inl (cI, 64, .inl x.2.2.2.2.2.2.2.2.1)), (n_a3, .inl (cI, 64, .inl x.2.2.2.2.2.2.2.2.2))]))) (va_Qi (fun (r : Int32) (_ : Unit) => r = f_n_nextOwnTerm n_n x) (fun _ t => va_P (dC, dI) vwCl ([(n_h, .inr (2, [.int n_n, .ref n_a1, .ref n_a2, .ref n_a3, .int x.1, .int x.2.1, .int x.2.2.1, .int x.2.2.2.1, .int x.2.2.2.2.1, .int x.2.2.2.2.2.1, .int x.2.2.2.2.2.2.1])), (n_a1, .inl (cI, 64, .inl x.2.2.2.2.2.2.2.1)), (n_a2, .inl (cI, 64, .inl x.2.2.2.2.2.2.2.2.1)), (n_a3, .inl (cI, 64, .inl x.2.2.2.2.2.2.2.2.2))]) t.heap ∧ va_K (dC, dI) vwCl [(cI, .int), (cZ, .boolean), (cM, .object RX1)] t ∧ va_D (va_A ([(n_h, .inr (2, [.int n_n, .ref n_a1, .ref n_a2, .ref n_a3, .int x.1, .int x.2.1, .int x.2.2.1, .int x.2.2.2.1, .int x.2.2.2.2.1, .int x.2.2.2.2.2.1, .int x.2.2.2.2.2.2.1])), (n_a1, .inl (cI, 64, .inl x.2.2.2.2.2.2.2.1)), (n_a2, .inl (cI, 64, .inl x.2.2.2.2.2.2.2.2.1)), (n_a3, .inl (cI, 64, .inl x.2.2.2.2.2.2.2.2.2))]) sz) ([(n_h, .inr (2, [.int n_n, .ref n_a1, .ref n_a2, .ref n_a3, .int x.1, .int x.2.1, .int x.2.2.1, .int x.2.2.2.1, .int x.2.2.2.2.1, .int x.2.2.2.2.2.1, .int x.2.2.2.2.2.2.1])), (n_a1, .inl (cI, 64, .inl x.2.2.2.2.2.2.2.1)), (n_a2, .inl (cI, 64, .inl x.2.2.2.2.2.2.2.2.1)), (n_a3, .inl (cI, 64, .inl x.2.2.2.2.2.2.2.2.2))])) (va_A ([(n_h, .inr (2, [.int n_n, .ref n_a1, .ref n_a2, .ref n_a3, .int x.1, .int x.2.1, .int x.2.2.1, .int x.2.2.2.1, .int x.2.2.2.2.1, .int x.2.2.2.2.2.1, .int x.2.2.2.2.2.2.1])), (n_a1, .inl (cI, 64, .inl x.2.2.2.2.2.2.2.1)), (n_a2, .inl (cI, 64, .inl x.2.2.2.2.2.2.2.2.1)), (n_a3, .inl (cI, 64, .inl x.2.2.2.2.2.2.2.2.2))]) sz)) 0 0 (va_A ([(n_h, .inr (2, [.int n_n, .ref n_a1, .ref n_a2, .ref n_a3, .int x.1, .int x.2.1, .int x.2.2.1, .int x.2.2.2.1, .int x.2.2.2.2.1, .int x.2.2.2.2.2.1, .int x.2.2.2.2.2.2.1])), (n_a1, .inl (cI, 64, .inl x.2.2.2.2.2.2.2.1)), (n_a2, .inl (cI, 64, .inl x.2.2.2.2.2.2.2.2.1)), (n_a3, .inl (cI, 64, .inl x.2.2.2.2.2.2.2.2.2))]) sz) := by
  refine Met.ofW (cc := cX2_nextOwnTerm) (maxL := 1) (ret := (some .int)) (by decide) rfl ?_
  intro p e s m args below meth c s₁ B hml hv
  obtain ⟨rfl, hsz, hP, hK, hD0⟩ := hv
  have hx := B.exec
  have hb := B.bytes
  have hr := B.returns
  have hts := atoms_spec (ws := wsX2_nextOwnTerm) B.pre
  have hown : s.vm.findClass RX2 = some m.cls := findClass_of_methodNamed B.named
  have hlocks := B.notSynchronized
  subst hsz
  have hD := hD0.self (sz := s.heap.size)
  generalize hAe : va_A ([(n_h, .inr (2, [.int n_n, .ref n_a1, .ref n_a2, .ref n_a3, .int x.1, .int x.2.1, .int x.2.2.1, .int x.2.2.2.1, .int x.2.2.2.2.1, .int x.2.2.2.2.2.1, .int x.2.2.2.2.2.2.1])), (n_a1, .inl (cI, 64, .inl x.2.2.2.2.2.2.2.1)), (n_a2, .inl (cI, 64, .inl x.2.2.2.2.2.2.2.2.1)), (n_a3, .inl (cI, 64, .inl x.2.2.2.2.2.2.2.2.2))]) s.heap.size = A at hD ⊢
  have hA : ∀ q : Nat, s.heap.size ≤ q → A q := fun q h => by rw [← hAe]; exact Or.inr h
  have hS : va_S A s.heap s.heap [] := va_S.rf
  have hP : va_P (dC, dI) vwCl ([(n_h, .inr (2, [.int n_n, .ref n_a1, .ref n_a2, .ref n_a3, .int x.1, .int x.2.1, .int x.2.2.1, .int x.2.2.2.1, .int x.2.2.2.2.1, .int x.2.2.2.2.2.1, .int x.2.2.2.2.2.2.1])), (n_a1, .inl (cI, 64, .inl x.2.2.2.2.2.2.2.1)), (n_a2, .inl (cI, 64, .inl x.2.2.2.2.2.2.2.2.1)), (n_a3, .inl (cI, 64, .inl x.2.2.2.2.2.2.2.2.2))]) s.heap := hP
  have hD : va_D A ([(n_h, .inr (2, [.int n_n, .ref n_a1, .ref n_a2, .ref n_a3, .int x.1, .int x.2.1, .int x.2.2.1, .int x.2.2.2.1, .int x.2.2.2.2.1, .int x.2.2.2.2.2.1, .int x.2.2.2.2.2.2.1])), (n_a1, .inl (cI, 64, .inl x.2.2.2.2.2.2.2.1)), (n_a2, .inl (cI, 64, .inl x.2.2.2.2.2.2.2.2.1)), (n_a3, .inl (cI, 64, .inl x.2.2.2.2.2.2.2.2.2))]) := hD
  have hl := lv_entry ([.ref n_h]) (n := 1) (Nat.le_of_ble_eq_true rfl)
  rw [lg_entry_eq]
  generalize (lg_sl ([.ref n_h]) ++ List.replicate (1 - (lg_sl ([.ref n_h])).length) Slot.unset).toArray = ls at hl ⊢
  have hl : lv_has ls 1 [(0, .ref n_h)] := hl
  refine lv_aload_n hx hb dX2_nextOwnTerm_0 rfl (lv_at hl 0 rfl) ?_
  refine va_get (D := (dC, dI)) (ci := 2) (v := (.int x.2.1)) (C := RX2) (T := TX2) (N := 11) hx hb hts (fun _ h => List.mem_cons_of_mem _ (List.mem_append_right _ h)) hown hK hP 0 rfl rfl 5 (by decide) (hts (.fieldLink RX2 15 "TwinLog$Node" "term" "I") (by decide +kernel)) (fun _ h9 => h9) rfl dX2_nextOwnTerm_1 ?_
  refine lv_iconst (v := 1) hx hb dX2_nextOwnTerm_4 (by decide) ?_
  refine lv_iadd hx hb dX2_nextOwnTerm_5 ?_
  refine lv_iconst (v := 2) hx hb dX2_nextOwnTerm_6 (by decide) ?_
  refine lv_irem hx hb dX2_nextOwnTerm_7 (by decide) ?_
  refine lv_aload_n hx hb dX2_nextOwnTerm_8 rfl (lv_at hl 0 rfl) ?_
  refine va_get (D := (dC, dI)) (ci := 2) (v := (.int n_n)) (C := RX2) (T := TX2) (N := 11) hx hb hts (fun _ h => List.mem_cons_of_mem _ (List.mem_append_right _ h)) hown hK hP 0 rfl rfl 0 (by decide) (hts (.fieldLink RX2 9 "TwinLog$Node" "number" "I") (by decide +kernel)) (fun _ h9 => h9) rfl dX2_nextOwnTerm_9 ?_
  refine lv_icmp_ne (tgt := 24) hx hb dX2_nextOwnTerm_12 (by decide) (fun c1 => ?_) (fun c1 => ?_)
  · -- taken
    refine lv_aload_n hx hb dX2_nextOwnTerm_24 rfl (lv_at hl 0 rfl) ?_
    refine va_get (D := (dC, dI)) (ci := 2) (v := (.int x.2.1)) (C := RX2) (T := TX2) (N := 11) hx hb hts (fun _ h => List.mem_cons_of_mem _ (List.mem_append_right _ h)) hown hK hP 0 rfl rfl 5 (by decide) (hts (.fieldLink RX2 15 "TwinLog$Node" "term" "I") (by decide +kernel)) (fun _ h9 => h9) rfl dX2_nextOwnTerm_25 ?_
    refine lv_iconst (v := 2) hx hb dX2_nextOwnTerm_28 (by decide) ?_
    refine lv_iadd hx hb dX2_nextOwnTerm_29 ?_
    have hP9 := hP
    have hD9 := hD
    have e9 : f_n_nextOwnTerm n_n x = (x.2.1 + 2) := by simp only [f_n_nextOwnTerm, if_neg c1]
    exact W.iret (v := (x.2.1 + 2)) hx hb hr (fun t ht hW => ⟨⟨(x.2.1 + 2), (), rfl, e9.symm, by rw [ht]; exact hP9, va_K.moved hW.alike hK, hD9⟩, hS.F ht⟩) hS.2.2 dX2_nextOwnTerm_30
  · -- not taken
    refine lv_aload_n hx hb dX2_nextOwnTerm_15 rfl (lv_at hl 0 rfl) ?_
    refine va_get (D := (dC, dI)) (ci := 2) (v := (.int x.2.1)) (C := RX2) (T := TX2) (N := 11) hx hb hts (fun _ h => List.mem_cons_of_mem _ (List.mem_append_right _ h)) hown hK hP 0 rfl rfl 5 (by decide) (hts (.fieldLink RX2 15 "TwinLog$Node" "term" "I") (by decide +kernel)) (fun _ h9 => h9) rfl dX2_nextOwnTerm_16 ?_
    refine lv_iconst (v := 1) hx hb dX2_nextOwnTerm_19 (by decide) ?_
    refine lv_iadd hx hb dX2_nextOwnTerm_20 ?_
    refine lv_goto (tgt := 30) hx hb dX2_nextOwnTerm_21 (by decide) ?_
    have hP9 := hP
    have hD9 := hD
    have e9 : f_n_nextOwnTerm n_n x = (x.2.1 + 1) := by simp only [f_n_nextOwnTerm, if_pos c1]
    exact W.iret (v := (x.2.1 + 1)) hx hb hr (fun t ht hW => ⟨⟨(x.2.1 + 1), (), rfl, e9.symm, by rw [ht]; exact hP9, va_K.moved hW.alike hK, hD9⟩, hS.F ht⟩) hS.2.2 dX2_nextOwnTerm_30
def f_n_hasEntry (x : Nd) (p1 : Int32) : Int32 :=
  if p1 < 0 then 0 else if x.1 ≤ p1 then 0 else 1
set_option maxHeartbeats 4000000 in
set_option maxRecDepth 100000 in
theorem c_n_hasEntry (l : Launch) (dC : Nat → ClassId) (dI : Nat → Nat → Nat) (cI cZ cM : ClassId) (n_n : Int32) (n_h : Nat) (n_a1 : Nat) (n_a2 : Nat) (n_a3 : Nat) (sz : Nat) (x : Nd)  (p1 : Int32)  : Met l yX2_hasEntry wsX2_hasEntry ({ frames := 0, cells := 0, slots := 0, locals := 0 }) (va_Pc [.ref n_h, .int p1] (fun U => U.heap.size = sz ∧ va_P (dC, dI) vwCl ([(n_h, .inr (2, [.int n_n, .ref n_a1, .ref n_a2, .ref n_a3, .int x.1, .int x.2.1, .int x.2.2.1, .int x.2.2.2.1, .int x.2.2.2.2.1, .int x.2.2.2.2.2.1, .int x.2.2.2.2.2.2.1])), (n_a1, .inl (cI, 64, .inl x.2.2.2.2.2.2.2.1)), (n_a2, .inl (cI, 64, .inl x.2.2.2.2.2.2.2.2.1)), (n_a3, .inl (cI, 64, .inl x.2.2.2.2.2.2.2.2.2))]) U.heap ∧ va_K (dC, dI) vwCl [(cI, .int), (cZ, .boolean), (cM, .object RX1)] U ∧ va_D (fun _ => True) ([(n_h, .inr (2, [.int n_n, .ref n_a1, .ref n_a2, .ref n_a3, .int x.1, .int x.2.1, .int x.2.2.1, .int x.2.2.2.1, .int x.2.2.2.2.1, .int x.2.2.2.2.2.1, .int x.2.2.2.2.2.2.1])), (n_a1, .inl (cI, 64, .inl x.2.2.2.2.2.2.2.1)), (n_a2, .inl (cI, 64, .inl x.2.2.2.2.2.2.2.2.1)), (n_a3, .inl (cI, 64, .inl x.2.2.2.2.2.2.2.2.2))]))) (va_Qi (fun (r : Int32) (_ : Unit) => r = f_n_hasEntry x p1) (fun _ t => va_P (dC, dI) vwCl ([(n_h, .inr (2, [.int n_n, .ref n_a1, .ref n_a2, .ref n_a3, .int x.1, .int x.2.1, .int x.2.2.1, .int x.2.2.2.1, .int x.2.2.2.2.1, .int x.2.2.2.2.2.1, .int x.2.2.2.2.2.2.1])), (n_a1, .inl (cI, 64, .inl x.2.2.2.2.2.2.2.1)), (n_a2, .inl (cI, 64, .inl x.2.2.2.2.2.2.2.2.1)), (n_a3, .inl (cI, 64, .inl x.2.2.2.2.2.2.2.2.2))]) t.heap ∧ va_K (dC, dI) vwCl [(cI, .int), (cZ, .boolean), (cM, .object RX1)] t ∧ va_D (va_A ([(n_h, .inr (2, [.int n_n, .ref n_a1, .ref n_a2, .ref n_a3, .int x.1, .int x.2.1, .int x.2.2.1, .int x.2.2.2.1, .int x.2.2.2.2.1, .int x.2.2.2.2.2.1, .int x.2.2.2.2.2.2.1])), (n_a1, .inl (cI, 64, .inl x.2.2.2.2.2.2.2.1)), (n_a2, .inl (cI, 64, .inl x.2.2.2.2.2.2.2.2.1)), (n_a3, .inl (cI, 64, .inl x.2.2.2.2.2.2.2.2.2))]) sz) ([(n_h, .inr (2, [.int n_n, .ref n_a1, .ref n_a2, .ref n_a3, .int x.1, .int x.2.1, .int x.2.2.1, .int x.2.2.2.1, .int x.2.2.2.2.1, .int x.2.2.2.2.2.1, .int x.2.2.2.2.2.2.1])), (n_a1, .inl (cI, 64, .inl x.2.2.2.2.2.2.2.1)), (n_a2, .inl (cI, 64, .inl x.2.2.2.2.2.2.2.2.1)), (n_a3, .inl (cI, 64, .inl x.2.2.2.2.2.2.2.2.2))])) (va_A ([(n_h, .inr (2, [.int n_n, .ref n_a1, .ref n_a2, .ref n_a3, .int x.1, .int x.2.1, .int x.2.2.1, .int x.2.2.2.1, .int x.2.2.2.2.1, .int x.2.2.2.2.2.1, .int x.2.2.2.2.2.2.1])), (n_a1, .inl (cI, 64, .inl x.2.2.2.2.2.2.2.1)), (n_a2, .inl (cI, 64, .inl x.2.2.2.2.2.2.2.2.1)), (n_a3, .inl (cI, 64, .inl x.2.2.2.2.2.2.2.2.2))]) sz)) 0 0 (va_A ([(n_h, .inr (2, [.int n_n, .ref n_a1, .ref n_a2, .ref n_a3, .int x.1, .int x.2.1, .int x.2.2.1, .int x.2.2.2.1, .int x.2.2.2.2.1, .int x.2.2.2.2.2.1, .int x.2.2.2.2.2.2.1])), (n_a1, .inl (cI, 64, .inl x.2.2.2.2.2.2.2.1)), (n_a2, .inl (cI, 64, .inl x.2.2.2.2.2.2.2.2.1)), (n_a3, .inl (cI, 64, .inl x.2.2.2.2.2.2.2.2.2))]) sz) := by
  refine Met.ofW (cc := cX2_hasEntry) (maxL := 2) (ret := (some .boolean)) (by decide) rfl ?_
  intro p e s m args below meth c s₁ B hml hv
  obtain ⟨rfl, hsz, hP, hK, hD0⟩ := hv
  have hx := B.exec
  have hb := B.bytes
  have hr := B.returns
  have hts := atoms_spec (ws := wsX2_hasEntry) B.pre
  have hown : s.vm.findClass RX2 = some m.cls := findClass_of_methodNamed B.named
  have hlocks := B.notSynchronized
  subst hsz
  have hD := hD0.self (sz := s.heap.size)
  generalize hAe : va_A ([(n_h, .inr (2, [.int n_n, .ref n_a1, .ref n_a2, .ref n_a3, .int x.1, .int x.2.1, .int x.2.2.1, .int x.2.2.2.1, .int x.2.2.2.2.1, .int x.2.2.2.2.2.1, .int x.2.2.2.2.2.2.1])), (n_a1, .inl (cI, 64, .inl x.2.2.2.2.2.2.2.1)), (n_a2, .inl (cI, 64, .inl x.2.2.2.2.2.2.2.2.1)), (n_a3, .inl (cI, 64, .inl x.2.2.2.2.2.2.2.2.2))]) s.heap.size = A at hD ⊢
  have hA : ∀ q : Nat, s.heap.size ≤ q → A q := fun q h => by rw [← hAe]; exact Or.inr h
  have hS : va_S A s.heap s.heap [] := va_S.rf
  have hP : va_P (dC, dI) vwCl ([(n_h, .inr (2, [.int n_n, .ref n_a1, .ref n_a2, .ref n_a3, .int x.1, .int x.2.1, .int x.2.2.1, .int x.2.2.2.1, .int x.2.2.2.2.1, .int x.2.2.2.2.2.1, .int x.2.2.2.2.2.2.1])), (n_a1, .inl (cI, 64, .inl x.2.2.2.2.2.2.2.1)), (n_a2, .inl (cI, 64, .inl x.2.2.2.2.2.2.2.2.1)), (n_a3, .inl (cI, 64, .inl x.2.2.2.2.2.2.2.2.2))]) s.heap := hP
  have hD : va_D A ([(n_h, .inr (2, [.int n_n, .ref n_a1, .ref n_a2, .ref n_a3, .int x.1, .int x.2.1, .int x.2.2.1, .int x.2.2.2.1, .int x.2.2.2.2.1, .int x.2.2.2.2.2.1, .int x.2.2.2.2.2.2.1])), (n_a1, .inl (cI, 64, .inl x.2.2.2.2.2.2.2.1)), (n_a2, .inl (cI, 64, .inl x.2.2.2.2.2.2.2.2.1)), (n_a3, .inl (cI, 64, .inl x.2.2.2.2.2.2.2.2.2))]) := hD
  have hl := lv_entry ([.ref n_h, .int p1]) (n := 2) (Nat.le_of_ble_eq_true rfl)
  rw [lg_entry_eq]
  generalize (lg_sl ([.ref n_h, .int p1]) ++ List.replicate (2 - (lg_sl ([.ref n_h, .int p1])).length) Slot.unset).toArray = ls at hl ⊢
  have hl : lv_has ls 2 [(0, .ref n_h), (1, .int p1)] := hl
  refine lv_iload_n hx hb dX2_hasEntry_0 rfl (lv_at hl 1 rfl) ?_
  refine lv_if_lt (tgt := 16) hx hb dX2_hasEntry_1 (by decide) (fun c1 => ?_) (fun c1 => ?_)
  · -- taken
    refine lv_iconst (v := 0) hx hb dX2_hasEntry_16 (by decide) ?_
    have hP9 := hP
    have hD9 := hD
    have e9 : f_n_hasEntry x p1 = 0 := by simp only [f_n_hasEntry, if_pos c1]
    exact W.zret (v := 0) hx hb hr (by rfl) (fun t ht hW => ⟨⟨0, (), rfl, e9.symm, by rw [ht]; exact hP9, va_K.moved hW.alike hK, hD9⟩, hS.F ht⟩) hS.2.2 dX2_hasEntry_17
  · -- not taken
    refine lv_iload_n hx hb dX2_hasEntry_4 rfl (lv_at hl 1 rfl) ?_
    refine lv_aload_n hx hb dX2_hasEntry_5 rfl (lv_at hl 0 rfl) ?_
    refine va_get (D := (dC, dI)) (ci := 2) (v := (.int x.1)) (C := RX2) (T := TX2) (N := 11) hx hb hts (fun _ h => List.mem_cons_of_mem _ (List.mem_append_right _ h)) hown hK hP 0 rfl rfl 4 (by decide) (hts (.fieldLink RX2 47 "TwinLog$Node" "length" "I") (by decide +kernel)) (fun _ h9 => h9) rfl dX2_hasEntry_6 ?_
    refine lv_icmp_ge (tgt := 16) hx hb dX2_hasEntry_9 (by decide) (fun c2 => ?_) (fun c2 => ?_)
    · -- taken
      refine lv_iconst (v := 0) hx hb dX2_hasEntry_16 (by decide) ?_
      have hP9 := hP
      have hD9 := hD
      have e9 : f_n_hasEntry x p1 = 0 := by simp only [f_n_hasEntry, if_neg c1, if_pos c2]
      exact W.zret (v := 0) hx hb hr (by rfl) (fun t ht hW => ⟨⟨0, (), rfl, e9.symm, by rw [ht]; exact hP9, va_K.moved hW.alike hK, hD9⟩, hS.F ht⟩) hS.2.2 dX2_hasEntry_17
    · -- not taken
      refine lv_iconst (v := 1) hx hb dX2_hasEntry_12 (by decide) ?_
      refine lv_goto (tgt := 17) hx hb dX2_hasEntry_13 (by decide) ?_
      have hP9 := hP
      have hD9 := hD
      have e9 : f_n_hasEntry x p1 = 1 := by simp only [f_n_hasEntry, if_neg c1, if_neg c2]
      exact W.zret (v := 1) hx hb hr (by rfl) (fun t ht hW => ⟨⟨1, (), rfl, e9.symm, by rw [ht]; exact hP9, va_K.moved hW.alike hK, hD9⟩, hS.F ht⟩) hS.2.2 dX2_hasEntry_17
theorem in_has {x : Nd} {i : Int32} (hi : NdOk x) (h : ¬ f_n_hasEntry x i = 0) : vp_in i 64 := by
  unfold f_n_hasEntry at h
  by_cases h0 : i < 0
  · rw [if_pos h0] at h; exact absurd rfl h
  · rw [if_neg h0] at h
    by_cases h1 : x.1 ≤ i
    · rw [if_pos h1] at h; exact absurd rfl h
    · exact vp_len (by decide) hi h0 h1
theorem sw_len (x : Nd) : (f_n_startWrite x).2.1 = x.1 := by
  unfold f_n_startWrite f_n_goDown
  split
  · rfl
  · split <;> rfl
theorem vp_app {x : Nd} {y : Int32} (hi : NdOk x) (h : ¬ 64 ≤ x.1) (e : y = x.1) : vp_in y 64 := by
  obtain ⟨k, hk, h1⟩ := hi
  rw [h1] at h e
  subst e
  have : k < 64 := by
    rcases Nat.lt_or_ge k 64 with q | q
    · exact q
    · exact absurd (show (64 : Int32) ≤ nI k from nI_le (a := 64) q (by omega)) h
  exact vp_in_nI this (by omega)
def f_n_append (x : Nd) (p1 : Int32) (p2 : Int32) (p3 : Int32) : Int32 × Nd :=
  if 64 ≤ x.1 then (0, x) else let r2 := (f_n_startWrite x).1; let u2 := (f_n_startWrite x).2; if r2 = 0 then (0, u2) else (1, ((u2.1 + 1), u2.2.1, u2.2.2.1, u2.2.2.2.1, u2.2.2.2.2.1, u2.2.2.2.2.2.1, u2.2.2.2.2.2.2.1, (upd u2.2.2.2.2.2.2.2.1 u2.1.toNatClampNeg p1), (upd u2.2.2.2.2.2.2.2.2.1 u2.1.toNatClampNeg p2), (upd u2.2.2.2.2.2.2.2.2.2 u2.1.toNatClampNeg p3)))
set_option maxHeartbeats 4000000 in
set_option maxRecDepth 100000 in
theorem c_n_append (l : Launch) (dC : Nat → ClassId) (dI : Nat → Nat → Nat) (cI cZ cM : ClassId) (n_n : Int32) (n_h : Nat) (n_a1 : Nat) (n_a2 : Nat) (n_a3 : Nat) (sz : Nat) (x : Nd)  (p1 : Int32) (p2 : Int32) (p3 : Int32) (hi : NdOk x) : Met l yX2_append wsX2_append ({ frames := 2, cells := 0, slots := 0, locals := 40 }) (va_Pc [.ref n_h, .int p1, .int p2, .int p3] (fun U => U.heap.size = sz ∧ va_P (dC, dI) vwCl ([(n_h, .inr (2, [.int n_n, .ref n_a1, .ref n_a2, .ref n_a3, .int x.1, .int x.2.1, .int x.2.2.1, .int x.2.2.2.1, .int x.2.2.2.2.1, .int x.2.2.2.2.2.1, .int x.2.2.2.2.2.2.1])), (n_a1, .inl (cI, 64, .inl x.2.2.2.2.2.2.2.1)), (n_a2, .inl (cI, 64, .inl x.2.2.2.2.2.2.2.2.1)), (n_a3, .inl (cI, 64, .inl x.2.2.2.2.2.2.2.2.2))]) U.heap ∧ va_K (dC, dI) vwCl [(cI, .int), (cZ, .boolean), (cM, .object RX1)] U ∧ va_D (fun _ => True) ([(n_h, .inr (2, [.int n_n, .ref n_a1, .ref n_a2, .ref n_a3, .int x.1, .int x.2.1, .int x.2.2.1, .int x.2.2.2.1, .int x.2.2.2.2.1, .int x.2.2.2.2.2.1, .int x.2.2.2.2.2.2.1])), (n_a1, .inl (cI, 64, .inl x.2.2.2.2.2.2.2.1)), (n_a2, .inl (cI, 64, .inl x.2.2.2.2.2.2.2.2.1)), (n_a3, .inl (cI, 64, .inl x.2.2.2.2.2.2.2.2.2))]))) (va_Qi (fun (r : Int32) (u : Nd) => r = (f_n_append x p1 p2 p3).1 ∧ u = (f_n_append x p1 p2 p3).2) (fun u t => va_P (dC, dI) vwCl ([(n_h, .inr (2, [.int n_n, .ref n_a1, .ref n_a2, .ref n_a3, .int u.1, .int u.2.1, .int u.2.2.1, .int u.2.2.2.1, .int u.2.2.2.2.1, .int u.2.2.2.2.2.1, .int u.2.2.2.2.2.2.1])), (n_a1, .inl (cI, 64, .inl u.2.2.2.2.2.2.2.1)), (n_a2, .inl (cI, 64, .inl u.2.2.2.2.2.2.2.2.1)), (n_a3, .inl (cI, 64, .inl u.2.2.2.2.2.2.2.2.2))]) t.heap ∧ va_K (dC, dI) vwCl [(cI, .int), (cZ, .boolean), (cM, .object RX1)] t ∧ va_D (va_A ([(n_h, .inr (2, [.int n_n, .ref n_a1, .ref n_a2, .ref n_a3, .int x.1, .int x.2.1, .int x.2.2.1, .int x.2.2.2.1, .int x.2.2.2.2.1, .int x.2.2.2.2.2.1, .int x.2.2.2.2.2.2.1])), (n_a1, .inl (cI, 64, .inl x.2.2.2.2.2.2.2.1)), (n_a2, .inl (cI, 64, .inl x.2.2.2.2.2.2.2.2.1)), (n_a3, .inl (cI, 64, .inl x.2.2.2.2.2.2.2.2.2))]) sz) ([(n_h, .inr (2, [.int n_n, .ref n_a1, .ref n_a2, .ref n_a3, .int u.1, .int u.2.1, .int u.2.2.1, .int u.2.2.2.1, .int u.2.2.2.2.1, .int u.2.2.2.2.2.1, .int u.2.2.2.2.2.2.1])), (n_a1, .inl (cI, 64, .inl u.2.2.2.2.2.2.2.1)), (n_a2, .inl (cI, 64, .inl u.2.2.2.2.2.2.2.2.1)), (n_a3, .inl (cI, 64, .inl u.2.2.2.2.2.2.2.2.2))])) (va_A ([(n_h, .inr (2, [.int n_n, .ref n_a1, .ref n_a2, .ref n_a3, .int x.1, .int x.2.1, .int x.2.2.1, .int x.2.2.2.1, .int x.2.2.2.2.1, .int x.2.2.2.2.2.1, .int x.2.2.2.2.2.2.1])), (n_a1, .inl (cI, 64, .inl x.2.2.2.2.2.2.2.1)), (n_a2, .inl (cI, 64, .inl x.2.2.2.2.2.2.2.2.1)), (n_a3, .inl (cI, 64, .inl x.2.2.2.2.2.2.2.2.2))]) sz)) 0 0 (va_A ([(n_h, .inr (2, [.int n_n, .ref n_a1, .ref n_a2, .ref n_a3, .int x.1, .int x.2.1, .int x.2.2.1, .int x.2.2.2.1, .int x.2.2.2.2.1, .int x.2.2.2.2.2.1, .int x.2.2.2.2.2.2.1])), (n_a1, .inl (cI, 64, .inl x.2.2.2.2.2.2.2.1)), (n_a2, .inl (cI, 64, .inl x.2.2.2.2.2.2.2.2.1)), (n_a3, .inl (cI, 64, .inl x.2.2.2.2.2.2.2.2.2))]) sz) := by
  refine Met.ofW (cc := cX2_append) (maxL := 4) (ret := (some .boolean)) (by decide) rfl ?_
  intro p e s m args below meth c s₁ B hml hv
  obtain ⟨rfl, hsz, hP, hK, hD0⟩ := hv
  have hx := B.exec
  have hb := B.bytes
  have hr := B.returns
  have hts := atoms_spec (ws := wsX2_append) B.pre
  have hown : s.vm.findClass RX2 = some m.cls := findClass_of_methodNamed B.named
  have hlocks := B.notSynchronized
  subst hsz
  have hD := hD0.self (sz := s.heap.size)
  generalize hAe : va_A ([(n_h, .inr (2, [.int n_n, .ref n_a1, .ref n_a2, .ref n_a3, .int x.1, .int x.2.1, .int x.2.2.1, .int x.2.2.2.1, .int x.2.2.2.2.1, .int x.2.2.2.2.2.1, .int x.2.2.2.2.2.2.1])), (n_a1, .inl (cI, 64, .inl x.2.2.2.2.2.2.2.1)), (n_a2, .inl (cI, 64, .inl x.2.2.2.2.2.2.2.2.1)), (n_a3, .inl (cI, 64, .inl x.2.2.2.2.2.2.2.2.2))]) s.heap.size = A at hD ⊢
  have hA : ∀ q : Nat, s.heap.size ≤ q → A q := fun q h => by rw [← hAe]; exact Or.inr h
  have hS : va_S A s.heap s.heap [] := va_S.rf
  have hP : va_P (dC, dI) vwCl ([(n_h, .inr (2, [.int n_n, .ref n_a1, .ref n_a2, .ref n_a3, .int x.1, .int x.2.1, .int x.2.2.1, .int x.2.2.2.1, .int x.2.2.2.2.1, .int x.2.2.2.2.2.1, .int x.2.2.2.2.2.2.1])), (n_a1, .inl (cI, 64, .inl x.2.2.2.2.2.2.2.1)), (n_a2, .inl (cI, 64, .inl x.2.2.2.2.2.2.2.2.1)), (n_a3, .inl (cI, 64, .inl x.2.2.2.2.2.2.2.2.2))]) s.heap := hP
  have hD : va_D A ([(n_h, .inr (2, [.int n_n, .ref n_a1, .ref n_a2, .ref n_a3, .int x.1, .int x.2.1, .int x.2.2.1, .int x.2.2.2.1, .int x.2.2.2.2.1, .int x.2.2.2.2.2.1, .int x.2.2.2.2.2.2.1])), (n_a1, .inl (cI, 64, .inl x.2.2.2.2.2.2.2.1)), (n_a2, .inl (cI, 64, .inl x.2.2.2.2.2.2.2.2.1)), (n_a3, .inl (cI, 64, .inl x.2.2.2.2.2.2.2.2.2))]) := hD
  have hl := lv_entry ([.ref n_h, .int p1, .int p2, .int p3]) (n := 4) (Nat.le_of_ble_eq_true rfl)
  rw [lg_entry_eq]
  generalize (lg_sl ([.ref n_h, .int p1, .int p2, .int p3]) ++ List.replicate (4 - (lg_sl ([.ref n_h, .int p1, .int p2, .int p3])).length) Slot.unset).toArray = ls at hl ⊢
  have hl : lv_has ls 4 [(0, .ref n_h), (1, .int p1), (2, .int p2), (3, .int p3)] := hl
  refine lv_aload_n hx hb dX2_append_0 rfl (lv_at hl 0 rfl) ?_
  refine va_get (D := (dC, dI)) (ci := 2) (v := (.int x.1)) (C := RX2) (T := TX2) (N := 11) hx hb hts (fun _ h => List.mem_cons_of_mem _ (List.mem_append_right _ h)) hown hK hP 0 rfl rfl 4 (by decide) (hts (.fieldLink RX2 47 "TwinLog$Node" "length" "I") (by decide +kernel)) (fun _ h9 => h9) rfl dX2_append_1 ?_
  refine lv_bipush (v := 64) hx hb dX2_append_4 (by decide) ?_
  refine lv_icmp_ge (tgt := 16) hx hb dX2_append_6 (by decide) (fun c1 => ?_) (fun c1 => ?_)
  · -- taken
    refine lv_iconst (v := 0) hx hb dX2_append_16 (by decide) ?_
    have hP9 := hP
    have hD9 := hD
    have e9 : f_n_append x p1 p2 p3 = (0, x) := by simp only [f_n_append, if_pos c1]
    exact W.zret (v := 0) hx hb hr (by rfl) (fun t ht hW => ⟨⟨0, x, rfl, ⟨by rw [e9], by rw [e9]⟩, by rw [ht]; exact hP9, va_K.moved hW.alike hK, hD9⟩, hS.F ht⟩) hS.2.2 dX2_append_17
  · -- not taken
    refine lv_aload_n hx hb dX2_append_9 rfl (lv_at hl 0 rfl) ?_
    have hPc := hP.sub (ws' := [(n_h, .inr (2, [.int n_n, .ref n_a1, .ref n_a2, .ref n_a3, .int x.1, .int x.2.1, .int x.2.2.1, .int x.2.2.2.1, .int x.2.2.2.2.1, .int x.2.2.2.2.2.1, .int x.2.2.2.2.2.2.1])), (n_a1, .inl (cI, 64, .inl x.2.2.2.2.2.2.2.1)), (n_a2, .inl (cI, 64, .inl x.2.2.2.2.2.2.2.2.1)), (n_a3, .inl (cI, 64, .inl x.2.2.2.2.2.2.2.2.2))]) [0, 1, 2, 3] rfl
    have hDc := hD.sub (ws' := [(n_h, .inr (2, [.int n_n, .ref n_a1, .ref n_a2, .ref n_a3, .int x.1, .int x.2.1, .int x.2.2.1, .int x.2.2.2.1, .int x.2.2.2.2.1, .int x.2.2.2.2.2.1, .int x.2.2.2.2.2.2.1])), (n_a1, .inl (cI, 64, .inl x.2.2.2.2.2.2.2.1)), (n_a2, .inl (cI, 64, .inl x.2.2.2.2.2.2.2.2.1)), (n_a3, .inl (cI, 64, .inl x.2.2.2.2.2.2.2.2.2))]) [0, 1, 2, 3] (by decide) rfl
    have hFc := va_free (wc := [(n_h, .inr (2, [.int n_n, .ref n_a1, .ref n_a2, .ref n_a3, .int x.1, .int x.2.1, .int x.2.2.1, .int x.2.2.2.1, .int x.2.2.2.2.1, .int x.2.2.2.2.2.1, .int x.2.2.2.2.2.2.1])), (n_a1, .inl (cI, 64, .inl x.2.2.2.2.2.2.2.1)), (n_a2, .inl (cI, 64, .inl x.2.2.2.2.2.2.2.2.1)), (n_a3, .inl (cI, 64, .inl x.2.2.2.2.2.2.2.2.2))]) hD hS hA [0, 1, 2, 3] rfl
    refine kc_Vi (As := []) (rest := []) (J := fun w => [] ++ w) ⟨hx, hb, hml, hown, hts⟩ (c_n_startWrite l dC dI cI cZ cM n_n n_h n_a1 n_a2 n_a3 s.heap.size x  ) (cwV 0 hts gX2_append_X2_startWrite rfl rfl rfl (by decide +kernel) ⟨Nat.le_of_ble_eq_true rfl, Nat.le_of_ble_eq_true rfl⟩) (va_recv hK hPc (ci := 2) (q0 := 0) rfl rfl) hK hPc hDc hFc hS (fun H1 w1 hk1 hP1 hD1 => va_join (wr := []) hP hD [0, 1, 2, 3] [] rfl rfl (by decide) (by decide) hk1 hFc hP1 hD1) rfl hl.1 rfl (Nat.le_of_ble_eq_true rfl) dX2_append_10 ⟨Nat.zero_le _, Nat.zero_le _⟩ (fun r2 u2 H locs hw2 hP hD hS => ?_)
    have hP : va_P (dC, dI) vwCl ([(n_h, .inr (2, [.int n_n, .ref n_a1, .ref n_a2, .ref n_a3, .int u2.1, .int u2.2.1, .int u2.2.2.1, .int u2.2.2.2.1, .int u2.2.2.2.2.1, .int u2.2.2.2.2.2.1, .int u2.2.2.2.2.2.2.1])), (n_a1, .inl (cI, 64, .inl u2.2.2.2.2.2.2.2.1)), (n_a2, .inl (cI, 64, .inl u2.2.2.2.2.2.2.2.2.1)), (n_a3, .inl (cI, 64, .inl u2.2.2.2.2.2.2.2.2.2))]) H := hP
    have hD : va_D A ([(n_h, .inr (2, [.int n_n, .ref n_a1, .ref n_a2, .ref n_a3, .int u2.1, .int u2.2.1, .int u2.2.2.1, .int u2.2.2.2.1, .int u2.2.2.2.2.1, .int u2.2.2.2.2.2.1, .int u2.2.2.2.2.2.2.1])), (n_a1, .inl (cI, 64, .inl u2.2.2.2.2.2.2.2.1)), (n_a2, .inl (cI, 64, .inl u2.2.2.2.2.2.2.2.2.1)), (n_a3, .inl (cI, 64, .inl u2.2.2.2.2.2.2.2.2.2))]) := hD
    refine lv_if_ne (tgt := 18) hx hb dX2_append_13 (by decide) (fun c3 => ?_) (fun c3 => ?_)
    · -- taken
      refine lv_aload_n hx hb dX2_append_18 rfl (lv_at hl 0 rfl) ?_
      refine va_get (D := (dC, dI)) (ci := 2) (v := (.ref n_a1)) (C := RX2) (T := TX2) (N := 11) hx hb hts (fun _ h => List.mem_cons_of_mem _ (List.mem_append_right _ h)) hown hK hP 0 rfl rfl 1 (by decide) (hts (.fieldLink RX2 22 "TwinLog$Node" "terms" "[I") (by decide +kernel)) (fun _ h9 => h9) rfl dX2_append_19 ?_
      refine lv_aload_n hx hb dX2_append_22 rfl (lv_at hl 0 rfl) ?_
      refine va_get (D := (dC, dI)) (ci := 2) (v := (.int u2.1)) (C := RX2) (T := TX2) (N := 11) hx hb hts (fun _ h => List.mem_cons_of_mem _ (List.mem_append_right _ h)) hown hK hP 0 rfl rfl 4 (by decide) (hts (.fieldLink RX2 47 "TwinLog$Node" "length" "I") (by decide +kernel)) (fun _ h9 => h9) rfl dX2_append_23 ?_
      refine lv_iload_n hx hb dX2_append_26 rfl (lv_at hl 1 rfl) ?_
      refine va_iast (D := (dC, dI)) hx hb hK hP hD hS 1 0 rfl rfl (vp_app hi c1 (by rw [hw2.2]; exact sw_len x)) dX2_append_27 (fun H locs hP hD hS => ?_)
      have hP : va_P (dC, dI) vwCl ([(n_h, .inr (2, [.int n_n, .ref n_a1, .ref n_a2, .ref n_a3, .int u2.1, .int u2.2.1, .int u2.2.2.1, .int u2.2.2.2.1, .int u2.2.2.2.2.1, .int u2.2.2.2.2.2.1, .int u2.2.2.2.2.2.2.1])), (n_a1, .inl (cI, 64, .inl (upd u2.2.2.2.2.2.2.2.1 u2.1.toNatClampNeg p1))), (n_a2, .inl (cI, 64, .inl u2.2.2.2.2.2.2.2.2.1)), (n_a3, .inl (cI, 64, .inl u2.2.2.2.2.2.2.2.2.2))]) H := hP
      have hD : va_D A ([(n_h, .inr (2, [.int n_n, .ref n_a1, .ref n_a2, .ref n_a3, .int u2.1, .int u2.2.1, .int u2.2.2.1, .int u2.2.2.2.1, .int u2.2.2.2.2.1, .int u2.2.2.2.2.2.1, .int u2.2.2.2.2.2.2.1])), (n_a1, .inl (cI, 64, .inl (upd u2.2.2.2.2.2.2.2.1 u2.1.toNatClampNeg p1))), (n_a2, .inl (cI, 64, .inl u2.2.2.2.2.2.2.2.2.1)), (n_a3, .inl (cI, 64, .inl u2.2.2.2.2.2.2.2.2.2))]) := hD
      refine lv_aload_n hx hb dX2_append_28 rfl (lv_at hl 0 rfl) ?_
      refine va_get (D := (dC, dI)) (ci := 2) (v := (.ref n_a2)) (C := RX2) (T := TX2) (N := 11) hx hb hts (fun _ h => List.mem_cons_of_mem _ (List.mem_append_right _ h)) hown hK hP 0 rfl rfl 2 (by decide) (hts (.fieldLink RX2 26 "TwinLog$Node" "keys" "[I") (by decide +kernel)) (fun _ h9 => h9) rfl dX2_append_29 ?_
      refine lv_aload_n hx hb dX2_append_32 rfl (lv_at hl 0 rfl) ?_
      refine va_get (D := (dC, dI)) (ci := 2) (v := (.int u2.1)) (C := RX2) (T := TX2) (N := 11) hx hb hts (fun _ h => List.mem_cons_of_mem _ (List.mem_append_right _ h)) hown hK hP 0 rfl rfl 4 (by decide) (hts (.fieldLink RX2 47 "TwinLog$Node" "length" "I") (by decide +kernel)) (fun _ h9 => h9) rfl dX2_append_33 ?_
      refine lv_iload_n hx hb dX2_append_36 rfl (lv_at hl 2 rfl) ?_
      refine va_iast (D := (dC, dI)) hx hb hK hP hD hS 2 0 rfl rfl (vp_app hi c1 (by rw [hw2.2]; exact sw_len x)) dX2_append_37 (fun H locs hP hD hS => ?_)
      have hP : va_P (dC, dI) vwCl ([(n_h, .inr (2, [.int n_n, .ref n_a1, .ref n_a2, .ref n_a3, .int u2.1, .int u2.2.1, .int u2.2.2.1, .int u2.2.2.2.1, .int u2.2.2.2.2.1, .int u2.2.2.2.2.2.1, .int u2.2.2.2.2.2.2.1])), (n_a1, .inl (cI, 64, .inl (upd u2.2.2.2.2.2.2.2.1 u2.1.toNatClampNeg p1))), (n_a2, .inl (cI, 64, .inl (upd u2.2.2.2.2.2.2.2.2.1 u2.1.toNatClampNeg p2))), (n_a3, .inl (cI, 64, .inl u2.2.2.2.2.2.2.2.2.2))]) H := hP
      have hD : va_D A ([(n_h, .inr (2, [.int n_n, .ref n_a1, .ref n_a2, .ref n_a3, .int u2.1, .int u2.2.1, .int u2.2.2.1, .int u2.2.2.2.1, .int u2.2.2.2.2.1, .int u2.2.2.2.2.2.1, .int u2.2.2.2.2.2.2.1])), (n_a1, .inl (cI, 64, .inl (upd u2.2.2.2.2.2.2.2.1 u2.1.toNatClampNeg p1))), (n_a2, .inl (cI, 64, .inl (upd u2.2.2.2.2.2.2.2.2.1 u2.1.toNatClampNeg p2))), (n_a3, .inl (cI, 64, .inl u2.2.2.2.2.2.2.2.2.2))]) := hD
      refine lv_aload_n hx hb dX2_append_38 rfl (lv_at hl 0 rfl) ?_
      refine va_get (D := (dC, dI)) (ci := 2) (v := (.ref n_a3)) (C := RX2) (T := TX2) (N := 11) hx hb hts (fun _ h => List.mem_cons_of_mem _ (List.mem_append_right _ h)) hown hK hP 0 rfl rfl 3 (by decide) (hts (.fieldLink RX2 29 "TwinLog$Node" "values" "[I") (by decide +kernel)) (fun _ h9 => h9) rfl dX2_append_39 ?_
      refine lv_aload_n hx hb dX2_append_42 rfl (lv_at hl 0 rfl) ?_
      refine va_get (D := (dC, dI)) (ci := 2) (v := (.int u2.1)) (C := RX2) (T := TX2) (N := 11) hx hb hts (fun _ h => List.mem_cons_of_mem _ (List.mem_append_right _ h)) hown hK hP 0 rfl rfl 4 (by decide) (hts (.fieldLink RX2 47 "TwinLog$Node" "length" "I") (by decide +kernel)) (fun _ h9 => h9) rfl dX2_append_43 ?_
      refine lv_iload_n hx hb dX2_append_46 rfl (lv_at hl 3 rfl) ?_
      refine va_iast (D := (dC, dI)) hx hb hK hP hD hS 3 0 rfl rfl (vp_app hi c1 (by rw [hw2.2]; exact sw_len x)) dX2_append_47 (fun H locs hP hD hS => ?_)
      have hP : va_P (dC, dI) vwCl ([(n_h, .inr (2, [.int n_n, .ref n_a1, .ref n_a2, .ref n_a3, .int u2.1, .int u2.2.1, .int u2.2.2.1, .int u2.2.2.2.1, .int u2.2.2.2.2.1, .int u2.2.2.2.2.2.1, .int u2.2.2.2.2.2.2.1])), (n_a1, .inl (cI, 64, .inl (upd u2.2.2.2.2.2.2.2.1 u2.1.toNatClampNeg p1))), (n_a2, .inl (cI, 64, .inl (upd u2.2.2.2.2.2.2.2.2.1 u2.1.toNatClampNeg p2))), (n_a3, .inl (cI, 64, .inl (upd u2.2.2.2.2.2.2.2.2.2 u2.1.toNatClampNeg p3)))]) H := hP
      have hD : va_D A ([(n_h, .inr (2, [.int n_n, .ref n_a1, .ref n_a2, .ref n_a3, .int u2.1, .int u2.2.1, .int u2.2.2.1, .int u2.2.2.2.1, .int u2.2.2.2.2.1, .int u2.2.2.2.2.2.1, .int u2.2.2.2.2.2.2.1])), (n_a1, .inl (cI, 64, .inl (upd u2.2.2.2.2.2.2.2.1 u2.1.toNatClampNeg p1))), (n_a2, .inl (cI, 64, .inl (upd u2.2.2.2.2.2.2.2.2.1 u2.1.toNatClampNeg p2))), (n_a3, .inl (cI, 64, .inl (upd u2.2.2.2.2.2.2.2.2.2 u2.1.toNatClampNeg p3)))]) := hD
      refine lv_aload_n hx hb dX2_append_48 rfl (lv_at hl 0 rfl) ?_
      refine lv_dup hx hb dX2_append_49 rfl ?_
      refine va_get (D := (dC, dI)) (ci := 2) (v := (.int u2.1)) (C := RX2) (T := TX2) (N := 11) hx hb hts (fun _ h => List.mem_cons_of_mem _ (List.mem_append_right _ h)) hown hK hP 0 rfl rfl 4 (by decide) (hts (.fieldLink RX2 47 "TwinLog$Node" "length" "I") (by decide +kernel)) (fun _ h9 => h9) rfl dX2_append_50 ?_
      refine lv_iconst (v := 1) hx hb dX2_append_53 (by decide) ?_
      refine lv_iadd hx hb dX2_append_54 ?_
      refine va_put (D := (dC, dI)) (ci := 2) (v := .int (u2.1 + 1)) (ty := .int) (C := RX2) (T := TX2) (N := 11) hx hb hts (fun _ h => List.mem_cons_of_mem _ (List.mem_append_right _ h)) tyX2 tyX2_ok nmX2 hown hK hP hD hS 0 rfl rfl 4 (by decide) (hts (.fieldLink RX2 47 "TwinLog$Node" "length" "I") (by decide +kernel)) (fun _ h9 => h9) rfl (by decide +kernel) rfl rfl (Nat.le_of_ble_eq_true rfl) dX2_append_55 (fun H locs hP hD hS => ?_)
      have hP : va_P (dC, dI) vwCl ([(n_h, .inr (2, [.int n_n, .ref n_a1, .ref n_a2, .ref n_a3, .int (u2.1 + 1), .int u2.2.1, .int u2.2.2.1, .int u2.2.2.2.1, .int u2.2.2.2.2.1, .int u2.2.2.2.2.2.1, .int u2.2.2.2.2.2.2.1])), (n_a1, .inl (cI, 64, .inl (upd u2.2.2.2.2.2.2.2.1 u2.1.toNatClampNeg p1))), (n_a2, .inl (cI, 64, .inl (upd u2.2.2.2.2.2.2.2.2.1 u2.1.toNatClampNeg p2))), (n_a3, .inl (cI, 64, .inl (upd u2.2.2.2.2.2.2.2.2.2 u2.1.toNatClampNeg p3)))]) H := hP
      have hD : va_D A ([(n_h, .inr (2, [.int n_n, .ref n_a1, .ref n_a2, .ref n_a3, .int (u2.1 + 1), .int u2.2.1, .int u2.2.2.1, .int u2.2.2.2.1, .int u2.2.2.2.2.1, .int u2.2.2.2.2.2.1, .int u2.2.2.2.2.2.2.1])), (n_a1, .inl (cI, 64, .inl (upd u2.2.2.2.2.2.2.2.1 u2.1.toNatClampNeg p1))), (n_a2, .inl (cI, 64, .inl (upd u2.2.2.2.2.2.2.2.2.1 u2.1.toNatClampNeg p2))), (n_a3, .inl (cI, 64, .inl (upd u2.2.2.2.2.2.2.2.2.2 u2.1.toNatClampNeg p3)))]) := hD
      refine lv_iconst (v := 1) hx hb dX2_append_58 (by decide) ?_
      have hP9 := hP
      have hD9 := hD
      have e9 : f_n_append x p1 p2 p3 = (1, ((u2.1 + 1), u2.2.1, u2.2.2.1, u2.2.2.2.1, u2.2.2.2.2.1, u2.2.2.2.2.2.1, u2.2.2.2.2.2.2.1, (upd u2.2.2.2.2.2.2.2.1 u2.1.toNatClampNeg p1), (upd u2.2.2.2.2.2.2.2.2.1 u2.1.toNatClampNeg p2), (upd u2.2.2.2.2.2.2.2.2.2 u2.1.toNatClampNeg p3))) := by simp only [f_n_append, if_neg c1, ← hw2.1, ← hw2.2, if_neg c3]
      exact W.zret (v := 1) hx hb hr (by rfl) (fun t ht hW => ⟨⟨1, ((u2.1 + 1), u2.2.1, u2.2.2.1, u2.2.2.2.1, u2.2.2.2.2.1, u2.2.2.2.2.2.1, u2.2.2.2.2.2.2.1, (upd u2.2.2.2.2.2.2.2.1 u2.1.toNatClampNeg p1), (upd u2.2.2.2.2.2.2.2.2.1 u2.1.toNatClampNeg p2), (upd u2.2.2.2.2.2.2.2.2.2 u2.1.toNatClampNeg p3)), rfl, ⟨by rw [e9], by rw [e9]⟩, by rw [ht]; exact hP9, va_K.moved hW.alike hK, hD9⟩, hS.F ht⟩) hS.2.2 dX2_append_59
    · -- not taken
      refine lv_iconst (v := 0) hx hb dX2_append_16 (by decide) ?_
      have hP9 := hP
      have hD9 := hD
      have e9 : f_n_append x p1 p2 p3 = (0, u2) := by simp only [f_n_append, if_neg c1, ← hw2.1, ← hw2.2, if_pos c3]
      exact W.zret (v := 0) hx hb hr (by rfl) (fun t ht hW => ⟨⟨0, u2, rfl, ⟨by rw [e9], by rw [e9]⟩, by rw [ht]; exact hP9, va_K.moved hW.alike hK, hD9⟩, hS.F ht⟩) hS.2.2 dX2_append_17
def f_n_hasEntryOfTerm (x : Nd) (p1 : Int32) (p2 : Int32) : Int32 :=
  let r1 := f_n_hasEntry x p1; if r1 = 0 then 0 else if (x.2.2.2.2.2.2.2.1 p1.toNatClampNeg) = p2 then 1 else 0
set_option maxHeartbeats 4000000 in
set_option maxRecDepth 100000 in
theorem c_n_hasEntryOfTerm (l : Launch) (dC : Nat → ClassId) (dI : Nat → Nat → Nat) (cI cZ cM : ClassId) (n_n : Int32) (n_h : Nat) (n_a1 : Nat) (n_a2 : Nat) (n_a3 : Nat) (sz : Nat) (x : Nd)  (p1 : Int32) (p2 : Int32) (hi : NdOk x) : Met l yX2_hasEntryOfTerm wsX2_hasEntryOfTerm ({ frames := 1, cells := 0, slots := 0, locals := 21 }) (va_Pc [.ref n_h, .int p1, .int p2] (fun U => U.heap.size = sz ∧ va_P (dC, dI) vwCl ([(n_h, .inr (2, [.int n_n, .ref n_a1, .ref n_a2, .ref n_a3, .int x.1, .int x.2.1, .int x.2.2.1, .int x.2.2.2.1, .int x.2.2.2.2.1, .int x.2.2.2.2.2.1, .int x.2.2.2.2.2.2.1])), (n_a1, .inl (cI, 64, .inl x.2.2.2.2.2.2.2.1)), (n_a2, .inl (cI, 64, .inl x.2.2.2.2.2.2.2.2.1)), (n_a3, .inl (cI, 64, .inl x.2.2.2.2.2.2.2.2.2))]) U.heap ∧ va_K (dC, dI) vwCl [(cI, .int), (cZ, .boolean), (cM, .object RX1)] U ∧ va_D (fun _ => True) ([(n_h, .inr (2, [.int n_n, .ref n_a1, .ref n_a2, .ref n_a3, .int x.1, .int x.2.1, .int x.2.2.1, .int x.2.2.2.1, .int x.2.2.2.2.1, .int x.2.2.2.2.2.1, .int x.2.2.2.2.2.2.1])), (n_a1, .inl (cI, 64, .inl x.2.2.2.2.2.2.2.1)), (n_a2, .inl (cI, 64, .inl x.2.2.2.2.2.2.2.2.1)), (n_a3, .inl (cI, 64, .inl x.2.2.2.2.2.2.2.2.2))]))) (va_Qi (fun (r : Int32) (_ : Unit) => r = f_n_hasEntryOfTerm x p1 p2) (fun _ t => va_P (dC, dI) vwCl ([(n_h, .inr (2, [.int n_n, .ref n_a1, .ref n_a2, .ref n_a3, .int x.1, .int x.2.1, .int x.2.2.1, .int x.2.2.2.1, .int x.2.2.2.2.1, .int x.2.2.2.2.2.1, .int x.2.2.2.2.2.2.1])), (n_a1, .inl (cI, 64, .inl x.2.2.2.2.2.2.2.1)), (n_a2, .inl (cI, 64, .inl x.2.2.2.2.2.2.2.2.1)), (n_a3, .inl (cI, 64, .inl x.2.2.2.2.2.2.2.2.2))]) t.heap ∧ va_K (dC, dI) vwCl [(cI, .int), (cZ, .boolean), (cM, .object RX1)] t ∧ va_D (va_A ([(n_h, .inr (2, [.int n_n, .ref n_a1, .ref n_a2, .ref n_a3, .int x.1, .int x.2.1, .int x.2.2.1, .int x.2.2.2.1, .int x.2.2.2.2.1, .int x.2.2.2.2.2.1, .int x.2.2.2.2.2.2.1])), (n_a1, .inl (cI, 64, .inl x.2.2.2.2.2.2.2.1)), (n_a2, .inl (cI, 64, .inl x.2.2.2.2.2.2.2.2.1)), (n_a3, .inl (cI, 64, .inl x.2.2.2.2.2.2.2.2.2))]) sz) ([(n_h, .inr (2, [.int n_n, .ref n_a1, .ref n_a2, .ref n_a3, .int x.1, .int x.2.1, .int x.2.2.1, .int x.2.2.2.1, .int x.2.2.2.2.1, .int x.2.2.2.2.2.1, .int x.2.2.2.2.2.2.1])), (n_a1, .inl (cI, 64, .inl x.2.2.2.2.2.2.2.1)), (n_a2, .inl (cI, 64, .inl x.2.2.2.2.2.2.2.2.1)), (n_a3, .inl (cI, 64, .inl x.2.2.2.2.2.2.2.2.2))])) (va_A ([(n_h, .inr (2, [.int n_n, .ref n_a1, .ref n_a2, .ref n_a3, .int x.1, .int x.2.1, .int x.2.2.1, .int x.2.2.2.1, .int x.2.2.2.2.1, .int x.2.2.2.2.2.1, .int x.2.2.2.2.2.2.1])), (n_a1, .inl (cI, 64, .inl x.2.2.2.2.2.2.2.1)), (n_a2, .inl (cI, 64, .inl x.2.2.2.2.2.2.2.2.1)), (n_a3, .inl (cI, 64, .inl x.2.2.2.2.2.2.2.2.2))]) sz)) 0 0 (va_A ([(n_h, .inr (2, [.int n_n, .ref n_a1, .ref n_a2, .ref n_a3, .int x.1, .int x.2.1, .int x.2.2.1, .int x.2.2.2.1, .int x.2.2.2.2.1, .int x.2.2.2.2.2.1, .int x.2.2.2.2.2.2.1])), (n_a1, .inl (cI, 64, .inl x.2.2.2.2.2.2.2.1)), (n_a2, .inl (cI, 64, .inl x.2.2.2.2.2.2.2.2.1)), (n_a3, .inl (cI, 64, .inl x.2.2.2.2.2.2.2.2.2))]) sz) := by
  refine Met.ofW (cc := cX2_hasEntryOfTerm) (maxL := 3) (ret := (some .boolean)) (by decide) rfl ?_
  intro p e s m args below meth c s₁ B hml hv
  obtain ⟨rfl, hsz, hP, hK, hD0⟩ := hv
  have hx := B.exec
  have hb := B.bytes
  have hr := B.returns
  have hts := atoms_spec (ws := wsX2_hasEntryOfTerm) B.pre
  have hown : s.vm.findClass RX2 = some m.cls := findClass_of_methodNamed B.named
  have hlocks := B.notSynchronized
  subst hsz
  have hD := hD0.self (sz := s.heap.size)
  generalize hAe : va_A ([(n_h, .inr (2, [.int n_n, .ref n_a1, .ref n_a2, .ref n_a3, .int x.1, .int x.2.1, .int x.2.2.1, .int x.2.2.2.1, .int x.2.2.2.2.1, .int x.2.2.2.2.2.1, .int x.2.2.2.2.2.2.1])), (n_a1, .inl (cI, 64, .inl x.2.2.2.2.2.2.2.1)), (n_a2, .inl (cI, 64, .inl x.2.2.2.2.2.2.2.2.1)), (n_a3, .inl (cI, 64, .inl x.2.2.2.2.2.2.2.2.2))]) s.heap.size = A at hD ⊢
  have hA : ∀ q : Nat, s.heap.size ≤ q → A q := fun q h => by rw [← hAe]; exact Or.inr h
  have hS : va_S A s.heap s.heap [] := va_S.rf
  have hP : va_P (dC, dI) vwCl ([(n_h, .inr (2, [.int n_n, .ref n_a1, .ref n_a2, .ref n_a3, .int x.1, .int x.2.1, .int x.2.2.1, .int x.2.2.2.1, .int x.2.2.2.2.1, .int x.2.2.2.2.2.1, .int x.2.2.2.2.2.2.1])), (n_a1, .inl (cI, 64, .inl x.2.2.2.2.2.2.2.1)), (n_a2, .inl (cI, 64, .inl x.2.2.2.2.2.2.2.2.1)), (n_a3, .inl (cI, 64, .inl x.2.2.2.2.2.2.2.2.2))]) s.heap := hP
  have hD : va_D A ([(n_h, .inr (2, [.int n_n, .ref n_a1, .ref n_a2, .ref n_a3, .int x.1, .int x.2.1, .int x.2.2.1, .int x.2.2.2.1, .int x.2.2.2.2.1, .int x.2.2.2.2.2.1, .int x.2.2.2.2.2.2.1])), (n_a1, .inl (cI, 64, .inl x.2.2.2.2.2.2.2.1)), (n_a2, .inl (cI, 64, .inl x.2.2.2.2.2.2.2.2.1)), (n_a3, .inl (cI, 64, .inl x.2.2.2.2.2.2.2.2.2))]) := hD
  have hl := lv_entry ([.ref n_h, .int p1, .int p2]) (n := 3) (Nat.le_of_ble_eq_true rfl)
  rw [lg_entry_eq]
  generalize (lg_sl ([.ref n_h, .int p1, .int p2]) ++ List.replicate (3 - (lg_sl ([.ref n_h, .int p1, .int p2])).length) Slot.unset).toArray = ls at hl ⊢
  have hl : lv_has ls 3 [(0, .ref n_h), (1, .int p1), (2, .int p2)] := hl
  refine lv_aload_n hx hb dX2_hasEntryOfTerm_0 rfl (lv_at hl 0 rfl) ?_
  refine lv_iload_n hx hb dX2_hasEntryOfTerm_1 rfl (lv_at hl 1 rfl) ?_
  have hPc := hP.sub (ws' := [(n_h, .inr (2, [.int n_n, .ref n_a1, .ref n_a2, .ref n_a3, .int x.1, .int x.2.1, .int x.2.2.1, .int x.2.2.2.1, .int x.2.2.2.2.1, .int x.2.2.2.2.2.1, .int x.2.2.2.2.2.2.1])), (n_a1, .inl (cI, 64, .inl x.2.2.2.2.2.2.2.1)), (n_a2, .inl (cI, 64, .inl x.2.2.2.2.2.2.2.2.1)), (n_a3, .inl (cI, 64, .inl x.2.2.2.2.2.2.2.2.2))]) [0, 1, 2, 3] rfl
  have hDc := hD.sub (ws' := [(n_h, .inr (2, [.int n_n, .ref n_a1, .ref n_a2, .ref n_a3, .int x.1, .int x.2.1, .int x.2.2.1, .int x.2.2.2.1, .int x.2.2.2.2.1, .int x.2.2.2.2.2.1, .int x.2.2.2.2.2.2.1])), (n_a1, .inl (cI, 64, .inl x.2.2.2.2.2.2.2.1)), (n_a2, .inl (cI, 64, .inl x.2.2.2.2.2.2.2.2.1)), (n_a3, .inl (cI, 64, .inl x.2.2.2.2.2.2.2.2.2))]) [0, 1, 2, 3] (by decide) rfl
  have hFc := va_free (wc := [(n_h, .inr (2, [.int n_n, .ref n_a1, .ref n_a2, .ref n_a3, .int x.1, .int x.2.1, .int x.2.2.1, .int x.2.2.2.1, .int x.2.2.2.2.1, .int x.2.2.2.2.2.1, .int x.2.2.2.2.2.2.1])), (n_a1, .inl (cI, 64, .inl x.2.2.2.2.2.2.2.1)), (n_a2, .inl (cI, 64, .inl x.2.2.2.2.2.2.2.2.1)), (n_a3, .inl (cI, 64, .inl x.2.2.2.2.2.2.2.2.2))]) hD hS hA [0, 1, 2, 3] rfl
  refine kc_Vi (As := [.int p1]) (rest := []) (J := fun w => [] ++ w) ⟨hx, hb, hml, hown, hts⟩ (c_n_hasEntry l dC dI cI cZ cM n_n n_h n_a1 n_a2 n_a3 s.heap.size x p1 ) (cwV 1 hts gX2_hasEntryOfTerm_X2_hasEntry rfl rfl rfl (by decide +kernel) ⟨Nat.le_of_ble_eq_true rfl, Nat.le_of_ble_eq_true rfl⟩) (va_recv hK hPc (ci := 2) (q0 := 0) rfl rfl) hK hPc hDc hFc hS (fun H1 w1 hk1 hP1 hD1 => va_join (wr := []) hP hD [0, 1, 2, 3] [] rfl rfl (by decide) (by decide) hk1 hFc hP1 hD1) rfl hl.1 rfl (Nat.le_of_ble_eq_true rfl) dX2_hasEntryOfTerm_2 ⟨Nat.zero_le _, Nat.zero_le _⟩ (fun r1 u1 H locs hw1 hP hD hS => ?_)
  have hP : va_P (dC, dI) vwCl ([(n_h, .inr (2, [.int n_n, .ref n_a1, .ref n_a2, .ref n_a3, .int x.1, .int x.2.1, .int x.2.2.1, .int x.2.2.2.1, .int x.2.2.2.2.1, .int x.2.2.2.2.2.1, .int x.2.2.2.2.2.2.1])), (n_a1, .inl (cI, 64, .inl x.2.2.2.2.2.2.2.1)), (n_a2, .inl (cI, 64, .inl x.2.2.2.2.2.2.2.2.1)), (n_a3, .inl (cI, 64, .inl x.2.2.2.2.2.2.2.2.2))]) H := hP
  have hD : va_D A ([(n_h, .inr (2, [.int n_n, .ref n_a1, .ref n_a2, .ref n_a3, .int x.1, .int x.2.1, .int x.2.2.1, .int x.2.2.2.1, .int x.2.2.2.2.1, .int x.2.2.2.2.2.1, .int x.2.2.2.2.2.2.1])), (n_a1, .inl (cI, 64, .inl x.2.2.2.2.2.2.2.1)), (n_a2, .inl (cI, 64, .inl x.2.2.2.2.2.2.2.2.1)), (n_a3, .inl (cI, 64, .inl x.2.2.2.2.2.2.2.2.2))]) := hD
  refine lv_if_eq (tgt := 22) hx hb dX2_hasEntryOfTerm_5 (by decide) (fun c2 => ?_) (fun c2 => ?_)
  · -- taken
    refine lv_iconst (v := 0) hx hb dX2_hasEntryOfTerm_22 (by decide) ?_
    have hP9 := hP
    have hD9 := hD
    have e9 : f_n_hasEntryOfTerm x p1 p2 = 0 := by simp only [f_n_hasEntryOfTerm, ← hw1, if_pos c2]
    exact W.zret (v := 0) hx hb hr (by rfl) (fun t ht hW => ⟨⟨0, (), rfl, e9.symm, by rw [ht]; exact hP9, va_K.moved hW.alike hK, hD9⟩, hS.F ht⟩) hS.2.2 dX2_hasEntryOfTerm_23
  · -- not taken
    refine lv_aload_n hx hb dX2_hasEntryOfTerm_8 rfl (lv_at hl 0 rfl) ?_
    refine va_get (D := (dC, dI)) (ci := 2) (v := (.ref n_a1)) (C := RX2) (T := TX2) (N := 11) hx hb hts (fun _ h => List.mem_cons_of_mem _ (List.mem_append_right _ h)) hown hK hP 0 rfl rfl 1 (by decide) (hts (.fieldLink RX2 22 "TwinLog$Node" "terms" "[I") (by decide +kernel)) (fun _ h9 => h9) rfl dX2_hasEntryOfTerm_9 ?_
    refine lv_iload_n hx hb dX2_hasEntryOfTerm_12 rfl (lv_at hl 1 rfl) ?_
    refine va_iald (D := (dC, dI)) hx hb hK hP 1 0 rfl rfl (in_has hi (fun q => c2 (hw1.trans q))) dX2_hasEntryOfTerm_13 ?_
    refine lv_iload_n hx hb dX2_hasEntryOfTerm_14 rfl (lv_at hl 2 rfl) ?_
    refine lv_icmp_ne (tgt := 22) hx hb dX2_hasEntryOfTerm_15 (by decide) (fun c3 => ?_) (fun c3 => ?_)
    · -- taken
      refine lv_iconst (v := 0) hx hb dX2_hasEntryOfTerm_22 (by decide) ?_
      have hP9 := hP
      have hD9 := hD
      have e9 : f_n_hasEntryOfTerm x p1 p2 = 0 := by simp only [f_n_hasEntryOfTerm, ← hw1, if_neg c2, if_neg c3]
      exact W.zret (v := 0) hx hb hr (by rfl) (fun t ht hW => ⟨⟨0, (), rfl, e9.symm, by rw [ht]; exact hP9, va_K.moved hW.alike hK, hD9⟩, hS.F ht⟩) hS.2.2 dX2_hasEntryOfTerm_23
    · -- not taken
      refine lv_iconst (v := 1) hx hb dX2_hasEntryOfTerm_18 (by decide) ?_
      refine lv_goto (tgt := 23) hx hb dX2_hasEntryOfTerm_19 (by decide) ?_
      have hP9 := hP
      have hD9 := hD
      have e9 : f_n_hasEntryOfTerm x p1 p2 = 1 := by simp only [f_n_hasEntryOfTerm, ← hw1, if_neg c2, if_pos c3]
      exact W.zret (v := 1) hx hb hr (by rfl) (fun t ht hW => ⟨⟨1, (), rfl, e9.symm, by rw [ht]; exact hP9, va_K.moved hW.alike hK, hD9⟩, hS.F ht⟩) hS.2.2 dX2_hasEntryOfTerm_23
theorem in_het {x : Nd} {i t : Int32} (hi : NdOk x) (h : ¬ f_n_hasEntryOfTerm x i t = 0) : vp_in i 64 := by
  unfold f_n_hasEntryOfTerm at h
  by_cases h0 : f_n_hasEntry x i = 0
  · simp only [if_pos h0] at h; exact absurd trivial h
  · exact in_has hi h0
def f_n_isEntry (x : Nd) (p1 : Int32) (p2 : Int32) (p3 : Int32) (p4 : Int32) : Int32 :=
  let r1 := f_n_hasEntryOfTerm x p1 p2; if r1 = 0 then 0 else if (x.2.2.2.2.2.2.2.2.1 p1.toNatClampNeg) = p3 then if (x.2.2.2.2.2.2.2.2.2 p1.toNatClampNeg) = p4 then 1 else 0 else 0
set_option maxHeartbeats 4000000 in
set_option maxRecDepth 100000 in
theorem c_n_isEntry (l : Launch) (dC : Nat → ClassId) (dI : Nat → Nat → Nat) (cI cZ cM : ClassId) (n_n : Int32) (n_h : Nat) (n_a1 : Nat) (n_a2 : Nat) (n_a3 : Nat) (sz : Nat) (x : Nd)  (p1 : Int32) (p2 : Int32) (p3 : Int32) (p4 : Int32) (hi : NdOk x) : Met l yX2_isEntry wsX2_isEntry ({ frames := 2, cells := 0, slots := 0, locals := 43 }) (va_Pc [.ref n_h, .int p1, .int p2, .int p3, .int p4] (fun U => U.heap.size = sz ∧ va_P (dC, dI) vwCl ([(n_h, .inr (2, [.int n_n, .ref n_a1, .ref n_a2, .ref n_a3, .int x.1, .int x.2.1, .int x.2.2.1, .int x.2.2.2.1, .int x.2.2.2.2.1, .int x.2.2.2.2.2.1, .int x.2.2.2.2.2.2.1])), (n_a1, .inl (cI, 64, .inl x.2.2.2.2.2.2.2.1)), (n_a2, .inl (cI, 64, .inl x.2.2.2.2.2.2.2.2.1)), (n_a3, .inl (cI, 64, .inl x.2.2.2.2.2.2.2.2.2))]) U.heap ∧ va_K (dC, dI) vwCl [(cI, .int), (cZ, .boolean), (cM, .object RX1)] U ∧ va_D (fun _ => True) ([(n_h, .inr (2, [.int n_n, .ref n_a1, .ref n_a2, .ref n_a3, .int x.1, .int x.2.1, .int x.2.2.1, .int x.2.2.2.1, .int x.2.2.2.2.1, .int x.2.2.2.2.2.1, .int x.2.2.2.2.2.2.1])), (n_a1, .inl (cI, 64, .inl x.2.2.2.2.2.2.2.1)), (n_a2, .inl (cI, 64, .inl x.2.2.2.2.2.2.2.2.1)), (n_a3, .inl (cI, 64, .inl x.2.2.2.2.2.2.2.2.2))]))) (va_Qi (fun (r : Int32) (_ : Unit) => r = f_n_isEntry x p1 p2 p3 p4) (fun _ t => va_P (dC, dI) vwCl ([(n_h, .inr (2, [.int n_n, .ref n_a1, .ref n_a2, .ref n_a3, .int x.1, .int x.2.1, .int x.2.2.1, .int x.2.2.2.1, .int x.2.2.2.2.1, .int x.2.2.2.2.2.1, .int x.2.2.2.2.2.2.1])), (n_a1, .inl (cI, 64, .inl x.2.2.2.2.2.2.2.1)), (n_a2, .inl (cI, 64, .inl x.2.2.2.2.2.2.2.2.1)), (n_a3, .inl (cI, 64, .inl x.2.2.2.2.2.2.2.2.2))]) t.heap ∧ va_K (dC, dI) vwCl [(cI, .int), (cZ, .boolean), (cM, .object RX1)] t ∧ va_D (va_A ([(n_h, .inr (2, [.int n_n, .ref n_a1, .ref n_a2, .ref n_a3, .int x.1, .int x.2.1, .int x.2.2.1, .int x.2.2.2.1, .int x.2.2.2.2.1, .int x.2.2.2.2.2.1, .int x.2.2.2.2.2.2.1])), (n_a1, .inl (cI, 64, .inl x.2.2.2.2.2.2.2.1)), (n_a2, .inl (cI, 64, .inl x.2.2.2.2.2.2.2.2.1)), (n_a3, .inl (cI, 64, .inl x.2.2.2.2.2.2.2.2.2))]) sz) ([(n_h, .inr (2, [.int n_n, .ref n_a1, .ref n_a2, .ref n_a3, .int x.1, .int x.2.1, .int x.2.2.1, .int x.2.2.2.1, .int x.2.2.2.2.1, .int x.2.2.2.2.2.1, .int x.2.2.2.2.2.2.1])), (n_a1, .inl (cI, 64, .inl x.2.2.2.2.2.2.2.1)), (n_a2, .inl (cI, 64, .inl x.2.2.2.2.2.2.2.2.1)), (n_a3, .inl (cI, 64, .inl x.2.2.2.2.2.2.2.2.2))])) (va_A ([(n_h, .inr (2, [.int n_n, .ref n_a1, .ref n_a2, .ref n_a3, .int x.1, .int x.2.1, .int x.2.2.1, .int x.2.2.2.1, .int x.2.2.2.2.1, .int x.2.2.2.2.2.1, .int x.2.2.2.2.2.2.1])), (n_a1, .inl (cI, 64, .inl x.2.2.2.2.2.2.2.1)), (n_a2, .inl (cI, 64, .inl x.2.2.2.2.2.2.2.2.1)), (n_a3, .inl (cI, 64, .inl x.2.2.2.2.2.2.2.2.2))]) sz)) 0 0 (va_A ([(n_h, .inr (2, [.int n_n, .ref n_a1, .ref n_a2, .ref n_a3, .int x.1, .int x.2.1, .int x.2.2.1, .int x.2.2.2.1, .int x.2.2.2.2.1, .int x.2.2.2.2.2.1, .int x.2.2.2.2.2.2.1])), (n_a1, .inl (cI, 64, .inl x.2.2.2.2.2.2.2.1)), (n_a2, .inl (cI, 64, .inl x.2.2.2.2.2.2.2.2.1)), (n_a3, .inl (cI, 64, .inl x.2.2.2.2.2.2.2.2.2))]) sz) := by
  refine Met.ofW (cc := cX2_isEntry) (maxL := 5) (ret := (some .boolean)) (by decide) rfl ?_
  intro p e s m args below meth c s₁ B hml hv
  obtain ⟨rfl, hsz, hP, hK, hD0⟩ := hv
  have hx := B.exec
  have hb := B.bytes
  have hr := B.returns
  have hts := atoms_spec (ws := wsX2_isEntry) B.pre
  have hown : s.vm.findClass RX2 = some m.cls := findClass_of_methodNamed B.named
  have hlocks := B.notSynchronized
  subst hsz
  have hD := hD0.self (sz := s.heap.size)
  generalize hAe : va_A ([(n_h, .inr (2, [.int n_n, .ref n_a1, .ref n_a2, .ref n_a3, .int x.1, .int x.2.1, .int x.2.2.1, .int x.2.2.2.1, .int x.2.2.2.2.1, .int x.2.2.2.2.2.1, .int x.2.2.2.2.2.2.1])), (n_a1, .inl (cI, 64, .inl x.2.2.2.2.2.2.2.1)), (n_a2, .inl (cI, 64, .inl x.2.2.2.2.2.2.2.2.1)), (n_a3, .inl (cI, 64, .inl x.2.2.2.2.2.2.2.2.2))]) s.heap.size = A at hD ⊢
  have hA : ∀ q : Nat, s.heap.size ≤ q → A q := fun q h => by rw [← hAe]; exact Or.inr h
  have hS : va_S A s.heap s.heap [] := va_S.rf
  have hP : va_P (dC, dI) vwCl ([(n_h, .inr (2, [.int n_n, .ref n_a1, .ref n_a2, .ref n_a3, .int x.1, .int x.2.1, .int x.2.2.1, .int x.2.2.2.1, .int x.2.2.2.2.1, .int x.2.2.2.2.2.1, .int x.2.2.2.2.2.2.1])), (n_a1, .inl (cI, 64, .inl x.2.2.2.2.2.2.2.1)), (n_a2, .inl (cI, 64, .inl x.2.2.2.2.2.2.2.2.1)), (n_a3, .inl (cI, 64, .inl x.2.2.2.2.2.2.2.2.2))]) s.heap := hP
  have hD : va_D A ([(n_h, .inr (2, [.int n_n, .ref n_a1, .ref n_a2, .ref n_a3, .int x.1, .int x.2.1, .int x.2.2.1, .int x.2.2.2.1, .int x.2.2.2.2.1, .int x.2.2.2.2.2.1, .int x.2.2.2.2.2.2.1])), (n_a1, .inl (cI, 64, .inl x.2.2.2.2.2.2.2.1)), (n_a2, .inl (cI, 64, .inl x.2.2.2.2.2.2.2.2.1)), (n_a3, .inl (cI, 64, .inl x.2.2.2.2.2.2.2.2.2))]) := hD
  have hl := lv_entry ([.ref n_h, .int p1, .int p2, .int p3, .int p4]) (n := 5) (Nat.le_of_ble_eq_true rfl)
  rw [lg_entry_eq]
  generalize (lg_sl ([.ref n_h, .int p1, .int p2, .int p3, .int p4]) ++ List.replicate (5 - (lg_sl ([.ref n_h, .int p1, .int p2, .int p3, .int p4])).length) Slot.unset).toArray = ls at hl ⊢
  have hl : lv_has ls 5 [(0, .ref n_h), (1, .int p1), (2, .int p2), (3, .int p3), (4, .int p4)] := hl
  refine lv_aload_n hx hb dX2_isEntry_0 rfl (lv_at hl 0 rfl) ?_
  refine lv_iload_n hx hb dX2_isEntry_1 rfl (lv_at hl 1 rfl) ?_
  refine lv_iload_n hx hb dX2_isEntry_2 rfl (lv_at hl 2 rfl) ?_
  have hPc := hP.sub (ws' := [(n_h, .inr (2, [.int n_n, .ref n_a1, .ref n_a2, .ref n_a3, .int x.1, .int x.2.1, .int x.2.2.1, .int x.2.2.2.1, .int x.2.2.2.2.1, .int x.2.2.2.2.2.1, .int x.2.2.2.2.2.2.1])), (n_a1, .inl (cI, 64, .inl x.2.2.2.2.2.2.2.1)), (n_a2, .inl (cI, 64, .inl x.2.2.2.2.2.2.2.2.1)), (n_a3, .inl (cI, 64, .inl x.2.2.2.2.2.2.2.2.2))]) [0, 1, 2, 3] rfl
  have hDc := hD.sub (ws' := [(n_h, .inr (2, [.int n_n, .ref n_a1, .ref n_a2, .ref n_a3, .int x.1, .int x.2.1, .int x.2.2.1, .int x.2.2.2.1, .int x.2.2.2.2.1, .int x.2.2.2.2.2.1, .int x.2.2.2.2.2.2.1])), (n_a1, .inl (cI, 64, .inl x.2.2.2.2.2.2.2.1)), (n_a2, .inl (cI, 64, .inl x.2.2.2.2.2.2.2.2.1)), (n_a3, .inl (cI, 64, .inl x.2.2.2.2.2.2.2.2.2))]) [0, 1, 2, 3] (by decide) rfl
  have hFc := va_free (wc := [(n_h, .inr (2, [.int n_n, .ref n_a1, .ref n_a2, .ref n_a3, .int x.1, .int x.2.1, .int x.2.2.1, .int x.2.2.2.1, .int x.2.2.2.2.1, .int x.2.2.2.2.2.1, .int x.2.2.2.2.2.2.1])), (n_a1, .inl (cI, 64, .inl x.2.2.2.2.2.2.2.1)), (n_a2, .inl (cI, 64, .inl x.2.2.2.2.2.2.2.2.1)), (n_a3, .inl (cI, 64, .inl x.2.2.2.2.2.2.2.2.2))]) hD hS hA [0, 1, 2, 3] rfl
  refine kc_Vi (As := [.int p1, .int p2]) (rest := []) (J := fun w => [] ++ w) ⟨hx, hb, hml, hown, hts⟩ (c_n_hasEntryOfTerm l dC dI cI cZ cM n_n n_h n_a1 n_a2 n_a3 s.heap.size x p1 p2 (hi)) (cwV 2 hts gX2_isEntry_X2_hasEntryOfTerm rfl rfl rfl (by decide +kernel) ⟨Nat.le_of_ble_eq_true rfl, Nat.le_of_ble_eq_true rfl⟩) (va_recv hK hPc (ci := 2) (q0 := 0) rfl rfl) hK hPc hDc hFc hS (fun H1 w1 hk1 hP1 hD1 => va_join (wr := []) hP hD [0, 1, 2, 3] [] rfl rfl (by decide) (by decide) hk1 hFc hP1 hD1) rfl hl.1 rfl (Nat.le_of_ble_eq_true rfl) dX2_isEntry_3 ⟨Nat.zero_le _, Nat.zero_le _⟩ (fun r1 u1 H locs hw1 hP hD hS => ?_)
  have hP : va_P (dC, dI) vwCl ([(n_h, .inr (2, [.int n_n, .ref n_a1, .ref n_a2, .ref n_a3, .int x.1, .int x.2.1, .int x.2.2.1, .int x.2.2.2.1, .int x.2.2.2.2.1, .int x.2.2.2.2.2.1, .int x.2.2.2.2.2.2.1])), (n_a1, .inl (cI, 64, .inl x.2.2.2.2.2.2.2.1)), (n_a2, .inl (cI, 64, .inl x.2.2.2.2.2.2.2.2.1)), (n_a3, .inl (cI, 64, .inl x.2.2.2.2.2.2.2.2.2))]) H := hP
  have hD : va_D A ([(n_h, .inr (2, [.int n_n, .ref n_a1, .ref n_a2, .ref n_a3, .int x.1, .int x.2.1, .int x.2.2.1, .int x.2.2.2.1, .int x.2.2.2.2.1, .int x.2.2.2.2.2.1, .int x.2.2.2.2.2.2.1])), (n_a1, .inl (cI, 64, .inl x.2.2.2.2.2.2.2.1)), (n_a2, .inl (cI, 64, .inl x.2.2.2.2.2.2.2.2.1)), (n_a3, .inl (cI, 64, .inl x.2.2.2.2.2.2.2.2.2))]) := hD
  refine lv_if_eq (tgt := 34) hx hb dX2_isEntry_6 (by decide) (fun c2 => ?_) (fun c2 => ?_)
  · -- taken
    refine lv_iconst (v := 0) hx hb dX2_isEntry_34 (by decide) ?_
    have hP9 := hP
    have hD9 := hD
    have e9 : f_n_isEntry x p1 p2 p3 p4 = 0 := by simp only [f_n_isEntry, ← hw1, if_pos c2]
    exact W.zret (v := 0) hx hb hr (by rfl) (fun t ht hW => ⟨⟨0, (), rfl, e9.symm, by rw [ht]; exact hP9, va_K.moved hW.alike hK, hD9⟩, hS.F ht⟩) hS.2.2 dX2_isEntry_35
  · -- not taken
    refine lv_aload_n hx hb dX2_isEntry_9 rfl (lv_at hl 0 rfl) ?_
    refine va_get (D := (dC, dI)) (ci := 2) (v := (.ref n_a2)) (C := RX2) (T := TX2) (N := 11) hx hb hts (fun _ h => List.mem_cons_of_mem _ (List.mem_append_right _ h)) hown hK hP 0 rfl rfl 2 (by decide) (hts (.fieldLink RX2 26 "TwinLog$Node" "keys" "[I") (by decide +kernel)) (fun _ h9 => h9) rfl dX2_isEntry_10 ?_
    refine lv_iload_n hx hb dX2_isEntry_13 rfl (lv_at hl 1 rfl) ?_
    refine va_iald (D := (dC, dI)) hx hb hK hP 2 0 rfl rfl (in_het hi (fun q => c2 (hw1.trans q))) dX2_isEntry_14 ?_
    refine lv_iload_n hx hb dX2_isEntry_15 rfl (lv_at hl 3 rfl) ?_
    refine lv_icmp_ne (tgt := 34) hx hb dX2_isEntry_16 (by decide) (fun c3 => ?_) (fun c3 => ?_)
    · -- taken
      refine lv_iconst (v := 0) hx hb dX2_isEntry_34 (by decide) ?_
      have hP9 := hP
      have hD9 := hD
      have e9 : f_n_isEntry x p1 p2 p3 p4 = 0 := by simp only [f_n_isEntry, ← hw1, if_neg c2, if_neg c3]
      exact W.zret (v := 0) hx hb hr (by rfl) (fun t ht hW => ⟨⟨0, (), rfl, e9.symm, by rw [ht]; exact hP9, va_K.moved hW.alike hK, hD9⟩, hS.F ht⟩) hS.2.2 dX2_isEntry_35
    · -- not taken
      refine lv_aload_n hx hb dX2_isEntry_19 rfl (lv_at hl 0 rfl) ?_
      refine va_get (D := (dC, dI)) (ci := 2) (v := (.ref n_a3)) (C := RX2) (T := TX2) (N := 11) hx hb hts (fun _ h => List.mem_cons_of_mem _ (List.mem_append_right _ h)) hown hK hP 0 rfl rfl 3 (by decide) (hts (.fieldLink RX2 29 "TwinLog$Node" "values" "[I") (by decide +kernel)) (fun _ h9 => h9) rfl dX2_isEntry_20 ?_
      refine lv_iload_n hx hb dX2_isEntry_23 rfl (lv_at hl 1 rfl) ?_
      refine va_iald (D := (dC, dI)) hx hb hK hP 3 0 rfl rfl (in_het hi (fun q => c2 (hw1.trans q))) dX2_isEntry_24 ?_
      refine lv_iload hx hb dX2_isEntry_25 (lv_at hl 4 rfl) ?_
      refine lv_icmp_ne (tgt := 34) hx hb dX2_isEntry_27 (by decide) (fun c4 => ?_) (fun c4 => ?_)
      · -- taken
        refine lv_iconst (v := 0) hx hb dX2_isEntry_34 (by decide) ?_
        have hP9 := hP
        have hD9 := hD
        have e9 : f_n_isEntry x p1 p2 p3 p4 = 0 := by simp only [f_n_isEntry, ← hw1, if_neg c2, if_pos c3, if_neg c4]
        exact W.zret (v := 0) hx hb hr (by rfl) (fun t ht hW => ⟨⟨0, (), rfl, e9.symm, by rw [ht]; exact hP9, va_K.moved hW.alike hK, hD9⟩, hS.F ht⟩) hS.2.2 dX2_isEntry_35
      · -- not taken
        refine lv_iconst (v := 1) hx hb dX2_isEntry_30 (by decide) ?_
        refine lv_goto (tgt := 35) hx hb dX2_isEntry_31 (by decide) ?_
        have hP9 := hP
        have hD9 := hD
        have e9 : f_n_isEntry x p1 p2 p3 p4 = 1 := by simp only [f_n_isEntry, ← hw1, if_neg c2, if_pos c3, if_pos c4]
        exact W.zret (v := 1) hx hb hr (by rfl) (fun t ht hW => ⟨⟨1, (), rfl, e9.symm, by rw [ht]; exact hP9, va_K.moved hW.alike hK, hD9⟩, hS.F ht⟩) hS.2.2 dX2_isEntry_35
