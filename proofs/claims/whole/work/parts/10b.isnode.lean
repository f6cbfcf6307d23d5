def f_m_isNode (p1 : Int32) : Int32 :=
  if p1 = 0 then 1 else if p1 = 1 then 1 else 0
set_option maxHeartbeats 4000000 in
set_option maxRecDepth 100000 in
theorem c_m_isNode (l : Launch) (dC : Nat → ClassId) (dI : Nat → Nat → Nat) (cI cZ cM : ClassId)  (sz : Nat)   (p1 : Int32)  : Met l yX4_isNode wsX4_isNode ({ frames := 0, cells := 0, slots := 0, locals := 0 }) (va_Pc [.int p1] (fun U => U.heap.size = sz ∧ va_P (dC, dI) vwCl ([]) U.heap ∧ va_K (dC, dI) vwCl [(cI, .int), (cZ, .boolean), (cM, .object RX1)] U ∧ va_D (fun _ => True) ([]))) (va_Qi (fun (r : Int32) (_ : Unit) => r = f_m_isNode p1) (fun _ t => va_P (dC, dI) vwCl ([]) t.heap ∧ va_K (dC, dI) vwCl [(cI, .int), (cZ, .boolean), (cM, .object RX1)] t ∧ va_D (va_A ([]) sz) ([])) (va_A ([]) sz)) 0 0 (va_A ([]) sz) := by
  refine Met.ofW (cc := cX4_isNode) (maxL := 1) (ret := (some .boolean)) (by decide) rfl ?_
  intro p e s m args below meth c s₁ B hml hv
  obtain ⟨rfl, hsz, hP, hK, hD0⟩ := hv
  have hx := B.exec
  have hb := B.bytes
  have hr := B.returns
  have hts := atoms_spec (ws := wsX4_isNode) B.pre
  have hown : s.vm.findClass RX4 = some m.cls := findClass_of_methodNamed B.named
  have hlocks := B.notSynchronized
  subst hsz
  have hD := hD0.self (sz := s.heap.size)
  generalize hAe : va_A ([]) s.heap.size = A at hD ⊢
  have hA : ∀ q : Nat, s.heap.size ≤ q → A q := fun q h => by rw [← hAe]; exact Or.inr h
  have hS : va_S A s.heap s.heap [] := va_S.rf
  have hP : va_P (dC, dI) vwCl ([]) s.heap := hP
  have hD : va_D A ([]) := hD
  have hl := lv_entry ([.int p1]) (n := 1) (Nat.le_of_ble_eq_true rfl)
  rw [lg_entry_eq]
  generalize (lg_sl ([.int p1]) ++ List.replicate (1 - (lg_sl ([.int p1])).length) Slot.unset).toArray = ls at hl ⊢
  have hl : lv_has ls 1 [(0, .int p1)] := hl
  refine lv_iload_n hx hb dX4_isNode_0 rfl (lv_at hl 0 rfl) ?_
  refine lv_if_eq (tgt := 9) hx hb dX4_isNode_1 (by decide) (fun c1 => ?_) (fun c1 => ?_)
  · -- taken
    refine lv_iconst (v := 1) hx hb dX4_isNode_9 (by decide) ?_
    refine lv_goto (tgt := 14) hx hb dX4_isNode_10 (by decide) ?_
    have hP9 := hP
    have hD9 := hD
    have e9 : f_m_isNode p1 = 1 := by simp only [f_m_isNode, if_pos c1]
    exact W.zret (v := 1) hx hb hr (by rfl) (fun t ht hW => ⟨⟨1, (), rfl, e9.symm, by rw [ht]; exact hP9, va_K.moved hW.alike hK, hD9⟩, hS.F ht⟩) hS.2.2 dX4_isNode_14
  · -- not taken
    refine lv_iload_n hx hb dX4_isNode_4 rfl (lv_at hl 0 rfl) ?_
    refine lv_iconst (v := 1) hx hb dX4_isNode_5 (by decide) ?_
    refine lv_icmp_ne (tgt := 13) hx hb dX4_isNode_6 (by decide) (fun c2 => ?_) (fun c2 => ?_)
    · -- taken
      refine lv_iconst (v := 0) hx hb dX4_isNode_13 (by decide) ?_
      have hP9 := hP
      have hD9 := hD
      have e9 : f_m_isNode p1 = 0 := by simp only [f_m_isNode, if_neg c1, if_neg c2]
      exact W.zret (v := 0) hx hb hr (by rfl) (fun t ht hW => ⟨⟨0, (), rfl, e9.symm, by rw [ht]; exact hP9, va_K.moved hW.alike hK, hD9⟩, hS.F ht⟩) hS.2.2 dX4_isNode_14
    · -- not taken
      refine lv_iconst (v := 1) hx hb dX4_isNode_9 (by decide) ?_
      refine lv_goto (tgt := 14) hx hb dX4_isNode_10 (by decide) ?_
      have hP9 := hP
      have hD9 := hD
      have e9 : f_m_isNode p1 = 1 := by simp only [f_m_isNode, if_neg c1, if_pos c2]
      exact W.zret (v := 1) hx hb hr (by rfl) (fun t ht hW => ⟨⟨1, (), rfl, e9.symm, by rw [ht]; exact hP9, va_K.moved hW.alike hK, hD9⟩, hS.F ht⟩) hS.2.2 dX4_isNode_14
theorem isn_in {n : Int32} (h : ¬ f_m_isNode n = 0) : vp_in n 2 := by
  unfold f_m_isNode at h
  by_cases h0 : n = 0
  · subst h0; exact vp_lit (by decide)
  · by_cases h1 : n = 1
    · subst h1; exact vp_lit (by decide)
    · simp only [if_neg h0, if_neg h1] at h; exact absurd trivial h
