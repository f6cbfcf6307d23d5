abbrev Cm : Type := Nat → Int32
/-- the places from a to b have taken over those nine further on -/
def sh9 (f : Nat → Int32) (a b : Nat) : Nat → Int32 := fun j => if a ≤ j ∧ j < b then f (j + 9) else f j
theorem sh9_0 (f : Nat → Int32) (a : Nat) : sh9 f a a = f := by
  funext j
  unfold sh9
  rw [if_neg (by omega)]
theorem sh9_step {f : Nat → Int32} {a k : Nat} (h : a ≤ k) (hk : k + 9 < 2 ^ 31) : upd (sh9 f a k) (nI k).toNatClampNeg (sh9 f a k (nI k + 9).toNatClampNeg) = sh9 f a (k + 1) := by
  rw [show (9 : Int32) = nI 9 from rfl, nI_add, nI_clamp hk, nI_clamp (by omega)]
  funext j
  unfold upd sh9
  by_cases hj : j = k
  · subst hj
    rw [if_pos rfl, if_neg (by omega), if_pos (by omega)]
  · rw [if_neg hj]
    by_cases h2 : a ≤ j ∧ j < k
    · rw [if_pos h2, if_pos (by omega)]
    · rw [if_neg h2, if_neg (by omega)]
def f_m_remove (x : Rq) (p1 : Int32) : Rq := (x.1 - 1, sh9 x.2 (9 * p1.toNatClampNeg) (9 * (x.1 - 1).toNatClampNeg))
set_option maxHeartbeats 4000000 in
set_option maxRecDepth 100000 in
theorem c_m_remove (l : Launch) (dC : Nat → ClassId) (dI : Nat → Nat → Nat) (cI cZ cM : ClassId) (q_h : Nat) (q_b0 : Nat) (q_b1 : Nat) (q_b2 : Nat) (q_b3 : Nat) (q_b4 : Nat) (q_b5 : Nat) (q_b6 : Nat) (q_b7 : Nat) (q_b8 : Nat) (q_b9 : Nat) (q_b10 : Nat) (q_b12 : Nat) (sz : Nat) (x : Rq)  (p1 : Int32) (hm : ∃ k : Nat, 0 < k ∧ k ≤ 16 ∧ x.1 = nI k ∧ ∃ j : Nat, j < k ∧ p1 = nI j) : Met l yX4_remove wsX4_remove ({ frames := 0, cells := 0, slots := 0, locals := 0 }) (va_Pc [.ref q_h, .int p1] (fun U => U.heap.size = sz ∧ va_P (dC, dI) vwCl ([(q_h, .inr (4, [.ref q_b0, .ref q_b1, .ref q_b2, .ref q_b3, .ref q_b4, .ref q_b5, .ref q_b6, .ref q_b7, .ref q_b8, .ref q_b9, .ref q_b10, .int x.1, .ref q_b12])), (q_b10, .inl (cI, 144, .inl x.2))]) U.heap ∧ va_K (dC, dI) vwCl [(cI, .int), (cZ, .boolean), (cM, .object RX1)] U ∧ va_D (fun _ => True) ([(q_h, .inr (4, [.ref q_b0, .ref q_b1, .ref q_b2, .ref q_b3, .ref q_b4, .ref q_b5, .ref q_b6, .ref q_b7, .ref q_b8, .ref q_b9, .ref q_b10, .int x.1, .ref q_b12])), (q_b10, .inl (cI, 144, .inl x.2))]))) (va_Qv (fun (u : Rq) => u = f_m_remove x p1) (fun u t => va_P (dC, dI) vwCl ([(q_h, .inr (4, [.ref q_b0, .ref q_b1, .ref q_b2, .ref q_b3, .ref q_b4, .ref q_b5, .ref q_b6, .ref q_b7, .ref q_b8, .ref q_b9, .ref q_b10, .int u.1, .ref q_b12])), (q_b10, .inl (cI, 144, .inl u.2))]) t.heap ∧ va_K (dC, dI) vwCl [(cI, .int), (cZ, .boolean), (cM, .object RX1)] t ∧ va_D (va_A ([(q_h, .inr (4, [.ref q_b0, .ref q_b1, .ref q_b2, .ref q_b3, .ref q_b4, .ref q_b5, .ref q_b6, .ref q_b7, .ref q_b8, .ref q_b9, .ref q_b10, .int x.1, .ref q_b12])), (q_b10, .inl (cI, 144, .inl x.2))]) sz) ([(q_h, .inr (4, [.ref q_b0, .ref q_b1, .ref q_b2, .ref q_b3, .ref q_b4, .ref q_b5, .ref q_b6, .ref q_b7, .ref q_b8, .ref q_b9, .ref q_b10, .int u.1, .ref q_b12])), (q_b10, .inl (cI, 144, .inl u.2))])) (va_A ([(q_h, .inr (4, [.ref q_b0, .ref q_b1, .ref q_b2, .ref q_b3, .ref q_b4, .ref q_b5, .ref q_b6, .ref q_b7, .ref q_b8, .ref q_b9, .ref q_b10, .int x.1, .ref q_b12])), (q_b10, .inl (cI, 144, .inl x.2))]) sz)) 0 0 (va_A ([(q_h, .inr (4, [.ref q_b0, .ref q_b1, .ref q_b2, .ref q_b3, .ref q_b4, .ref q_b5, .ref q_b6, .ref q_b7, .ref q_b8, .ref q_b9, .ref q_b10, .int x.1, .ref q_b12])), (q_b10, .inl (cI, 144, .inl x.2))]) sz) := by
  refine Met.ofW (cc := cX4_remove) (maxL := 3) (ret := none) (by decide) rfl ?_
  intro p e s m args below meth c s₁ B hml hv
  obtain ⟨rfl, hsz, hP, hK, hD0⟩ := hv
  have hx := B.exec
  have hb := B.bytes
  have hr := B.returns
  have hts := atoms_spec (ws := wsX4_remove) B.pre
  have hown : s.vm.findClass RX4 = some m.cls := findClass_of_methodNamed B.named
  have hlocks := B.notSynchronized
  subst hsz
  have hD := hD0.self (sz := s.heap.size)
  generalize hAe : va_A ([(q_h, .inr (4, [.ref q_b0, .ref q_b1, .ref q_b2, .ref q_b3, .ref q_b4, .ref q_b5, .ref q_b6, .ref q_b7, .ref q_b8, .ref q_b9, .ref q_b10, .int x.1, .ref q_b12])), (q_b10, .inl (cI, 144, .inl x.2))]) s.heap.size = A at hD ⊢
  have hA : ∀ q : Nat, s.heap.size ≤ q → A q := fun q h => by rw [← hAe]; exact Or.inr h
  have hS : va_S A s.heap s.heap [] := va_S.rf
  have hP : va_P (dC, dI) vwCl ([(q_h, .inr (4, [.ref q_b0, .ref q_b1, .ref q_b2, .ref q_b3, .ref q_b4, .ref q_b5, .ref q_b6, .ref q_b7, .ref q_b8, .ref q_b9, .ref q_b10, .int x.1, .ref q_b12])), (q_b10, .inl (cI, 144, .inl x.2))]) s.heap := hP
  have hD : va_D A ([(q_h, .inr (4, [.ref q_b0, .ref q_b1, .ref q_b2, .ref q_b3, .ref q_b4, .ref q_b5, .ref q_b6, .ref q_b7, .ref q_b8, .ref q_b9, .ref q_b10, .int x.1, .ref q_b12])), (q_b10, .inl (cI, 144, .inl x.2))]) := hD
  have hl := lv_entry ([.ref q_h, .int p1]) (n := 3) (Nat.le_of_ble_eq_true rfl)
  rw [lg_entry_eq]
  generalize (lg_sl ([.ref q_h, .int p1]) ++ List.replicate (3 - (lg_sl ([.ref q_h, .int p1])).length) Slot.unset).toArray = ls at hl ⊢
  have hl : lv_has ls 3 [(0, .ref q_h), (1, .int p1)] := hl
  refine lv_aload_n hx hb dX4_remove_0 rfl (lv_at hl 0 rfl) ?_
  refine lv_dup hx hb dX4_remove_1 rfl ?_
  refine va_get (D := (dC, dI)) (ci := 4) (v := (.int x.1)) (C := RX4) (T := TX4) (N := 13) hx hb hts (fun _ h => List.mem_cons_of_mem _ (List.mem_append_right _ h)) hown hK hP 0 rfl rfl 11 (by decide) (hts (.fieldLink RX4 50 "TwinLogModel" "many" "I") (by decide +kernel)) (fun _ h9 => h9) rfl dX4_remove_2 ?_
  refine lv_iconst (v := 1) hx hb dX4_remove_5 (by decide) ?_
  refine lv_isub hx hb dX4_remove_6 ?_
  refine va_put (D := (dC, dI)) (ci := 4) (v := .int (x.1 - 1)) (ty := .int) (C := RX4) (T := TX4) (N := 13) hx hb hts (fun _ h => List.mem_cons_of_mem _ (List.mem_append_right _ h)) tyX4 tyX4_ok nmX4 hown hK hP hD hS 0 rfl rfl 11 (by decide) (hts (.fieldLink RX4 50 "TwinLogModel" "many" "I") (by decide +kernel)) (fun _ h9 => h9) rfl (by decide +kernel) rfl rfl (Nat.le_of_ble_eq_true rfl) dX4_remove_7 (fun H locs hP hD hS => ?_)
  have hP : va_P (dC, dI) vwCl ([(q_h, .inr (4, [.ref q_b0, .ref q_b1, .ref q_b2, .ref q_b3, .ref q_b4, .ref q_b5, .ref q_b6, .ref q_b7, .ref q_b8, .ref q_b9, .ref q_b10, .int (x.1 - 1), .ref q_b12])), (q_b10, .inl (cI, 144, .inl x.2))]) H := hP
  have hD : va_D A ([(q_h, .inr (4, [.ref q_b0, .ref q_b1, .ref q_b2, .ref q_b3, .ref q_b4, .ref q_b5, .ref q_b6, .ref q_b7, .ref q_b8, .ref q_b9, .ref q_b10, .int (x.1 - 1), .ref q_b12])), (q_b10, .inl (cI, 144, .inl x.2))]) := hD
  refine lv_bipush (v := 9) hx hb dX4_remove_10 (by decide) ?_
  refine lv_iload_n hx hb dX4_remove_12 rfl (lv_at hl 1 rfl) ?_
  refine lv_imul hx hb dX4_remove_13 ?_
  refine lv_istore_n (lv' := [(2, .int (9 * p1)), (0, .ref q_h), (1, .int p1)]) hx hb dX4_remove_14 rfl hl (by decide) rfl (fun ls hl => ?_)
  obtain ⟨c0, hc0, hc16, ec, i, hic, ei⟩ := hm
  obtain ⟨d, rfl⟩ : ∃ d, c0 = d + 1 := ⟨c0 - 1, by omega⟩
  have hdm : x.1 - 1 = nI d := by rw [ec, nI_pred]
  have hti : p1.toNatClampNeg = i := by rw [ei]; exact nI_clamp (by omega)
  have htd : (x.1 - 1).toNatClampNeg = d := by rw [hdm]; exact nI_clamp (by omega)
  have ev0 : (9 * p1) = nI (9 * i) := by rw [ei, show (9 : Int32) = nI 9 from rfl, pk_mul]
  have hl := lv_sub hl [0, 1, 2] rfl
  have hl : lv_has ls 3 [(2, .int (nI (9 * i))), (0, .ref q_h), (1, .int p1)] := by rw [← ev0]; exact hl
  have hP : va_P (dC, dI) vwCl ([(q_h, .inr (4, [.ref q_b0, .ref q_b1, .ref q_b2, .ref q_b3, .ref q_b4, .ref q_b5, .ref q_b6, .ref q_b7, .ref q_b8, .ref q_b9, .ref q_b10, .int (x.1 - 1), .ref q_b12])), (q_b10, .inl (cI, 144, .inl (sh9 x.2 (9 * i) (9 * i))))]) H := by rw [sh9_0]; exact hP
  have hD : va_D A ([(q_h, .inr (4, [.ref q_b0, .ref q_b1, .ref q_b2, .ref q_b3, .ref q_b4, .ref q_b5, .ref q_b6, .ref q_b7, .ref q_b8, .ref q_b9, .ref q_b10, .int (x.1 - 1), .ref q_b12])), (q_b10, .inl (cI, 144, .inl (sh9 x.2 (9 * i) (9 * i))))]) := by rw [sh9_0]; exact hD
  have key : ∀ (n k : Nat) (H : Heap) (locs : List Loc) (ls : Array Slot), 9 * d - k < n → 9 * i ≤ k → k ≤ 9 * d → va_P (dC, dI) vwCl ([(q_h, .inr (4, [.ref q_b0, .ref q_b1, .ref q_b2, .ref q_b3, .ref q_b4, .ref q_b5, .ref q_b6, .ref q_b7, .ref q_b8, .ref q_b9, .ref q_b10, .int (x.1 - 1), .ref q_b12])), (q_b10, .inl (cI, 144, .inl (sh9 x.2 (9 * i) k)))]) H → va_D A ([(q_h, .inr (4, [.ref q_b0, .ref q_b1, .ref q_b2, .ref q_b3, .ref q_b4, .ref q_b5, .ref q_b6, .ref q_b7, .ref q_b8, .ref q_b9, .ref q_b10, .int (x.1 - 1), .ref q_b12])), (q_b10, .inl (cI, 144, .inl (sh9 x.2 (9 * i) k)))]) → va_S A s.heap H locs → lv_has ls 3 [(2, .int (nI k)), (0, .ref q_h), (1, .int p1)] → W p l e (headSpec wsX4_remove ({ frames := 0, cells := 0, slots := 0, locals := 0 })).room s m [.ref q_h, .int p1].toArray below meth c H locs 0 0 (MQ below (va_Qv (fun (u : Rq) => u = f_m_remove x p1) (fun u t => va_P (dC, dI) vwCl ([(q_h, .inr (4, [.ref q_b0, .ref q_b1, .ref q_b2, .ref q_b3, .ref q_b4, .ref q_b5, .ref q_b6, .ref q_b7, .ref q_b8, .ref q_b9, .ref q_b10, .int u.1, .ref q_b12])), (q_b10, .inl (cI, 144, .inl u.2))]) t.heap ∧ va_K (dC, dI) vwCl [(cI, .int), (cZ, .boolean), (cM, .object RX1)] t ∧ va_D (A) ([(q_h, .inr (4, [.ref q_b0, .ref q_b1, .ref q_b2, .ref q_b3, .ref q_b4, .ref q_b5, .ref q_b6, .ref q_b7, .ref q_b8, .ref q_b9, .ref q_b10, .int u.1, .ref q_b12])), (q_b10, .inl (cI, 144, .inl u.2))])) A) [.ref q_h, .int p1].toArray s 0 0 A) (F0 m 15 ls []) := by
    intro n
    induction n with
    | zero => intro k H locs ls h; exact absurd h (Nat.not_lt_zero _)
    | succ n ih =>
      intro k H locs ls hn hik hkd hP hD hS hl
      refine lv_iload_n hx hb dX4_remove_15 rfl (lv_at hl 0 rfl) ?_
      refine lv_bipush (v := 9) hx hb dX4_remove_16 (by decide) ?_
      refine lv_aload_n hx hb dX4_remove_18 rfl (lv_at hl 1 rfl) ?_
      refine va_get (D := (dC, dI)) (ci := 4) (v := (.int (x.1 - 1))) (C := RX4) (T := TX4) (N := 13) hx hb hts (fun _ h => List.mem_cons_of_mem _ (List.mem_append_right _ h)) hown hK hP 0 rfl rfl 11 (by decide) (hts (.fieldLink RX4 50 "TwinLogModel" "many" "I") (by decide +kernel)) (fun _ h9 => h9) rfl dX4_remove_19 ?_
      refine lv_imul hx hb dX4_remove_22 ?_
      refine lv_icmp_ge (tgt := 47) hx hb dX4_remove_23 (by decide) (fun c1 => ?_) (fun c1 => ?_)
      · -- taken
        have hP9 := hP
        have hD9 := hD
        have e9 : f_m_remove x p1 = ((x.1 - 1), (sh9 x.2 (9 * i) k)) := by have hkd2 : k = 9 * d := (by have h := c1; rw [hdm, show (9 : Int32) = nI 9 from rfl, pk_mul, nI_leI (by omega) (by omega)] at h; omega); unfold f_m_remove; rw [hti, htd, hkd2]
        exact W.vret hx hb hr (fun t ht hW => ⟨⟨((x.1 - 1), (sh9 x.2 (9 * i) k)), rfl, e9.symm, by rw [ht]; exact hP9, va_K.moved hW.alike hK, hD9⟩, hS.F ht⟩) hS.2.2 dX4_remove_47
      · -- not taken
        refine lv_aload_n hx hb dX4_remove_26 rfl (lv_at hl 1 rfl) ?_
        refine va_get (D := (dC, dI)) (ci := 4) (v := (.ref q_b10)) (C := RX4) (T := TX4) (N := 13) hx hb hts (fun _ h => List.mem_cons_of_mem _ (List.mem_append_right _ h)) hown hK hP 0 rfl rfl 10 (by decide) (hts (.fieldLink RX4 41 "TwinLogModel" "messages" "[I") (by decide +kernel)) (fun _ h9 => h9) rfl dX4_remove_27 ?_
        refine lv_iload_n hx hb dX4_remove_30 rfl (lv_at hl 0 rfl) ?_
        refine lv_aload_n hx hb dX4_remove_31 rfl (lv_at hl 1 rfl) ?_
        refine va_get (D := (dC, dI)) (ci := 4) (v := (.ref q_b10)) (C := RX4) (T := TX4) (N := 13) hx hb hts (fun _ h => List.mem_cons_of_mem _ (List.mem_append_right _ h)) hown hK hP 0 rfl rfl 10 (by decide) (hts (.fieldLink RX4 41 "TwinLogModel" "messages" "[I") (by decide +kernel)) (fun _ h9 => h9) rfl dX4_remove_32 ?_
        refine lv_iload_n hx hb dX4_remove_35 rfl (lv_at hl 0 rfl) ?_
        refine lv_bipush (v := 9) hx hb dX4_remove_36 (by decide) ?_
        refine lv_iadd hx hb dX4_remove_38 ?_
        refine va_iald (D := (dC, dI)) hx hb hK hP 1 0 rfl rfl (by rw [show (9 : Int32) = nI 9 from rfl, nI_add]; exact vp_in_nI (by have h := c1; rw [hdm, show (9 : Int32) = nI 9 from rfl, pk_mul, nI_leI (by omega) (by omega)] at h; omega) (by decide)) dX4_remove_39 ?_
        refine va_iast (D := (dC, dI)) hx hb hK hP hD hS 1 0 rfl rfl (vp_in_nI (by have h := c1; rw [hdm, show (9 : Int32) = nI 9 from rfl, pk_mul, nI_leI (by omega) (by omega)] at h; omega) (by decide)) dX4_remove_40 (fun H locs hP hD hS => ?_)
        have hP : va_P (dC, dI) vwCl ([(q_h, .inr (4, [.ref q_b0, .ref q_b1, .ref q_b2, .ref q_b3, .ref q_b4, .ref q_b5, .ref q_b6, .ref q_b7, .ref q_b8, .ref q_b9, .ref q_b10, .int (x.1 - 1), .ref q_b12])), (q_b10, .inl (cI, 144, .inl (upd (sh9 x.2 (9 * i) k) (nI k).toNatClampNeg ((sh9 x.2 (9 * i) k) ((nI k) + 9).toNatClampNeg))))]) H := hP
        have hD : va_D A ([(q_h, .inr (4, [.ref q_b0, .ref q_b1, .ref q_b2, .ref q_b3, .ref q_b4, .ref q_b5, .ref q_b6, .ref q_b7, .ref q_b8, .ref q_b9, .ref q_b10, .int (x.1 - 1), .ref q_b12])), (q_b10, .inl (cI, 144, .inl (upd (sh9 x.2 (9 * i) k) (nI k).toNatClampNeg ((sh9 x.2 (9 * i) k) ((nI k) + 9).toNatClampNeg))))]) := hD
        obtain ⟨x2, ex2⟩ : ∃ y : Int32, y = (nI k) + 1 := ⟨_, rfl⟩
        refine lv_iinc (v := x2) (lv' := [(2, .int x2), (0, .ref q_h), (1, .int p1)]) hx hb dX4_remove_41 hl (k := 0) rfl (by rw [ex2]; rfl) (by decide) rfl (fun ls hl => ?_)
        refine lv_goto (tgt := 15) hx hb dX4_remove_44 (by decide) ?_
        rw [show (upd (sh9 x.2 (9 * i) k) (nI k).toNatClampNeg ((sh9 x.2 (9 * i) k) ((nI k) + 9).toNatClampNeg)) = sh9 x.2 (9 * i) (k + 1) from sh9_step hik (by omega)] at hP hD
        rw [nI_1] at ex2
        rw [ex2] at hl
        have hl := lv_sub hl [0, 1, 2] rfl
        have hkd1 : k < 9 * d := by have h := c1; rw [hdm, show (9 : Int32) = nI 9 from rfl, pk_mul, nI_leI (by omega) (by omega)] at h; omega
        exact ih (k + 1) _ _ _ (by omega) (by omega) (by omega) hP hD hS hl
  exact key (9 * d - 9 * i + 1) (9 * i) _ _ _ (by omega) (Nat.le_refl _) (by omega) hP hD hS hl
