/-- the slots from i to k have taken over those behind them -/
def sh (g : Nat → Nat) (i k : Nat) : Nat → Nat := fun j => if i ≤ j ∧ j < k then g (j + 1) else g j
theorem sh_mem {g : Nat → Nat} {L : List Nat} (h : ∀ j, g j ∈ L) (i k j : Nat) : sh g i k j ∈ L := by
  unfold sh
  split <;> exact h _
theorem sh_0 (g : Nat → Nat) (i : Nat) : sh g i i = g := by
  funext j
  unfold sh
  rw [if_neg (by omega)]
theorem sh_step {g : Nat → Nat} {i k : Nat} (h : i ≤ k) (hk : k + 1 < 2 ^ 31) : va_up (sh g i k) (nI k).toNatClampNeg (sh g i k (nI k + 1).toNatClampNeg) = sh g i (k + 1) := by
  rw [nI_1, nI_clamp hk, nI_clamp (by omega)]
  funext j
  unfold va_up sh
  by_cases hj : j = k
  · subst hj
    rw [if_pos rfl, if_neg (by omega), if_pos (by omega)]
  · rw [if_neg hj]
    by_cases h2 : i ≤ j ∧ j < k
    · rw [if_pos h2, if_pos (by omega)]
    · rw [if_neg h2, if_neg (by omega)]
def f_k_take (x : Lk) (p1 : Int32) : Option Nat × Lk :=
  if p1 < 0 then (none, x) else if x.1 ≤ p1 then (none, x) else (some (x.2.1 p1.toNatClampNeg), (x.1 - 1, va_up (sh x.2.1 p1.toNatClampNeg (x.1 - 1).toNatClampNeg) (x.1 - 1).toNatClampNeg x.2.2.1, x.2.1 p1.toNatClampNeg, x.2.2.2))
theorem cnt_pos {x i : Int32} (h : ∃ k : Nat, k ≤ 16 ∧ x = nI k) (h0 : ¬ i < 0) (h1 : ¬ x ≤ i) : ∃ d : Nat, d < 16 ∧ x = nI (d + 1) := by
  obtain ⟨j, hj, rfl⟩ := vp_in_of (vp_len (n := 16) (by decide) h h0 h1) (by decide)
  obtain ⟨k, hk, rfl⟩ := h
  rw [nI_leI (by omega) (by omega)] at h1
  cases k with
  | zero => omega
  | succ d => exact ⟨d, by omega, rfl⟩
set_option maxHeartbeats 4000000 in
set_option maxRecDepth 100000 in
theorem c_k_take (l : Launch) (dC : Nat → ClassId) (dI : Nat → Nat → Nat) (cI cZ cM : ClassId) (k_k : Nat) (k_sl : Nat) (k_L : List Nat) (sz : Nat) (x : Lk)  (p1 : Int32) (hk : LkOk k_L x) : Met l yX0_take wsX0_take ({ frames := 1, cells := 0, slots := 0, locals := 21 }) (va_Pc [.ref k_k, .int p1] (fun U => U.heap.size = sz ∧ va_P (dC, dI) vwCl ([(k_k, .inr (0, [.ref k_sl, .ref x.2.2.1, .int x.1])), (k_sl, .inl (cM, 16, .inr (.inr (.inr (.inr (fun j => some (x.2.1 j)))))))] ++ va_pl k_L (fM x.2.2.2)) U.heap ∧ va_K (dC, dI) vwCl [(cI, .int), (cZ, .boolean), (cM, .object RX1)] U ∧ va_D (fun _ => True) ([(k_k, .inr (0, [.ref k_sl, .ref x.2.2.1, .int x.1])), (k_sl, .inl (cM, 16, .inr (.inr (.inr (.inr (fun j => some (x.2.1 j)))))))] ++ va_pl k_L (fM x.2.2.2)))) (va_Qq (fun (r : Option Nat) (u : Lk) => r = (f_k_take x p1).1 ∧ u = (f_k_take x p1).2) (fun u t => va_P (dC, dI) vwCl ([(k_k, .inr (0, [.ref k_sl, .ref u.2.2.1, .int u.1])), (k_sl, .inl (cM, 16, .inr (.inr (.inr (.inr (fun j => some (u.2.1 j)))))))] ++ va_pl k_L (fM u.2.2.2)) t.heap ∧ va_K (dC, dI) vwCl [(cI, .int), (cZ, .boolean), (cM, .object RX1)] t ∧ va_D (va_A ([(k_k, .inr (0, [.ref k_sl, .ref x.2.2.1, .int x.1])), (k_sl, .inl (cM, 16, .inr (.inr (.inr (.inr (fun j => some (x.2.1 j)))))))] ++ va_pl k_L (fM x.2.2.2)) sz) ([(k_k, .inr (0, [.ref k_sl, .ref u.2.2.1, .int u.1])), (k_sl, .inl (cM, 16, .inr (.inr (.inr (.inr (fun j => some (u.2.1 j)))))))] ++ va_pl k_L (fM u.2.2.2))) (va_A ([(k_k, .inr (0, [.ref k_sl, .ref x.2.2.1, .int x.1])), (k_sl, .inl (cM, 16, .inr (.inr (.inr (.inr (fun j => some (x.2.1 j)))))))] ++ va_pl k_L (fM x.2.2.2)) sz)) 0 0 (va_A ([(k_k, .inr (0, [.ref k_sl, .ref x.2.2.1, .int x.1])), (k_sl, .inl (cM, 16, .inr (.inr (.inr (.inr (fun j => some (x.2.1 j)))))))] ++ va_pl k_L (fM x.2.2.2)) sz) := by
  refine Met.ofW (cc := cX0_take) (maxL := 4) (ret := (some (.object "TwinLog$Message"))) (by decide) rfl ?_
  intro p e s m args below meth c s₁ B hml hv
  obtain ⟨rfl, hsz, hP, hK, hD0⟩ := hv
  have hx := B.exec
  have hb := B.bytes
  have hr := B.returns
  have hts := atoms_spec (ws := wsX0_take) B.pre
  have hown : s.vm.findClass RX0 = some m.cls := findClass_of_methodNamed B.named
  have hlocks := B.notSynchronized
  subst hsz
  have hD := hD0.self (sz := s.heap.size)
  generalize hAe : va_A ([(k_k, .inr (0, [.ref k_sl, .ref x.2.2.1, .int x.1])), (k_sl, .inl (cM, 16, .inr (.inr (.inr (.inr (fun j => some (x.2.1 j)))))))] ++ va_pl k_L (fM x.2.2.2)) s.heap.size = A at hD ⊢
  have hA : ∀ q : Nat, s.heap.size ≤ q → A q := fun q h => by rw [← hAe]; exact Or.inr h
  have hS : va_S A s.heap s.heap [] := va_S.rf
  have hP : va_P (dC, dI) vwCl ([(k_k, .inr (0, [.ref k_sl, .ref x.2.2.1, .int x.1])), (k_sl, .inl (cM, 16, .inr (.inr (.inr (.inr (fun j => some (x.2.1 j)))))))] ++ va_pl k_L (fM x.2.2.2)) s.heap := hP
  have hD : va_D A ([(k_k, .inr (0, [.ref k_sl, .ref x.2.2.1, .int x.1])), (k_sl, .inl (cM, 16, .inr (.inr (.inr (.inr (fun j => some (x.2.1 j)))))))] ++ va_pl k_L (fM x.2.2.2)) := hD
  have hl := lv_entry ([.ref k_k, .int p1]) (n := 4) (Nat.le_of_ble_eq_true rfl)
  rw [lg_entry_eq]
  generalize (lg_sl ([.ref k_k, .int p1]) ++ List.replicate (4 - (lg_sl ([.ref k_k, .int p1])).length) Slot.unset).toArray = ls at hl ⊢
  have hl : lv_has ls 4 [(0, .ref k_k), (1, .int p1)] := hl
  refine lv_aload_n hx hb dX0_take_0 rfl (lv_at hl 0 rfl) ?_
  refine lv_iload_n hx hb dX0_take_1 rfl (lv_at hl 1 rfl) ?_
  have hPc := va_P.part (X := [(k_k, .inr (0, [.ref k_sl, .ref x.2.2.1, .int x.1])), (k_sl, .inl (cM, 16, .inr (.inr (.inr (.inr (fun j => some (x.2.1 j)))))))]) (cx := [(k_k, .inr (0, [.ref k_sl, .ref x.2.2.1, .int x.1])), (k_sl, .inl (cM, 16, .inr (.inr (.inr (.inr (fun j => some (x.2.1 j)))))))]) hP [0, 1] rfl
  have hDc := va_D.part (X := [(k_k, .inr (0, [.ref k_sl, .ref x.2.2.1, .int x.1])), (k_sl, .inl (cM, 16, .inr (.inr (.inr (.inr (fun j => some (x.2.1 j)))))))]) (cx := [(k_k, .inr (0, [.ref k_sl, .ref x.2.2.1, .int x.1])), (k_sl, .inl (cM, 16, .inr (.inr (.inr (.inr (fun j => some (x.2.1 j)))))))]) hD [0, 1] (by decide) rfl
  have hFc := va_freeP (X := [(k_k, .inr (0, [.ref k_sl, .ref x.2.2.1, .int x.1])), (k_sl, .inl (cM, 16, .inr (.inr (.inr (.inr (fun j => some (x.2.1 j)))))))]) (cx := [(k_k, .inr (0, [.ref k_sl, .ref x.2.2.1, .int x.1])), (k_sl, .inl (cM, 16, .inr (.inr (.inr (.inr (fun j => some (x.2.1 j)))))))]) hD hS hA [0, 1] rfl
  refine kc_Vq (As := [.int p1]) (rest := []) (J := fun w => [] ++ w) ⟨hx, hb, hml, hown, hts⟩ (c_k_at l dC dI cI cZ cM k_k k_sl k_L s.heap.size x p1 (hk)) (cwV 1 hts gX0_take_X0_at rfl rfl rfl (by decide +kernel) ⟨Nat.le_of_ble_eq_true rfl, Nat.le_of_ble_eq_true rfl⟩) (va_recv hK hPc (ci := 0) (q0 := 0) rfl rfl) hK hPc hDc hFc hS (fun H1 w1 hk1 hP1 hD1 => kc_joinP (X := [(k_k, .inr (0, [.ref k_sl, .ref x.2.2.1, .int x.1])), (k_sl, .inl (cM, 16, .inr (.inr (.inr (.inr (fun j => some (x.2.1 j)))))))]) (cx := [(k_k, .inr (0, [.ref k_sl, .ref x.2.2.1, .int x.1])), (k_sl, .inl (cM, 16, .inr (.inr (.inr (.inr (fun j => some (x.2.1 j)))))))]) (wr := []) hP hD [0, 1] [] rfl rfl (by decide) (by decide) hk1 hFc hP1 hD1) rfl hl.1 rfl (Nat.le_of_ble_eq_true rfl) dX0_take_2 ⟨Nat.zero_le _, Nat.zero_le _⟩ (fun r1 u1 H locs hw1 hP hD hS => ?_)
  have hP : va_P (dC, dI) vwCl ([(k_k, .inr (0, [.ref k_sl, .ref x.2.2.1, .int x.1])), (k_sl, .inl (cM, 16, .inr (.inr (.inr (.inr (fun j => some (x.2.1 j)))))))] ++ va_pl k_L (fM x.2.2.2)) H := hP
  have hD : va_D A ([(k_k, .inr (0, [.ref k_sl, .ref x.2.2.1, .int x.1])), (k_sl, .inl (cM, 16, .inr (.inr (.inr (.inr (fun j => some (x.2.1 j)))))))] ++ va_pl k_L (fM x.2.2.2)) := hD
  by_cases c2 : p1 < 0
  · skip
    have hrr1 : r1 = none := by rw [hw1]; simp only [f_k_at, if_pos c2]
    rw [hrr1]
    refine W.eq (g2 := F0 m 5 ls [.null]) rfl ?_
    refine lv_astore_nN (lv' := [(2, .null), (0, .ref k_k), (1, .int p1)]) hx hb dX0_take_5 rfl hl (by decide) rfl (fun ls hl => ?_)
    refine lv_aload_nN hx hb dX0_take_6 rfl (lv_at hl 0 rfl) ?_
    refine lv_ifnonnullN hx hb dX0_take_7 ?_
    refine lv_null hx hb dX0_take_10 ?_
    have hP9 := hP
    have hD9 := hD
    have e9 : f_k_take x p1 = (none, x) := by simp only [f_k_take, if_pos c2]
    exact W.aret (v := .null) hx hb hr (Or.inl ⟨_, rfl⟩) (Or.inl rfl) (fun t ht hW => ⟨⟨none, x, rfl, ⟨by rw [e9], by rw [e9]⟩, by rw [ht]; exact hP9, va_K.moved hW.alike hK, hD9⟩, hS.F ht⟩) hS.2.2 dX0_take_11
  by_cases c3 : x.1 ≤ p1
  · skip
    have hrr1 : r1 = none := by rw [hw1]; simp only [f_k_at, if_neg c2, if_pos c3]
    rw [hrr1]
    refine W.eq (g2 := F0 m 5 ls [.null]) rfl ?_
    refine lv_astore_nN (lv' := [(2, .null), (0, .ref k_k), (1, .int p1)]) hx hb dX0_take_5 rfl hl (by decide) rfl (fun ls hl => ?_)
    refine lv_aload_nN hx hb dX0_take_6 rfl (lv_at hl 0 rfl) ?_
    refine lv_ifnonnullN hx hb dX0_take_7 ?_
    refine lv_null hx hb dX0_take_10 ?_
    have hP9 := hP
    have hD9 := hD
    have e9 : f_k_take x p1 = (none, x) := by simp only [f_k_take, if_neg c2, if_pos c3]
    exact W.aret (v := .null) hx hb hr (Or.inl ⟨_, rfl⟩) (Or.inl rfl) (fun t ht hW => ⟨⟨none, x, rfl, ⟨by rw [e9], by rw [e9]⟩, by rw [ht]; exact hP9, va_K.moved hW.alike hK, hD9⟩, hS.F ht⟩) hS.2.2 dX0_take_11
  have hrr1 : r1 = some (x.2.1 p1.toNatClampNeg) := by rw [hw1]; simp only [f_k_at, if_neg c2, if_neg c3]
  rw [hrr1]
  refine W.eq (g2 := F0 m 5 ls [.ref (x.2.1 p1.toNatClampNeg)]) rfl ?_
  refine lv_astore_n (lv' := [(2, .ref (x.2.1 p1.toNatClampNeg)), (0, .ref k_k), (1, .int p1)]) hx hb dX0_take_5 rfl hl (by decide) rfl (fun ls hl => ?_)
  refine lv_aload_n hx hb dX0_take_6 rfl (lv_at hl 0 rfl) ?_
  refine lv_ifnonnull (tgt := 12) hx hb dX0_take_7 (by decide) ?_
  refine lv_iload_n hx hb dX0_take_12 rfl (lv_at hl 2 rfl) ?_
  refine lv_istore_n (lv' := [(3, .int p1), (2, .ref (x.2.1 p1.toNatClampNeg)), (0, .ref k_k), (1, .int p1)]) hx hb dX0_take_13 rfl hl (by decide) rfl (fun ls hl => ?_)
  obtain ⟨i, hi16, ei⟩ := vp_in_of (vp_len (by decide) hk.1 c2 c3) (by decide)
  obtain ⟨d, hd16, ed⟩ : ∃ d : Nat, d < 16 ∧ x.1 = nI (d + 1) := cnt_pos hk.1 c2 c3
  have hdm : x.1 - 1 = nI d := by rw [ed, nI_pred]
  have hid : i ≤ d := by have h := c3; rw [ei, ed, nI_leI (by omega) (by omega)] at h; omega
  have hti : p1.toNatClampNeg = i := by rw [ei]; exact nI_clamp (by omega)
  have htd : (x.1 - 1).toNatClampNeg = d := by rw [hdm]; exact nI_clamp (by omega)
  have hl := lv_sub hl [0, 1, 2, 3] rfl
  have hl : lv_has ls 4 [(3, .int (nI i)), (2, .ref (x.2.1 p1.toNatClampNeg)), (0, .ref k_k), (1, .int p1)] := by rw [← ei]; exact hl
  have hP : va_P (dC, dI) vwCl ([(k_k, .inr (0, [.ref k_sl, .ref x.2.2.1, .int x.1])), (k_sl, .inl (cM, 16, .inr (.inr (.inr (.inr (fun j => some ((sh x.2.1 i i) j)))))))] ++ va_pl k_L (fM x.2.2.2)) H := by rw [sh_0]; exact hP
  have hD : va_D A ([(k_k, .inr (0, [.ref k_sl, .ref x.2.2.1, .int x.1])), (k_sl, .inl (cM, 16, .inr (.inr (.inr (.inr (fun j => some ((sh x.2.1 i i) j)))))))] ++ va_pl k_L (fM x.2.2.2)) := by rw [sh_0]; exact hD
  have key : ∀ (n k : Nat) (H : Heap) (locs : List Loc) (ls : Array Slot), d - k < n → i ≤ k → k ≤ d → va_P (dC, dI) vwCl ([(k_k, .inr (0, [.ref k_sl, .ref x.2.2.1, .int x.1])), (k_sl, .inl (cM, 16, .inr (.inr (.inr (.inr (fun j => some ((sh x.2.1 i k) j)))))))] ++ va_pl k_L (fM x.2.2.2)) H → va_D A ([(k_k, .inr (0, [.ref k_sl, .ref x.2.2.1, .int x.1])), (k_sl, .inl (cM, 16, .inr (.inr (.inr (.inr (fun j => some ((sh x.2.1 i k) j)))))))] ++ va_pl k_L (fM x.2.2.2)) → va_S A s.heap H locs → lv_has ls 4 [(3, .int (nI k)), (2, .ref (x.2.1 p1.toNatClampNeg)), (0, .ref k_k), (1, .int p1)] → W p l e (headSpec wsX0_take ({ frames := 1, cells := 0, slots := 0, locals := 21 })).room s m [.ref k_k, .int p1].toArray below meth c H locs 0 0 (MQ below (va_Qq (fun (r : Option Nat) (u : Lk) => r = (f_k_take x p1).1 ∧ u = (f_k_take x p1).2) (fun u t => va_P (dC, dI) vwCl ([(k_k, .inr (0, [.ref k_sl, .ref u.2.2.1, .int u.1])), (k_sl, .inl (cM, 16, .inr (.inr (.inr (.inr (fun j => some (u.2.1 j)))))))] ++ va_pl k_L (fM u.2.2.2)) t.heap ∧ va_K (dC, dI) vwCl [(cI, .int), (cZ, .boolean), (cM, .object RX1)] t ∧ va_D (A) ([(k_k, .inr (0, [.ref k_sl, .ref u.2.2.1, .int u.1])), (k_sl, .inl (cM, 16, .inr (.inr (.inr (.inr (fun j => some (u.2.1 j)))))))] ++ va_pl k_L (fM u.2.2.2))) A) [.ref k_k, .int p1].toArray s 0 0 A) (F0 m 14 ls []) := by
    intro n
    induction n with
    | zero => intro k H locs ls h; exact absurd h (Nat.not_lt_zero _)
    | succ n ih =>
      intro k H locs ls hn hik hkd hP hD hS hl
      refine lv_iload_n hx hb dX0_take_14 rfl (lv_at hl 0 rfl) ?_
      refine lv_aload_n hx hb dX0_take_15 rfl (lv_at hl 2 rfl) ?_
      refine va_get (D := (dC, dI)) (ci := 0) (v := (.int x.1)) (C := RX0) (T := TX0) (N := 3) hx hb hts (fun _ h => List.mem_cons_of_mem _ (List.mem_append_right _ h)) hown hK hP 0 rfl rfl 2 (by decide) (hts (.fieldLink RX0 22 "TwinLog$Link" "count" "I") (by decide +kernel)) (fun _ h9 => h9) rfl dX0_take_16 ?_
      refine lv_iconst (v := 1) hx hb dX0_take_19 (by decide) ?_
      refine lv_isub hx hb dX0_take_20 ?_
      refine lv_icmp_ge (tgt := 44) hx hb dX0_take_21 (by decide) (fun c4 => ?_) (fun c4 => ?_)
      · -- taken
        refine lv_aload_n hx hb dX0_take_44 rfl (lv_at hl 2 rfl) ?_
        refine lv_dup hx hb dX0_take_45 rfl ?_
        refine va_get (D := (dC, dI)) (ci := 0) (v := (.int x.1)) (C := RX0) (T := TX0) (N := 3) hx hb hts (fun _ h => List.mem_cons_of_mem _ (List.mem_append_right _ h)) hown hK hP 0 rfl rfl 2 (by decide) (hts (.fieldLink RX0 22 "TwinLog$Link" "count" "I") (by decide +kernel)) (fun _ h9 => h9) rfl dX0_take_46 ?_
        refine lv_iconst (v := 1) hx hb dX0_take_49 (by decide) ?_
        refine lv_isub hx hb dX0_take_50 ?_
        refine va_put (D := (dC, dI)) (ci := 0) (v := .int (x.1 - 1)) (ty := .int) (C := RX0) (T := TX0) (N := 3) hx hb hts (fun _ h => List.mem_cons_of_mem _ (List.mem_append_right _ h)) tyX0 tyX0_ok nmX0 hown hK hP hD hS 0 rfl rfl 2 (by decide) (hts (.fieldLink RX0 22 "TwinLog$Link" "count" "I") (by decide +kernel)) (fun _ h9 => h9) rfl (by decide +kernel) rfl rfl (Nat.le_of_ble_eq_true rfl) dX0_take_51 (fun H locs hP hD hS => ?_)
        have hP : va_P (dC, dI) vwCl ([(k_k, .inr (0, [.ref k_sl, .ref x.2.2.1, .int (x.1 - 1)])), (k_sl, .inl (cM, 16, .inr (.inr (.inr (.inr (fun j => some ((sh x.2.1 i k) j)))))))] ++ va_pl k_L (fM x.2.2.2)) H := hP
        have hD : va_D A ([(k_k, .inr (0, [.ref k_sl, .ref x.2.2.1, .int (x.1 - 1)])), (k_sl, .inl (cM, 16, .inr (.inr (.inr (.inr (fun j => some ((sh x.2.1 i k) j)))))))] ++ va_pl k_L (fM x.2.2.2)) := hD
        refine lv_aload_n hx hb dX0_take_54 rfl (lv_at hl 2 rfl) ?_
        refine va_get (D := (dC, dI)) (ci := 0) (v := (.ref k_sl)) (C := RX0) (T := TX0) (N := 3) hx hb hts (fun _ h => List.mem_cons_of_mem _ (List.mem_append_right _ h)) hown hK hP 0 rfl rfl 0 (by decide) (hts (.fieldLink RX0 11 "TwinLog$Link" "slots" "[LTwinLog$Message;") (by decide +kernel)) (fun _ h9 => h9) rfl dX0_take_55 ?_
        refine lv_aload_n hx hb dX0_take_58 rfl (lv_at hl 2 rfl) ?_
        refine va_get (D := (dC, dI)) (ci := 0) (v := (.int (x.1 - 1))) (C := RX0) (T := TX0) (N := 3) hx hb hts (fun _ h => List.mem_cons_of_mem _ (List.mem_append_right _ h)) hown hK hP 0 rfl rfl 2 (by decide) (hts (.fieldLink RX0 22 "TwinLog$Link" "count" "I") (by decide +kernel)) (fun _ h9 => h9) rfl dX0_take_59 ?_
        refine lv_aload_n hx hb dX0_take_62 rfl (lv_at hl 2 rfl) ?_
        refine va_get (D := (dC, dI)) (ci := 0) (v := (.ref x.2.2.1)) (C := RX0) (T := TX0) (N := 3) hx hb hts (fun _ h => List.mem_cons_of_mem _ (List.mem_append_right _ h)) hown hK hP 0 rfl rfl 1 (by decide) (hts (.fieldLink RX0 18 "TwinLog$Link" "spare" "LTwinLog$Message;") (by decide +kernel)) (fun _ h9 => h9) rfl dX0_take_63 ?_
        obtain ⟨khk5, hk5⟩ := va_pl_get (X := [(k_k, .inr (0, [.ref k_sl, .ref x.2.2.1, .int (x.1 - 1)])), (k_sl, .inl (cM, 16, .inr (.inr (.inr (.inr (fun j => some ((sh x.2.1 i k) j)))))))]) (f := fM x.2.2.2) hk.2.2
        refine va_astq (D := (dC, dI)) (r := (RX1, TX1, 9)) hx hb hK hP hD hS 1 2 khk5 1 rfl rfl hk5 rfl (by rw [hdm]; exact vp_in_nI (by omega) (by decide)) dX0_take_66 (fun H locs hP hD hS => ?_)
        rw [rg_up] at hP hD
        have hP : va_P (dC, dI) vwCl ([(k_k, .inr (0, [.ref k_sl, .ref x.2.2.1, .int (x.1 - 1)])), (k_sl, .inl (cM, 16, .inr (.inr (.inr (.inr (fun j => some ((va_up (sh x.2.1 i k) (x.1 - 1).toNatClampNeg x.2.2.1) j)))))))] ++ va_pl k_L (fM x.2.2.2)) H := hP
        have hD : va_D A ([(k_k, .inr (0, [.ref k_sl, .ref x.2.2.1, .int (x.1 - 1)])), (k_sl, .inl (cM, 16, .inr (.inr (.inr (.inr (fun j => some ((va_up (sh x.2.1 i k) (x.1 - 1).toNatClampNeg x.2.2.1) j)))))))] ++ va_pl k_L (fM x.2.2.2)) := hD
        refine lv_aload_n hx hb dX0_take_67 rfl (lv_at hl 2 rfl) ?_
        refine lv_aload_n hx hb dX0_take_68 rfl (lv_at hl 1 rfl) ?_
        refine va_put (D := (dC, dI)) (ci := 0) (v := .ref (x.2.1 p1.toNatClampNeg)) (ty := .object "TwinLog$Message") (C := RX0) (T := TX0) (N := 3) hx hb hts (fun _ h => List.mem_cons_of_mem _ (List.mem_append_right _ h)) tyX0 tyX0_ok nmX0 hown hK hP hD hS 0 rfl rfl 1 (by decide) (hts (.fieldLink RX0 18 "TwinLog$Link" "spare" "LTwinLog$Message;") (by decide +kernel)) (fun _ h9 => h9) rfl (by decide +kernel) rfl rfl (Nat.le_of_ble_eq_true rfl) dX0_take_69 (fun H locs hP hD hS => ?_)
        have hP : va_P (dC, dI) vwCl ([(k_k, .inr (0, [.ref k_sl, .ref (x.2.1 p1.toNatClampNeg), .int (x.1 - 1)])), (k_sl, .inl (cM, 16, .inr (.inr (.inr (.inr (fun j => some ((va_up (sh x.2.1 i k) (x.1 - 1).toNatClampNeg x.2.2.1) j)))))))] ++ va_pl k_L (fM x.2.2.2)) H := hP
        have hD : va_D A ([(k_k, .inr (0, [.ref k_sl, .ref (x.2.1 p1.toNatClampNeg), .int (x.1 - 1)])), (k_sl, .inl (cM, 16, .inr (.inr (.inr (.inr (fun j => some ((va_up (sh x.2.1 i k) (x.1 - 1).toNatClampNeg x.2.2.1) j)))))))] ++ va_pl k_L (fM x.2.2.2)) := hD
        refine lv_aload_n hx hb dX0_take_72 rfl (lv_at hl 1 rfl) ?_
        have hP9 := hP
        have hD9 := hD
        have e9 : f_k_take x p1 = (some (x.2.1 p1.toNatClampNeg), ((x.1 - 1), (va_up (sh x.2.1 i k) (x.1 - 1).toNatClampNeg x.2.2.1), (x.2.1 p1.toNatClampNeg), x.2.2.2)) := by have hkd2 : k = d := (by rw [hdm, nI_leI (by omega) (by omega)] at c4; omega); unfold f_k_take; rw [if_neg c2, if_neg c3, hti, htd, hkd2]
        exact W.aret (v := .ref (x.2.1 p1.toNatClampNeg)) hx hb hr (Or.inl ⟨_, rfl⟩) (Or.inr ⟨_, rfl⟩) (fun t ht hW => ⟨⟨some (x.2.1 p1.toNatClampNeg), ((x.1 - 1), (va_up (sh x.2.1 i k) (x.1 - 1).toNatClampNeg x.2.2.1), (x.2.1 p1.toNatClampNeg), x.2.2.2), rfl, ⟨by rw [e9], by rw [e9]⟩, by rw [ht]; exact hP9, va_K.moved hW.alike hK, hD9⟩, hS.F ht⟩) hS.2.2 dX0_take_73
      · -- not taken
        refine lv_aload_n hx hb dX0_take_24 rfl (lv_at hl 2 rfl) ?_
        refine va_get (D := (dC, dI)) (ci := 0) (v := (.ref k_sl)) (C := RX0) (T := TX0) (N := 3) hx hb hts (fun _ h => List.mem_cons_of_mem _ (List.mem_append_right _ h)) hown hK hP 0 rfl rfl 0 (by decide) (hts (.fieldLink RX0 11 "TwinLog$Link" "slots" "[LTwinLog$Message;") (by decide +kernel)) (fun _ h9 => h9) rfl dX0_take_25 ?_
        refine lv_iload_n hx hb dX0_take_28 rfl (lv_at hl 0 rfl) ?_
        refine lv_aload_n hx hb dX0_take_29 rfl (lv_at hl 2 rfl) ?_
        refine va_get (D := (dC, dI)) (ci := 0) (v := (.ref k_sl)) (C := RX0) (T := TX0) (N := 3) hx hb hts (fun _ h => List.mem_cons_of_mem _ (List.mem_append_right _ h)) hown hK hP 0 rfl rfl 0 (by decide) (hts (.fieldLink RX0 11 "TwinLog$Link" "slots" "[LTwinLog$Message;") (by decide +kernel)) (fun _ h9 => h9) rfl dX0_take_30 ?_
        refine lv_iload_n hx hb dX0_take_33 rfl (lv_at hl 0 rfl) ?_
        refine lv_iconst (v := 1) hx hb dX0_take_34 (by decide) ?_
        refine lv_iadd hx hb dX0_take_35 ?_
        refine va_aldq (D := (dC, dI)) (C := RX1) hx hb hK hP 1 2 rfl rfl (by rw [nI_1]; exact vp_in_nI (by have h := c4; rw [hdm, nI_leI (by omega) (by omega)] at h; omega) (by decide)) dX0_take_36 ?_
        refine W.eq (g2 := F0 m 37 ls [.ref ((sh x.2.1 i k) ((nI k) + 1).toNatClampNeg), .int (nI k), .ref k_sl]) rfl ?_
        obtain ⟨khk6, hk6⟩ := va_pl_get (X := [(k_k, .inr (0, [.ref k_sl, .ref x.2.2.1, .int x.1])), (k_sl, .inl (cM, 16, .inr (.inr (.inr (.inr (fun j => some ((sh x.2.1 i k) j)))))))]) (f := fM x.2.2.2) (sh_mem hk.2.1 _ _ _)
        refine va_astq (D := (dC, dI)) (r := (RX1, TX1, 9)) hx hb hK hP hD hS 1 2 khk6 1 rfl rfl hk6 rfl (vp_in_nI (by omega) (by decide)) dX0_take_37 (fun H locs hP hD hS => ?_)
        rw [rg_up] at hP hD
        have hP : va_P (dC, dI) vwCl ([(k_k, .inr (0, [.ref k_sl, .ref x.2.2.1, .int x.1])), (k_sl, .inl (cM, 16, .inr (.inr (.inr (.inr (fun j => some ((va_up (sh x.2.1 i k) (nI k).toNatClampNeg ((sh x.2.1 i k) ((nI k) + 1).toNatClampNeg)) j)))))))] ++ va_pl k_L (fM x.2.2.2)) H := hP
        have hD : va_D A ([(k_k, .inr (0, [.ref k_sl, .ref x.2.2.1, .int x.1])), (k_sl, .inl (cM, 16, .inr (.inr (.inr (.inr (fun j => some ((va_up (sh x.2.1 i k) (nI k).toNatClampNeg ((sh x.2.1 i k) ((nI k) + 1).toNatClampNeg)) j)))))))] ++ va_pl k_L (fM x.2.2.2)) := hD
        obtain ⟨x7, ex7⟩ : ∃ y : Int32, y = (nI k) + 1 := ⟨_, rfl⟩
        refine lv_iinc (v := x7) (lv' := [(3, .int x7), (2, .ref (x.2.1 p1.toNatClampNeg)), (0, .ref k_k), (1, .int p1)]) hx hb dX0_take_38 hl (k := 0) rfl (by rw [ex7]; rfl) (by decide) rfl (fun ls hl => ?_)
        refine lv_goto (tgt := 14) hx hb dX0_take_41 (by decide) ?_
        rw [show (va_up (sh x.2.1 i k) (nI k).toNatClampNeg ((sh x.2.1 i k) ((nI k) + 1).toNatClampNeg)) = sh x.2.1 i (k + 1) from sh_step hik (by omega)] at hP hD
        rw [nI_1] at ex7
        rw [ex7] at hl
        have hl := lv_sub hl [0, 1, 2, 3] rfl
        have hkd1 : k < d := by have h := c4; rw [hdm, nI_leI (by omega) (by omega)] at h; omega
        exact ih (k + 1) _ _ _ (by omega) (by omega) (by omega) hP hD hS hl
  exact key (d - i + 1) i _ _ _ (by omega) (Nat.le_refl i) hid hP hD hS hl
