set_option maxHeartbeats 8000000 in
set_option maxRecDepth 100000 in
theorem law_loop {p : Program} {l : Launch} {e : Env} {s : State} {m : MethodId} {below : List Frame} {meth : Method} {c : Code} {dC : Nat → ClassId} {dI : Nat → Nat → Nat} (cI cZ cM : ClassId) {b L : Nat} {xs : Nat → Int32} (hL : L ≤ 2048) (C0 : lw_At p s m meth c b L xs) (hK : va_K (dC, dI) vwCl [(cI, .int), (cZ, .boolean), (cM, .object RX1)] s) (t_t : Nat) (k_k : Nat) (k_sl : Nat) (k_L : List Nat) (z_h : Nat) (z_a1 : Nat) (z_a2 : Nat) (z_a3 : Nat) (o_h : Nat) (o_a1 : Nat) (o_a2 : Nat) (o_a3 : Nat) (q_h : Nat) (q_b0 : Nat) (q_b1 : Nat) (q_b2 : Nat) (q_b3 : Nat) (q_b4 : Nat) (q_b5 : Nat) (q_b6 : Nat) (q_b7 : Nat) (q_b8 : Nat) (q_b9 : Nat) (q_b10 : Nat) (q_b12 : Nat) :
    ∀ (n i : Nat), L - 4 * i < n → 4 * i ≤ L → ∀ (x : Lk × Nd × Nd) (y : Rq × Rn × Cm), Rel k_L (2 + 2 * i) x y → RlOk y.2.1 → ∀ (H : Heap) (locs : List Loc) (ls : Array Slot), va_P (dC, dI) vwCl ([(t_t, .inr (3, [.ref z_h, .ref o_h, .ref k_k])), (k_k, .inr (0, [.ref k_sl, .ref x.1.2.2.1, .int x.1.1])), (k_sl, .inl (cM, 16, .inr (.inr (.inr (.inr (fun j => some (x.1.2.1 j))))))), (z_h, .inr (2, [.int 0, .ref z_a1, .ref z_a2, .ref z_a3, .int x.2.1.1, .int x.2.1.2.1, .int x.2.1.2.2.1, .int x.2.1.2.2.2.1, .int x.2.1.2.2.2.2.1, .int x.2.1.2.2.2.2.2.1, .int x.2.1.2.2.2.2.2.2.1])), (z_a1, .inl (cI, 64, .inl x.2.1.2.2.2.2.2.2.2.1)), (z_a2, .inl (cI, 64, .inl x.2.1.2.2.2.2.2.2.2.2.1)), (z_a3, .inl (cI, 64, .inl x.2.1.2.2.2.2.2.2.2.2.2)), (o_h, .inr (2, [.int 1, .ref o_a1, .ref o_a2, .ref o_a3, .int x.2.2.1, .int x.2.2.2.1, .int x.2.2.2.2.1, .int x.2.2.2.2.2.1, .int x.2.2.2.2.2.2.1, .int x.2.2.2.2.2.2.2.1, .int x.2.2.2.2.2.2.2.2.1])), (o_a1, .inl (cI, 64, .inl x.2.2.2.2.2.2.2.2.2.1)), (o_a2, .inl (cI, 64, .inl x.2.2.2.2.2.2.2.2.2.2.1)), (o_a3, .inl (cI, 64, .inl x.2.2.2.2.2.2.2.2.2.2.2)), (q_h, .inr (4, [.ref q_b0, .ref q_b1, .ref q_b2, .ref q_b3, .ref q_b4, .ref q_b5, .ref q_b6, .ref q_b7, .ref q_b8, .ref q_b9, .ref q_b10, .int y.1.1, .ref q_b12])), (q_b10, .inl (cI, 144, .inl y.1.2)), (q_b0, .inl (cI, 2, .inl y.2.1.1)), (q_b1, .inl (cI, 2, .inl y.2.1.2.1)), (q_b2, .inl (cZ, 2, .inl y.2.1.2.2.1)), (q_b3, .inl (cZ, 2, .inl y.2.1.2.2.2.1)), (q_b4, .inl (cI, 2, .inl y.2.1.2.2.2.2.1)), (q_b5, .inl (cI, 2, .inl y.2.1.2.2.2.2.2.1)), (q_b6, .inl (cI, 2, .inl y.2.1.2.2.2.2.2.2.1)), (q_b7, .inl (cI, 128, .inl y.2.1.2.2.2.2.2.2.2.1)), (q_b8, .inl (cI, 128, .inl y.2.1.2.2.2.2.2.2.2.2.1)), (q_b9, .inl (cI, 128, .inl y.2.1.2.2.2.2.2.2.2.2.2)), (q_b12, .inl (cI, 9, .inl y.2.2))] ++ va_pl k_L (fM x.1.2.2.2)) H → va_D (fun q : Nat => s.heap.size ≤ q) ([(t_t, .inr (3, [.ref z_h, .ref o_h, .ref k_k])), (k_k, .inr (0, [.ref k_sl, .ref x.1.2.2.1, .int x.1.1])), (k_sl, .inl (cM, 16, .inr (.inr (.inr (.inr (fun j => some (x.1.2.1 j))))))), (z_h, .inr (2, [.int 0, .ref z_a1, .ref z_a2, .ref z_a3, .int x.2.1.1, .int x.2.1.2.1, .int x.2.1.2.2.1, .int x.2.1.2.2.2.1, .int x.2.1.2.2.2.2.1, .int x.2.1.2.2.2.2.2.1, .int x.2.1.2.2.2.2.2.2.1])), (z_a1, .inl (cI, 64, .inl x.2.1.2.2.2.2.2.2.2.1)), (z_a2, .inl (cI, 64, .inl x.2.1.2.2.2.2.2.2.2.2.1)), (z_a3, .inl (cI, 64, .inl x.2.1.2.2.2.2.2.2.2.2.2)), (o_h, .inr (2, [.int 1, .ref o_a1, .ref o_a2, .ref o_a3, .int x.2.2.1, .int x.2.2.2.1, .int x.2.2.2.2.1, .int x.2.2.2.2.2.1, .int x.2.2.2.2.2.2.1, .int x.2.2.2.2.2.2.2.1, .int x.2.2.2.2.2.2.2.2.1])), (o_a1, .inl (cI, 64, .inl x.2.2.2.2.2.2.2.2.2.1)), (o_a2, .inl (cI, 64, .inl x.2.2.2.2.2.2.2.2.2.2.1)), (o_a3, .inl (cI, 64, .inl x.2.2.2.2.2.2.2.2.2.2.2)), (q_h, .inr (4, [.ref q_b0, .ref q_b1, .ref q_b2, .ref q_b3, .ref q_b4, .ref q_b5, .ref q_b6, .ref q_b7, .ref q_b8, .ref q_b9, .ref q_b10, .int y.1.1, .ref q_b12])), (q_b10, .inl (cI, 144, .inl y.1.2)), (q_b0, .inl (cI, 2, .inl y.2.1.1)), (q_b1, .inl (cI, 2, .inl y.2.1.2.1)), (q_b2, .inl (cZ, 2, .inl y.2.1.2.2.1)), (q_b3, .inl (cZ, 2, .inl y.2.1.2.2.2.1)), (q_b4, .inl (cI, 2, .inl y.2.1.2.2.2.2.1)), (q_b5, .inl (cI, 2, .inl y.2.1.2.2.2.2.2.1)), (q_b6, .inl (cI, 2, .inl y.2.1.2.2.2.2.2.2.1)), (q_b7, .inl (cI, 128, .inl y.2.1.2.2.2.2.2.2.2.1)), (q_b8, .inl (cI, 128, .inl y.2.1.2.2.2.2.2.2.2.2.1)), (q_b9, .inl (cI, 128, .inl y.2.1.2.2.2.2.2.2.2.2.2)), (q_b12, .inl (cI, 9, .inl y.2.2))] ++ va_pl k_L (fM x.1.2.2.2)) → va_S (fun q : Nat => s.heap.size ≤ q) s.heap H locs → lv_has ls 4 [(3, .int (nI (4 * i))), (2, .ref q_h), (1, .ref t_t), (0, .ref b)] → W p l e room_1 s m #[Value.ref b] below meth c H locs 41 1145 (lw_Z below #[Value.ref b] s) (F0 m 18 ls []) := by
  obtain ⟨hx, hb, hr, hml, hown, hts0, hX, hbl, hlocks, hgv⟩ := id C0
  have hts : ∀ w ∈ wsL_law, w.before #[Value.ref b] s = true := fun w h => hts0 w (wsL_law_in w h)
  have hown : s.vm.findClass RL = some m.cls := hown
  have hA : ∀ q : Nat, s.heap.size ≤ q → (fun q : Nat => s.heap.size ≤ q) q := fun _ h => h
  have hbA : ¬ (fun q : Nat => s.heap.size ≤ q) b := Nat.not_le.mpr hbl
  intro n
  induction n with
  | zero => intro i h; exact absurd h (Nat.not_lt_zero _)
  | succ n ih =>
    intro i hn hi x y hR hRl H locs ls hP hD hS hl
    skip
    refine lv_iload_n hx hb dL_law_18 rfl (lv_at hl 0 rfl) ?_
    refine lv_aload_n hx hb dL_law_19 rfl (lv_at hl 3 rfl) ?_
    refine va_slen hx hb hX hbl hbA hS dL_law_20 ?_
    refine lv_iconst (v := 4) hx hb dL_law_21 (by decide) ?_
    refine lv_isub hx hb dL_law_22 ?_
    refine lv_icmp_gt (tgt := 465) hx hb dL_law_23 (by decide) (fun c1 => ?_) (fun c1 => ?_)
    · -- taken
      refine lv_iconst (v := 1) hx hb dL_law_465 (by decide) ?_
      refine va_forget (fun q hq => hS.2.2 q hq) ?_
      refine W.widen (k := 600000) (n := 7302250) (Nat.le_of_ble_eq_true rfl) (Nat.le_of_ble_eq_true rfl) ?_
      exact lw_ret hx hb hr hlocks dL_law_466
    · -- not taken
      have hi4 : 4 * i + 4 ≤ L := loop_in hL hi c1
      refine lv_aload_n hx hb dL_law_26 rfl (lv_at hl 3 rfl) ?_
      refine lv_iload_n hx hb dL_law_27 rfl (lv_at hl 0 rfl) ?_
      refine va_sld hx hb hX hbl hbA hS (vp_in_nI (by omega) (by omega)) dL_law_28 ?_
      refine lv_bipush (v := 15) hx hb dL_law_29 (by decide) ?_
      refine lv_iand hx hb dL_law_31 ?_
      by_cases c2 : ((xs (nI (4 * i)).toNatClampNeg) &&& 15) = 0
      · refine lv_tableIn (tgt := 100) hx hb dL_law_32 (by rw [c2]; decide) (by rw [c2]; decide) (by rw [c2]; rfl) (by decide) ?_
        exact law_c0 cI cZ cM hL C0 hK t_t k_k k_sl k_L z_h z_a1 z_a2 z_a3 o_h o_a1 o_a2 o_a3 q_h q_b0 q_b1 q_b2 q_b3 q_b4 q_b5 q_b6 q_b7 q_b8 q_b9 q_b10 q_b12 i hi4 (fun x y a1 a2 H locs ls a3 a4 a5 a6 => ih (i + 1) (by omega) (by omega) x y a1 a2 H locs ls a3 a4 a5 a6) x y hR hRl H locs ls hP hD hS hl
      by_cases c3 : ((xs (nI (4 * i)).toNatClampNeg) &&& 15) = 1
      · refine lv_tableIn (tgt := 143) hx hb dL_law_32 (by rw [c3]; decide) (by rw [c3]; decide) (by rw [c3]; rfl) (by decide) ?_
        exact law_c1 cI cZ cM hL C0 hK t_t k_k k_sl k_L z_h z_a1 z_a2 z_a3 o_h o_a1 o_a2 o_a3 q_h q_b0 q_b1 q_b2 q_b3 q_b4 q_b5 q_b6 q_b7 q_b8 q_b9 q_b10 q_b12 i hi4 (fun x y a1 a2 H locs ls a3 a4 a5 a6 => ih (i + 1) (by omega) (by omega) x y a1 a2 H locs ls a3 a4 a5 a6) x y hR hRl H locs ls hP hD hS hl
      by_cases c4 : ((xs (nI (4 * i)).toNatClampNeg) &&& 15) = 2
      · refine lv_tableIn (tgt := 176) hx hb dL_law_32 (by rw [c4]; decide) (by rw [c4]; decide) (by rw [c4]; rfl) (by decide) ?_
        exact law_c2 cI cZ cM hL C0 hK t_t k_k k_sl k_L z_h z_a1 z_a2 z_a3 o_h o_a1 o_a2 o_a3 q_h q_b0 q_b1 q_b2 q_b3 q_b4 q_b5 q_b6 q_b7 q_b8 q_b9 q_b10 q_b12 i hi4 (fun x y a1 a2 H locs ls a3 a4 a5 a6 => ih (i + 1) (by omega) (by omega) x y a1 a2 H locs ls a3 a4 a5 a6) x y hR hRl H locs ls hP hD hS hl
      by_cases c5 : ((xs (nI (4 * i)).toNatClampNeg) &&& 15) = 3
      · refine lv_tableIn (tgt := 189) hx hb dL_law_32 (by rw [c5]; decide) (by rw [c5]; decide) (by rw [c5]; rfl) (by decide) ?_
        exact law_c3 cI cZ cM hL C0 hK t_t k_k k_sl k_L z_h z_a1 z_a2 z_a3 o_h o_a1 o_a2 o_a3 q_h q_b0 q_b1 q_b2 q_b3 q_b4 q_b5 q_b6 q_b7 q_b8 q_b9 q_b10 q_b12 i hi4 (fun x y a1 a2 H locs ls a3 a4 a5 a6 => ih (i + 1) (by omega) (by omega) x y a1 a2 H locs ls a3 a4 a5 a6) x y hR hRl H locs ls hP hD hS hl
      by_cases c6 : ((xs (nI (4 * i)).toNatClampNeg) &&& 15) = 4
      · refine lv_tableIn (tgt := 212) hx hb dL_law_32 (by rw [c6]; decide) (by rw [c6]; decide) (by rw [c6]; rfl) (by decide) ?_
        exact law_c4 cI cZ cM hL C0 hK t_t k_k k_sl k_L z_h z_a1 z_a2 z_a3 o_h o_a1 o_a2 o_a3 q_h q_b0 q_b1 q_b2 q_b3 q_b4 q_b5 q_b6 q_b7 q_b8 q_b9 q_b10 q_b12 i hi4 (fun x y a1 a2 H locs ls a3 a4 a5 a6 => ih (i + 1) (by omega) (by omega) x y a1 a2 H locs ls a3 a4 a5 a6) x y hR hRl H locs ls hP hD hS hl
      by_cases c7 : ((xs (nI (4 * i)).toNatClampNeg) &&& 15) = 5
      · refine lv_tableIn (tgt := 245) hx hb dL_law_32 (by rw [c7]; decide) (by rw [c7]; decide) (by rw [c7]; rfl) (by decide) ?_
        exact law_c5 cI cZ cM hL C0 hK t_t k_k k_sl k_L z_h z_a1 z_a2 z_a3 o_h o_a1 o_a2 o_a3 q_h q_b0 q_b1 q_b2 q_b3 q_b4 q_b5 q_b6 q_b7 q_b8 q_b9 q_b10 q_b12 i hi4 (fun x y a1 a2 H locs ls a3 a4 a5 a6 => ih (i + 1) (by omega) (by omega) x y a1 a2 H locs ls a3 a4 a5 a6) x y hR hRl H locs ls hP hD hS hl
      by_cases c8 : ((xs (nI (4 * i)).toNatClampNeg) &&& 15) = 6
      · refine lv_tableIn (tgt := 268) hx hb dL_law_32 (by rw [c8]; decide) (by rw [c8]; decide) (by rw [c8]; rfl) (by decide) ?_
        exact law_c6 cI cZ cM hL C0 hK t_t k_k k_sl k_L z_h z_a1 z_a2 z_a3 o_h o_a1 o_a2 o_a3 q_h q_b0 q_b1 q_b2 q_b3 q_b4 q_b5 q_b6 q_b7 q_b8 q_b9 q_b10 q_b12 i hi4 (fun x y a1 a2 H locs ls a3 a4 a5 a6 => ih (i + 1) (by omega) (by omega) x y a1 a2 H locs ls a3 a4 a5 a6) x y hR hRl H locs ls hP hD hS hl
      by_cases c9 : ((xs (nI (4 * i)).toNatClampNeg) &&& 15) = 7
      · refine lv_tableIn (tgt := 291) hx hb dL_law_32 (by rw [c9]; decide) (by rw [c9]; decide) (by rw [c9]; rfl) (by decide) ?_
        exact law_c7 cI cZ cM hL C0 hK t_t k_k k_sl k_L z_h z_a1 z_a2 z_a3 o_h o_a1 o_a2 o_a3 q_h q_b0 q_b1 q_b2 q_b3 q_b4 q_b5 q_b6 q_b7 q_b8 q_b9 q_b10 q_b12 i hi4 (fun x y a1 a2 H locs ls a3 a4 a5 a6 => ih (i + 1) (by omega) (by omega) x y a1 a2 H locs ls a3 a4 a5 a6) x y hR hRl H locs ls hP hD hS hl
      by_cases c10 : ((xs (nI (4 * i)).toNatClampNeg) &&& 15) = 8
      · refine lv_tableIn (tgt := 314) hx hb dL_law_32 (by rw [c10]; decide) (by rw [c10]; decide) (by rw [c10]; rfl) (by decide) ?_
        exact law_c8 cI cZ cM hL C0 hK t_t k_k k_sl k_L z_h z_a1 z_a2 z_a3 o_h o_a1 o_a2 o_a3 q_h q_b0 q_b1 q_b2 q_b3 q_b4 q_b5 q_b6 q_b7 q_b8 q_b9 q_b10 q_b12 i hi4 (fun x y a1 a2 H locs ls a3 a4 a5 a6 => ih (i + 1) (by omega) (by omega) x y a1 a2 H locs ls a3 a4 a5 a6) x y hR hRl H locs ls hP hD hS hl
      by_cases c11 : ((xs (nI (4 * i)).toNatClampNeg) &&& 15) = 9
      · refine lv_tableIn (tgt := 337) hx hb dL_law_32 (by rw [c11]; decide) (by rw [c11]; decide) (by rw [c11]; rfl) (by decide) ?_
        exact law_c9 cI cZ cM hL C0 hK t_t k_k k_sl k_L z_h z_a1 z_a2 z_a3 o_h o_a1 o_a2 o_a3 q_h q_b0 q_b1 q_b2 q_b3 q_b4 q_b5 q_b6 q_b7 q_b8 q_b9 q_b10 q_b12 i hi4 (fun x y a1 a2 H locs ls a3 a4 a5 a6 => ih (i + 1) (by omega) (by omega) x y a1 a2 H locs ls a3 a4 a5 a6) x y hR hRl H locs ls hP hD hS hl
      by_cases c12 : ((xs (nI (4 * i)).toNatClampNeg) &&& 15) = 10
      · refine lv_tableIn (tgt := 370) hx hb dL_law_32 (by rw [c12]; decide) (by rw [c12]; decide) (by rw [c12]; rfl) (by decide) ?_
        exact law_c10 cI cZ cM hL C0 hK t_t k_k k_sl k_L z_h z_a1 z_a2 z_a3 o_h o_a1 o_a2 o_a3 q_h q_b0 q_b1 q_b2 q_b3 q_b4 q_b5 q_b6 q_b7 q_b8 q_b9 q_b10 q_b12 i hi4 (fun x y a1 a2 H locs ls a3 a4 a5 a6 => ih (i + 1) (by omega) (by omega) x y a1 a2 H locs ls a3 a4 a5 a6) x y hR hRl H locs ls hP hD hS hl
      by_cases c13 : ((xs (nI (4 * i)).toNatClampNeg) &&& 15) = 11
      · refine lv_tableIn (tgt := 413) hx hb dL_law_32 (by rw [c13]; decide) (by rw [c13]; decide) (by rw [c13]; rfl) (by decide) ?_
        exact law_c11 cI cZ cM hL C0 hK t_t k_k k_sl k_L z_h z_a1 z_a2 z_a3 o_h o_a1 o_a2 o_a3 q_h q_b0 q_b1 q_b2 q_b3 q_b4 q_b5 q_b6 q_b7 q_b8 q_b9 q_b10 q_b12 i hi4 (fun x y a1 a2 H locs ls a3 a4 a5 a6 => ih (i + 1) (by omega) (by omega) x y a1 a2 H locs ls a3 a4 a5 a6) x y hR hRl H locs ls hP hD hS hl
      by_cases c14 : ((xs (nI (4 * i)).toNatClampNeg) &&& 15) = 12
      · refine lv_tableIn (tgt := 446) hx hb dL_law_32 (by rw [c14]; decide) (by rw [c14]; decide) (by rw [c14]; rfl) (by decide) ?_
        exact law_c12 cI cZ cM hL C0 hK t_t k_k k_sl k_L z_h z_a1 z_a2 z_a3 o_h o_a1 o_a2 o_a3 q_h q_b0 q_b1 q_b2 q_b3 q_b4 q_b5 q_b6 q_b7 q_b8 q_b9 q_b10 q_b12 i hi4 (fun x y a1 a2 H locs ls a3 a4 a5 a6 => ih (i + 1) (by omega) (by omega) x y a1 a2 H locs ls a3 a4 a5 a6) x y hR hRl H locs ls hP hD hS hl
      refine lv_tableOut (tgt := 459) hx hb dL_law_32 (by have q0 : ((xs (nI (4 * i)).toNatClampNeg) &&& 15).toInt ≠ 0 := i_ne 0 c2; have q1 : ((xs (nI (4 * i)).toNatClampNeg) &&& 15).toInt ≠ 1 := i_ne 1 c3; have q2 : ((xs (nI (4 * i)).toNatClampNeg) &&& 15).toInt ≠ 2 := i_ne 2 c4; have q3 : ((xs (nI (4 * i)).toNatClampNeg) &&& 15).toInt ≠ 3 := i_ne 3 c5; have q4 : ((xs (nI (4 * i)).toNatClampNeg) &&& 15).toInt ≠ 4 := i_ne 4 c6; have q5 : ((xs (nI (4 * i)).toNatClampNeg) &&& 15).toInt ≠ 5 := i_ne 5 c7; have q6 : ((xs (nI (4 * i)).toNatClampNeg) &&& 15).toInt ≠ 6 := i_ne 6 c8; have q7 : ((xs (nI (4 * i)).toNatClampNeg) &&& 15).toInt ≠ 7 := i_ne 7 c9; have q8 : ((xs (nI (4 * i)).toNatClampNeg) &&& 15).toInt ≠ 8 := i_ne 8 c10; have q9 : ((xs (nI (4 * i)).toNatClampNeg) &&& 15).toInt ≠ 9 := i_ne 9 c11; have q10 : ((xs (nI (4 * i)).toNatClampNeg) &&& 15).toInt ≠ 10 := i_ne 10 c12; have q11 : ((xs (nI (4 * i)).toNatClampNeg) &&& 15).toInt ≠ 11 := i_ne 11 c13; have q12 : ((xs (nI (4 * i)).toNatClampNeg) &&& 15).toInt ≠ 12 := i_ne 12 c14; omega) (by decide) ?_
      exact law_c13 cI cZ cM hL C0 hK t_t k_k k_sl k_L z_h z_a1 z_a2 z_a3 o_h o_a1 o_a2 o_a3 q_h q_b0 q_b1 q_b2 q_b3 q_b4 q_b5 q_b6 q_b7 q_b8 q_b9 q_b10 q_b12 i hi4 (fun x y a1 a2 H locs ls a3 a4 a5 a6 => ih (i + 1) (by omega) (by omega) x y a1 a2 H locs ls a3 a4 a5 a6) x y hR hRl H locs ls hP hD hS hl
