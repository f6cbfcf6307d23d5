set_option maxHeartbeats 4000000 in
set_option maxRecDepth 100000 in
theorem c_n_init (l : Launch) (dC : Nat → ClassId) (dI : Nat → Nat → Nat) (cI cZ cM : ClassId) (h : Nat) (sz : Nat) (p1 p2 p3 : Int32) (hb3 : p3 = 0 ∨ p3 = 1) : Met l yX2_init wsX2_init ({ frames := 1, cells := 3, slots := 192, locals := 12 }) (va_Pc [.ref h, .int p1, .int p2, .int p3] (fun U => U.heap.size = sz ∧ va_P (dC, dI) vwCl ([(h, .inr (2, [.int 0, .null, .null, .null, .int 0, .int 0, .int 0, .int 0, .int 0, .int 0, .int 0]))]) U.heap ∧ va_K (dC, dI) vwCl [(cI, .int), (cZ, .boolean), (cM, .object RX1)] U ∧ va_D (fun _ => True) ([(h, .inr (2, [.int 0, .null, .null, .null, .int 0, .int 0, .int 0, .int 0, .int 0, .int 0, .int 0]))]) ∧ (fun _ => True) U)) (va_Qv (fun (u : Nat × Nat × Nat) => True) (fun u t => va_P (dC, dI) vwCl ([(h, .inr (2, [.int p1, .ref u.1, .ref u.2.1, .ref u.2.2, .int 0, .int p2, .int 1, .int p3, .int (-1), .int (-1), .int 0])), (u.1, .inl (cI, 64, .inl (fun _ => 0))), (u.2.1, .inl (cI, 64, .inl (fun _ => 0))), (u.2.2, .inl (cI, 64, .inl (fun _ => 0)))]) t.heap ∧ va_K (dC, dI) vwCl [(cI, .int), (cZ, .boolean), (cM, .object RX1)] t ∧ va_D (va_A ([(h, .inr (2, [.int 0, .null, .null, .null, .int 0, .int 0, .int 0, .int 0, .int 0, .int 0, .int 0]))]) sz) ([(h, .inr (2, [.int p1, .ref u.1, .ref u.2.1, .ref u.2.2, .int 0, .int p2, .int 1, .int p3, .int (-1), .int (-1), .int 0])), (u.1, .inl (cI, 64, .inl (fun _ => 0))), (u.2.1, .inl (cI, 64, .inl (fun _ => 0))), (u.2.2, .inl (cI, 64, .inl (fun _ => 0)))])) (va_A ([(h, .inr (2, [.int 0, .null, .null, .null, .int 0, .int 0, .int 0, .int 0, .int 0, .int 0, .int 0]))]) sz)) 3 192 (va_A ([(h, .inr (2, [.int 0, .null, .null, .null, .int 0, .int 0, .int 0, .int 0, .int 0, .int 0, .int 0]))]) sz) := by
  refine Met.ofW (cc := cX2_init) (maxL := 4) (ret := none) (by decide) rfl ?_
  intro p e s m args below meth c s₁ B hml hv
  obtain ⟨rfl, hsz, hP, hK, hD0, hE⟩ := hv
  have hx := B.exec
  have hb := B.bytes
  have hr := B.returns
  have hts := atoms_spec (ws := wsX2_init) B.pre
  have hown : s.vm.findClass RX2 = some m.cls := findClass_of_methodNamed B.named
  have hlocks := B.notSynchronized
  have hin : meth.name = "<init>" := (name_of_methodNamed B.named B.method).1
  subst hsz
  have hD := hD0.self (sz := s.heap.size)
  generalize hAe : va_A ([(h, .inr (2, [.int 0, .null, .null, .null, .int 0, .int 0, .int 0, .int 0, .int 0, .int 0, .int 0]))]) s.heap.size = A at hD ⊢
  have hA : ∀ q : Nat, s.heap.size ≤ q → A q := fun q h => by rw [← hAe]; exact Or.inr h
  have hS : va_S A s.heap s.heap [] := va_S.rf
  have hP : va_P (dC, dI) vwCl ([(h, .inr (2, [.int 0, .null, .null, .null, .int 0, .int 0, .int 0, .int 0, .int 0, .int 0, .int 0]))]) s.heap := hP
  have hD : va_D A ([(h, .inr (2, [.int 0, .null, .null, .null, .int 0, .int 0, .int 0, .int 0, .int 0, .int 0, .int 0]))]) := hD
  have hl := lv_entry ([.ref h, .int p1, .int p2, .int p3]) (n := 4) (Nat.le_of_ble_eq_true rfl)
  rw [lg_entry_eq]
  generalize (lg_sl ([.ref h, .int p1, .int p2, .int p3]) ++ List.replicate (4 - (lg_sl ([.ref h, .int p1, .int p2, .int p3])).length) Slot.unset).toArray = ls at hl ⊢
  have hl : lv_has ls 4 [(0, .ref h), (1, .int p1), (2, .int p2), (3, .int p3)] := hl
  refine lv_aload_n hx hb dX2_init_0 rfl (lv_at hl 0 rfl) ?_
  refine W.objInit hx hb hown (hts (.methodLink RX2 3 objectInit) (by decide +kernel)) (hts (.instanceMethod objectInit) (by decide +kernel)) (hts (.code objectInit ⟨#[0xb1]⟩ 1 none) (by decide +kernel)) rfl (by rw [hml]; exact hl.1) rfl dX2_init_1 (Nat.le_of_ble_eq_true rfl) (Nat.le_of_ble_eq_true rfl) ?_
  refine W.eq (g2 := F0 m 4 ls []) rfl ?_
  refine lv_aload_n hx hb dX2_init_4 rfl (lv_at hl 0 rfl) ?_
  refine lv_iload_n hx hb dX2_init_5 rfl (lv_at hl 1 rfl) ?_
  refine va_putF (D := (dC, dI)) (ci := 2) (v := .int p1) (ty := .int) (C := RX2) (T := TX2) (N := 11) hx hb hts (fun _ h => List.mem_cons_of_mem _ (List.mem_append_right _ h)) tyX2 tyX2_ok nmX2 hown hK hP hD hS 0 rfl rfl 0 (by decide) (hts (.fieldLink RX2 9 "TwinLog$Node" "number" "I") (by decide +kernel)) (fun _ h9 => h9) rfl hin rfl (by decide +kernel) rfl rfl (Nat.le_of_ble_eq_true rfl) dX2_init_6 (fun H locs hP hD hS => ?_)
  have hP : va_P (dC, dI) vwCl ([(h, .inr (2, [.int p1, .null, .null, .null, .int 0, .int 0, .int 0, .int 0, .int 0, .int 0, .int 0]))]) H := hP
  have hD : va_D A ([(h, .inr (2, [.int p1, .null, .null, .null, .int 0, .int 0, .int 0, .int 0, .int 0, .int 0, .int 0]))]) := hD
  refine lv_aload_n hx hb dX2_init_9 rfl (lv_at hl 0 rfl) ?_
  refine lv_iload_n hx hb dX2_init_10 rfl (lv_at hl 2 rfl) ?_
  refine va_put (D := (dC, dI)) (ci := 2) (v := .int p2) (ty := .int) (C := RX2) (T := TX2) (N := 11) hx hb hts (fun _ h => List.mem_cons_of_mem _ (List.mem_append_right _ h)) tyX2 tyX2_ok nmX2 hown hK hP hD hS 0 rfl rfl 5 (by decide) (hts (.fieldLink RX2 15 "TwinLog$Node" "term" "I") (by decide +kernel)) (fun _ h9 => h9) rfl (by decide +kernel) rfl rfl (Nat.le_of_ble_eq_true rfl) dX2_init_11 (fun H locs hP hD hS => ?_)
  have hP : va_P (dC, dI) vwCl ([(h, .inr (2, [.int p1, .null, .null, .null, .int 0, .int p2, .int 0, .int 0, .int 0, .int 0, .int 0]))]) H := hP
  have hD : va_D A ([(h, .inr (2, [.int p1, .null, .null, .null, .int 0, .int p2, .int 0, .int 0, .int 0, .int 0, .int 0]))]) := hD
  refine lv_aload_n hx hb dX2_init_14 rfl (lv_at hl 0 rfl) ?_
  refine lv_iload_n hx hb dX2_init_15 rfl (lv_at hl 3 rfl) ?_
  refine va_put (D := (dC, dI)) (ci := 2) (v := .int p3) (ty := .boolean) (C := RX2) (T := TX2) (N := 11) hx hb hts (fun _ h => List.mem_cons_of_mem _ (List.mem_append_right _ h)) tyX2 tyX2_ok nmX2 hown hK hP hD hS 0 rfl rfl 7 (by decide) (hts (.fieldLink RX2 18 "TwinLog$Node" "primary" "Z") (by decide +kernel)) (fun _ h9 => h9) rfl (by decide +kernel) (by rcases hb3 with rfl | rfl <;> rfl) (by rcases hb3 with rfl | rfl <;> rfl) (Nat.le_of_ble_eq_true rfl) dX2_init_16 (fun H locs hP hD hS => ?_)
  have hP : va_P (dC, dI) vwCl ([(h, .inr (2, [.int p1, .null, .null, .null, .int 0, .int p2, .int 0, .int p3, .int 0, .int 0, .int 0]))]) H := hP
  have hD : va_D A ([(h, .inr (2, [.int p1, .null, .null, .null, .int 0, .int p2, .int 0, .int p3, .int 0, .int 0, .int 0]))]) := hD
  refine lv_aload_n hx hb dX2_init_19 rfl (lv_at hl 0 rfl) ?_
  refine lv_bipush (v := 64) hx hb dX2_init_20 (by decide) ?_
  refine kn_newa (atype := .int) (D := (dC, dI)) (N' := 64) (a0 := (64, .inl (fun _ => 0))) hx hb (hts (.arrayClass .int) (by decide +kernel)) (ty := .int) rfl hK hP hD hS hA 0 rfl (fun _ h => by cases h) (fun _ => rfl) (by decide) (by decide +kernel) (by decide) (Nat.le_of_ble_eq_true rfl) (Nat.le_of_ble_eq_true rfl) dX2_init_22 (fun q1 H hP hD hS => ?_)
  have hP : va_P (dC, dI) vwCl ([(h, .inr (2, [.int p1, .null, .null, .null, .int 0, .int p2, .int 0, .int p3, .int 0, .int 0, .int 0])), (q1, .inl (cI, 64, .inl (fun _ => 0)))]) H := hP
  have hD : va_D A ([(h, .inr (2, [.int p1, .null, .null, .null, .int 0, .int p2, .int 0, .int p3, .int 0, .int 0, .int 0])), (q1, .inl (cI, 64, .inl (fun _ => 0)))]) := hD
  refine W.widen (k := 1) (n := 64) (Nat.le_refl _) (Nat.le_refl _) ?_
  refine va_putF (D := (dC, dI)) (ci := 2) (v := .ref q1) (ty := .array .int) (C := RX2) (T := TX2) (N := 11) hx hb hts (fun _ h => List.mem_cons_of_mem _ (List.mem_append_right _ h)) tyX2 tyX2_ok nmX2 hown hK hP hD hS 0 rfl rfl 1 (by decide) (hts (.fieldLink RX2 22 "TwinLog$Node" "terms" "[I") (by decide +kernel)) (fun _ h9 => h9) rfl hin rfl (by decide +kernel) rfl rfl (Nat.le_of_ble_eq_true rfl) dX2_init_24 (fun H locs hP hD hS => ?_)
  have hP : va_P (dC, dI) vwCl ([(h, .inr (2, [.int p1, .ref q1, .null, .null, .int 0, .int p2, .int 0, .int p3, .int 0, .int 0, .int 0])), (q1, .inl (cI, 64, .inl (fun _ => 0)))]) H := hP
  have hD : va_D A ([(h, .inr (2, [.int p1, .ref q1, .null, .null, .int 0, .int p2, .int 0, .int p3, .int 0, .int 0, .int 0])), (q1, .inl (cI, 64, .inl (fun _ => 0)))]) := hD
  refine lv_aload_n hx hb dX2_init_27 rfl (lv_at hl 0 rfl) ?_
  refine lv_bipush (v := 64) hx hb dX2_init_28 (by decide) ?_
  refine kn_newa (atype := .int) (D := (dC, dI)) (N' := 64) (a0 := (64, .inl (fun _ => 0))) hx hb (hts (.arrayClass .int) (by decide +kernel)) (ty := .int) rfl hK hP hD hS hA 0 rfl (fun _ h => by cases h) (fun _ => rfl) (by decide) (by decide +kernel) (by decide) (Nat.le_of_ble_eq_true rfl) (Nat.le_of_ble_eq_true rfl) dX2_init_30 (fun q2 H hP hD hS => ?_)
  have hP : va_P (dC, dI) vwCl ([(h, .inr (2, [.int p1, .ref q1, .null, .null, .int 0, .int p2, .int 0, .int p3, .int 0, .int 0, .int 0])), (q1, .inl (cI, 64, .inl (fun _ => 0))), (q2, .inl (cI, 64, .inl (fun _ => 0)))]) H := hP
  have hD : va_D A ([(h, .inr (2, [.int p1, .ref q1, .null, .null, .int 0, .int p2, .int 0, .int p3, .int 0, .int 0, .int 0])), (q1, .inl (cI, 64, .inl (fun _ => 0))), (q2, .inl (cI, 64, .inl (fun _ => 0)))]) := hD
  refine W.widen (k := 2) (n := 128) (Nat.le_refl _) (Nat.le_refl _) ?_
  refine va_putF (D := (dC, dI)) (ci := 2) (v := .ref q2) (ty := .array .int) (C := RX2) (T := TX2) (N := 11) hx hb hts (fun _ h => List.mem_cons_of_mem _ (List.mem_append_right _ h)) tyX2 tyX2_ok nmX2 hown hK hP hD hS 0 rfl rfl 2 (by decide) (hts (.fieldLink RX2 26 "TwinLog$Node" "keys" "[I") (by decide +kernel)) (fun _ h9 => h9) rfl hin rfl (by decide +kernel) rfl rfl (Nat.le_of_ble_eq_true rfl) dX2_init_32 (fun H locs hP hD hS => ?_)
  have hP : va_P (dC, dI) vwCl ([(h, .inr (2, [.int p1, .ref q1, .ref q2, .null, .int 0, .int p2, .int 0, .int p3, .int 0, .int 0, .int 0])), (q1, .inl (cI, 64, .inl (fun _ => 0))), (q2, .inl (cI, 64, .inl (fun _ => 0)))]) H := hP
  have hD : va_D A ([(h, .inr (2, [.int p1, .ref q1, .ref q2, .null, .int 0, .int p2, .int 0, .int p3, .int 0, .int 0, .int 0])), (q1, .inl (cI, 64, .inl (fun _ => 0))), (q2, .inl (cI, 64, .inl (fun _ => 0)))]) := hD
  refine lv_aload_n hx hb dX2_init_35 rfl (lv_at hl 0 rfl) ?_
  refine lv_bipush (v := 64) hx hb dX2_init_36 (by decide) ?_
  refine kn_newa (atype := .int) (D := (dC, dI)) (N' := 64) (a0 := (64, .inl (fun _ => 0))) hx hb (hts (.arrayClass .int) (by decide +kernel)) (ty := .int) rfl hK hP hD hS hA 0 rfl (fun _ h => by cases h) (fun _ => rfl) (by decide) (by decide +kernel) (by decide) (Nat.le_of_ble_eq_true rfl) (Nat.le_of_ble_eq_true rfl) dX2_init_38 (fun q3 H hP hD hS => ?_)
  have hP : va_P (dC, dI) vwCl ([(h, .inr (2, [.int p1, .ref q1, .ref q2, .null, .int 0, .int p2, .int 0, .int p3, .int 0, .int 0, .int 0])), (q1, .inl (cI, 64, .inl (fun _ => 0))), (q2, .inl (cI, 64, .inl (fun _ => 0))), (q3, .inl (cI, 64, .inl (fun _ => 0)))]) H := hP
  have hD : va_D A ([(h, .inr (2, [.int p1, .ref q1, .ref q2, .null, .int 0, .int p2, .int 0, .int p3, .int 0, .int 0, .int 0])), (q1, .inl (cI, 64, .inl (fun _ => 0))), (q2, .inl (cI, 64, .inl (fun _ => 0))), (q3, .inl (cI, 64, .inl (fun _ => 0)))]) := hD
  refine W.widen (k := 3) (n := 192) (Nat.le_refl _) (Nat.le_refl _) ?_
  refine va_putF (D := (dC, dI)) (ci := 2) (v := .ref q3) (ty := .array .int) (C := RX2) (T := TX2) (N := 11) hx hb hts (fun _ h => List.mem_cons_of_mem _ (List.mem_append_right _ h)) tyX2 tyX2_ok nmX2 hown hK hP hD hS 0 rfl rfl 3 (by decide) (hts (.fieldLink RX2 29 "TwinLog$Node" "values" "[I") (by decide +kernel)) (fun _ h9 => h9) rfl hin rfl (by decide +kernel) rfl rfl (Nat.le_of_ble_eq_true rfl) dX2_init_40 (fun H locs hP hD hS => ?_)
  have hP : va_P (dC, dI) vwCl ([(h, .inr (2, [.int p1, .ref q1, .ref q2, .ref q3, .int 0, .int p2, .int 0, .int p3, .int 0, .int 0, .int 0])), (q1, .inl (cI, 64, .inl (fun _ => 0))), (q2, .inl (cI, 64, .inl (fun _ => 0))), (q3, .inl (cI, 64, .inl (fun _ => 0)))]) H := hP
  have hD : va_D A ([(h, .inr (2, [.int p1, .ref q1, .ref q2, .ref q3, .int 0, .int p2, .int 0, .int p3, .int 0, .int 0, .int 0])), (q1, .inl (cI, 64, .inl (fun _ => 0))), (q2, .inl (cI, 64, .inl (fun _ => 0))), (q3, .inl (cI, 64, .inl (fun _ => 0)))]) := hD
  refine lv_aload_n hx hb dX2_init_43 rfl (lv_at hl 0 rfl) ?_
  refine lv_iconst (v := 1) hx hb dX2_init_44 (by decide) ?_
  refine va_put (D := (dC, dI)) (ci := 2) (v := .int 1) (ty := .boolean) (C := RX2) (T := TX2) (N := 11) hx hb hts (fun _ h => List.mem_cons_of_mem _ (List.mem_append_right _ h)) tyX2 tyX2_ok nmX2 hown hK hP hD hS 0 rfl rfl 6 (by decide) (hts (.fieldLink RX2 32 "TwinLog$Node" "up" "Z") (by decide +kernel)) (fun _ h9 => h9) rfl (by decide +kernel) rfl rfl (Nat.le_of_ble_eq_true rfl) dX2_init_45 (fun H locs hP hD hS => ?_)
  have hP : va_P (dC, dI) vwCl ([(h, .inr (2, [.int p1, .ref q1, .ref q2, .ref q3, .int 0, .int p2, .int 1, .int p3, .int 0, .int 0, .int 0])), (q1, .inl (cI, 64, .inl (fun _ => 0))), (q2, .inl (cI, 64, .inl (fun _ => 0))), (q3, .inl (cI, 64, .inl (fun _ => 0)))]) H := hP
  have hD : va_D A ([(h, .inr (2, [.int p1, .ref q1, .ref q2, .ref q3, .int 0, .int p2, .int 1, .int p3, .int 0, .int 0, .int 0])), (q1, .inl (cI, 64, .inl (fun _ => 0))), (q2, .inl (cI, 64, .inl (fun _ => 0))), (q3, .inl (cI, 64, .inl (fun _ => 0)))]) := hD
  refine lv_aload_n hx hb dX2_init_48 rfl (lv_at hl 0 rfl) ?_
  refine lv_iconst (v := (-1)) hx hb dX2_init_49 (by decide) ?_
  refine va_put (D := (dC, dI)) (ci := 2) (v := .int (-1)) (ty := .int) (C := RX2) (T := TX2) (N := 11) hx hb hts (fun _ h => List.mem_cons_of_mem _ (List.mem_append_right _ h)) tyX2 tyX2_ok nmX2 hown hK hP hD hS 0 rfl rfl 8 (by decide) (hts (.fieldLink RX2 35 "TwinLog$Node" "agreed" "I") (by decide +kernel)) (fun _ h9 => h9) rfl (by decide +kernel) rfl rfl (Nat.le_of_ble_eq_true rfl) dX2_init_50 (fun H locs hP hD hS => ?_)
  have hP : va_P (dC, dI) vwCl ([(h, .inr (2, [.int p1, .ref q1, .ref q2, .ref q3, .int 0, .int p2, .int 1, .int p3, .int (-1), .int 0, .int 0])), (q1, .inl (cI, 64, .inl (fun _ => 0))), (q2, .inl (cI, 64, .inl (fun _ => 0))), (q3, .inl (cI, 64, .inl (fun _ => 0)))]) H := hP
  have hD : va_D A ([(h, .inr (2, [.int p1, .ref q1, .ref q2, .ref q3, .int 0, .int p2, .int 1, .int p3, .int (-1), .int 0, .int 0])), (q1, .inl (cI, 64, .inl (fun _ => 0))), (q2, .inl (cI, 64, .inl (fun _ => 0))), (q3, .inl (cI, 64, .inl (fun _ => 0)))]) := hD
  refine lv_aload_n hx hb dX2_init_53 rfl (lv_at hl 0 rfl) ?_
  refine lv_iconst (v := (-1)) hx hb dX2_init_54 (by decide) ?_
  refine va_put (D := (dC, dI)) (ci := 2) (v := .int (-1)) (ty := .int) (C := RX2) (T := TX2) (N := 11) hx hb hts (fun _ h => List.mem_cons_of_mem _ (List.mem_append_right _ h)) tyX2 tyX2_ok nmX2 hown hK hP hD hS 0 rfl rfl 9 (by decide) (hts (.fieldLink RX2 38 "TwinLog$Node" "fuseLeft" "I") (by decide +kernel)) (fun _ h9 => h9) rfl (by decide +kernel) rfl rfl (Nat.le_of_ble_eq_true rfl) dX2_init_55 (fun H locs hP hD hS => ?_)
  have hP : va_P (dC, dI) vwCl ([(h, .inr (2, [.int p1, .ref q1, .ref q2, .ref q3, .int 0, .int p2, .int 1, .int p3, .int (-1), .int (-1), .int 0])), (q1, .inl (cI, 64, .inl (fun _ => 0))), (q2, .inl (cI, 64, .inl (fun _ => 0))), (q3, .inl (cI, 64, .inl (fun _ => 0)))]) H := hP
  have hD : va_D A ([(h, .inr (2, [.int p1, .ref q1, .ref q2, .ref q3, .int 0, .int p2, .int 1, .int p3, .int (-1), .int (-1), .int 0])), (q1, .inl (cI, 64, .inl (fun _ => 0))), (q2, .inl (cI, 64, .inl (fun _ => 0))), (q3, .inl (cI, 64, .inl (fun _ => 0)))]) := hD
  refine W.widen (k := 3) (n := 192) (Nat.le_refl _) (Nat.le_refl _) ?_
  exact W.vret hx hb hr (fun t ht hW => ⟨⟨(q1, q2, q3), rfl, trivial, by rw [ht]; exact hP, va_K.moved hW.alike hK, hD⟩, hS.F ht⟩) hS.2.2 dX2_init_58
