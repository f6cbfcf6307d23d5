theorem rel_to {L : List Nat} {B : Nat} {x : Lk × Nd × Nd} {y : Rq × Rn × Cm} (h : Rel L B x y) : ¬ y.1.1 = 0 → vp_in (y.1.2 1) 2 := by
  intro hne
  obtain ⟨⟨-, c, hc, -, e2, hm⟩, -⟩ := h
  have hc0 : c ≠ 0 := fun z => hne (by rw [e2, z]; exact nI_0)
  obtain ⟨-, w1, -, -, -, hto, -⟩ := hm 0 (by omega)
  have w1 : (x.1.2.2.2 (x.1.2.1 0)).2.1 = y.1.2 1 := w1
  rw [← w1]
  rcases hto with e | e
  · rw [e]; exact vp_lit (by decide)
  · rw [e]; exact vp_lit (by decide)
theorem rel_num {L : List Nat} {B : Nat} {x : Lk × Nd × Nd} {y : Rq × Rn × Cm} (h : Rel L B x y) : ¬ y.1.1 = 0 → y.1.2 0 = 1 → ∃ k : Nat, k < 64 ∧ y.1.2 3 = nI k := by
  intro hne h1
  obtain ⟨⟨-, c, hc, -, e2, hm⟩, -⟩ := h
  have hc0 : c ≠ 0 := fun z => hne (by rw [e2, z]; exact nI_0)
  obtain ⟨w0, -, -, w3, -, -, -, hs⟩ := hm 0 (by omega)
  have w0 : (x.1.2.2.2 (x.1.2.1 0)).1 = y.1.2 0 := w0
  have w3 : (x.1.2.2.2 (x.1.2.1 0)).2.2.2.1 = y.1.2 3 := w3
  obtain ⟨-, ⟨k, hk, e⟩, -⟩ := hs (w0.trans h1)
  exact ⟨k, hk, w3.symm.trans e⟩
/-- the lengths' row beyond its two places -/
def nz (f : Nat → Int32) : Nat → Int32 := fun j => if j < 2 then f j else 0
abbrev nzy (y : Rq × Rn × Cm) : Rq × Rn × Cm := (y.1, (y.2.1.1, nz y.2.1.2.1, y.2.1.2.2.1, y.2.1.2.2.2.1, y.2.1.2.2.2.2.1, y.2.1.2.2.2.2.2.1, y.2.1.2.2.2.2.2.2.1, y.2.1.2.2.2.2.2.2.2.1, y.2.1.2.2.2.2.2.2.2.2.1, y.2.1.2.2.2.2.2.2.2.2.2), y.2.2)
theorem nz_rel {L : List Nat} {B : Nat} {x : Lk × Nd × Nd} {y : Rq × Rn × Cm} (h : Rel L B x y) : Rel L B x (nzy y) := by
  obtain ⟨hl, ⟨⟨c, hc, e1, e2, e3⟩, hz⟩, ⟨⟨d, hd, f1, f2, f3⟩, ho⟩⟩ := h
  refine ⟨hl, ⟨⟨c, hc, e1, ?_, e3⟩, hz⟩, ⟨⟨d, hd, f1, ?_, f3⟩, ho⟩⟩
  · show nz y.2.1.2.1 0 = nI c
    unfold nz
    rw [if_pos (by omega)]; exact e2
  · show nz y.2.1.2.1 1 = nI d
    unfold nz
    rw [if_pos (by omega)]; exact f2
theorem nz_rl {L : List Nat} {B : Nat} {x : Lk × Nd × Nd} {y : Rq × Rn × Cm} (h : Rel L B x y) : RlOk (nzy y).2.1 := by
  intro j
  show ∃ k : Nat, k ≤ 64 ∧ nz y.2.1.2.1 j = nI k
  unfold nz
  by_cases hj : j < 2
  · rw [if_pos hj]; exact h.rl j hj
  · rw [if_neg hj]; exact ⟨0, by omega, nI_0.symm⟩
theorem va_P_ints {D : va_G} {cl : List vw_C} {ws : va_W} {H : Heap} {cA : ClassId} {n a : Nat} {f g : Nat → Int32} (p : Nat) (hP : va_P D cl ws H) (hp : ws[p]? = some (a, .inl (cA, n, .inl f))) (h : ∀ j, j < n → f j = g j) : va_P D cl (ws.set p (a, .inl (cA, n, .inl g))) H := by
  have hl := (List.getElem?_eq_some_iff.mp hp).1
  intro k q hk
  by_cases hkp : k = p
  · subst hkp
    rw [List.getElem?_set_self hl] at hk
    cases hk
    have h2 : H[a]? = some (vp_cell cA (n, .inl f)) := hP k _ hp
    show H[a]? = some (vp_cell cA (n, .inl g))
    rw [h2, vp_cell_i, vp_cell_i]
    exact congrArg some (arrV_cong (fun j hj => by rw [h j hj]))
  · rw [List.getElem?_set_ne (Ne.symm hkp)] at hk
    exact hP k q hk
theorem loop_in {L i : Nat} (hL : L ≤ 2048) (hi : 4 * i ≤ L) (h : ¬ ((Int32.ofNat L) - 4) < (nI (4 * i))) : 4 * i + 4 ≤ L := by
  have h : ¬ (nI L - nI 4) < nI (4 * i) := h
  rw [Int32.lt_iff_toInt_lt, pk_sub_toInt (by omega) (by omega), nI_toInt (by omega)] at h
  omega
theorem add4 (i : Nat) : (nI (4 * i)) + 4 = nI (4 * (i + 1)) := by
  rw [show (4 : Int32) = nI 4 from rfl, nI_add]
  rfl
