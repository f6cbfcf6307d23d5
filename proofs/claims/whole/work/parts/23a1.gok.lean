theorem cl9 : (9 : Int32).toNatClampNeg = 9 := by decide +kernel
theorem cl10 : (10 : Int32).toNatClampNeg = 10 := by decide +kernel
theorem cl11 : (11 : Int32).toNatClampNeg = 11 := by decide +kernel
theorem cl12 : (12 : Int32).toNatClampNeg = 12 := by decide +kernel
theorem cl13 : (13 : Int32).toNatClampNeg = 13 := by decide +kernel
theorem cl14 : (14 : Int32).toNatClampNeg = 14 := by decide +kernel
theorem cl15 : (15 : Int32).toNatClampNeg = 15 := by decide +kernel
/-- the addresses in the slots, and the spare's, are apart -/
def GOk (L : List Nat) (g : Nat → Nat) (sp : Nat) : Prop := (∀ j, g j ∈ L) ∧ sp ∈ L ∧ (∀ i j, i < 16 → j < 16 → g i = g j → i = j) ∧ ∀ i, i < 16 → g i ≠ sp
theorem pl_inj {A : Nat → Prop} {X : va_W} {L : List Nat} {f : Nat → va_E} (hD : va_D A (X ++ va_pl L f)) : ∀ i j a : Nat, L[i]? = some a → L[j]? = some a → i = j := by
  intro i j a hi hj
  have at1 : ∀ k, L[k]? = some a → (X ++ va_pl L f)[X.length + k]? = some (a, f a) := fun k hk => by
    rw [List.getElem?_append_right (by omega), Nat.add_sub_cancel_left]
    simp [va_pl, hk]
  have := hD.1 _ _ _ _ (at1 i hi) (at1 j hj) rfl
  omega
theorem gok_of {L : List Nat} {d : Nat} (hlen : L.length = 17) (hd : L[16]? = some d) (hinj : ∀ i j a : Nat, L[i]? = some a → L[j]? = some a → i = j) : GOk L (fun j => L.getD j d) d := by
  have at1 : ∀ j, j < 17 → L[j]? = some (L.getD j d) := fun j hj => by
    rw [List.getD_eq_getElem?_getD, List.getElem?_eq_getElem (by omega)]; rfl
  refine ⟨fun j => ?_, List.mem_of_getElem? hd, fun i j hi hj h => ?_, fun i hi h => ?_⟩
  · by_cases hj : j < 17
    · exact List.mem_of_getElem? (at1 j hj)
    · show L.getD j d ∈ L
      rw [List.getD_eq_getElem?_getD, List.getElem?_eq_none (by omega)]
      exact List.mem_of_getElem? hd
  · exact hinj i j _ (at1 i (by omega)) (by rw [at1 j (by omega)]; exact congrArg some h.symm)
  · have h0 := at1 i (by omega)
    have h1 : L.getD i d = d := h
    rw [h1] at h0
    have := hinj i 16 d h0 hd
    omega
