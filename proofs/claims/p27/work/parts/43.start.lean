/-! the state at the start -/
def R00 : RS := fun j => if j = 5 then 3 else if j = 6 then 2 else if j = 7 then 3 else 0
theorem R00_far {j : Nat} (h : j < 5 ∨ 8 ≤ j) : R00 j = 0 := by
  unfold R00
  rw [if_neg (by omega), if_neg (by omega), if_neg (by omega)]
theorem R00_inv : Inv R00 := by
  have h0 : R00 0 = 0 := R00_far (by omega)
  have h1 : R00 1 = 0 := R00_far (by omega)
  have h2 : R00 2 = 0 := R00_far (by omega)
  refine ⟨⟨by omega, by omega, by omega⟩, ⟨by rw [R00_far (by omega)]; omega, ⟨by decide, by decide⟩, by decide, ⟨by decide, by decide⟩, by rw [R00_far (by omega)]; omega⟩, fun r hr => absurd hr (by omega), fun r f h3 h4 h5 => R00_far (by omega), fun i hi => absurd hi (by omega), fun i h3 h4 => ?_, fun k hk => absurd hk (by omega)⟩
  rw [rq_w (by omega)]
  exact R00_far (by omega)
theorem valBk_0 {i k : Nat} (h : i ≠ 2) : valBk i k = 0 := if_neg h
theorem R00_book {mem : Mem} {β : Nat} (h : ∀ i, i < 48 → ∀ k, mem (β + i) k = valBk i k) : BookRep mem β R00 := by
  have z : ∀ i, i < 48 → i ≠ 2 → ∀ k, mem (β + i) k = nI 0 := fun i hi h2 k => (h i hi k).trans (valBk_0 h2)
  have hEL : EL R00 = [] := by
    unfold EL
    rw [R00_far (by omega)]
    rfl
  refine ⟨fun k hk => ?_, ?_, ⟨?_, fun r hr => ?_⟩, ?_, ?_, fun i hi => absurd hi (by rw [R00_far (by omega)]; omega)⟩
  · rw [h 2 (by omega)]
    rcases (show k = 0 ∨ k = 1 ∨ k = 2 ∨ k = 3 ∨ k = 4 by omega) with rfl | rfl | rfl | rfl | rfl <;> rfl
  · rw [R00_far (by omega)]
    exact z 0 (by omega) (by omega) 4
  · rw [R00_far (by omega)]
    exact z 3 (by omega) (by omega) 0
  · have e : ∀ f, f < 7 → ro R00 r f = 0 := fun f hf => R00_far (by omega)
    have el : laidN R00 r = 0 := by
      unfold laidN
      rw [R00_far (by omega)]
      rfl
    rw [e 0 (by omega), e 1 (by omega), e 2 (by omega), e 3 (by omega), e 4 (by omega), e 5 (by omega), e 6 (by omega), el]
    exact ⟨z 5 (by omega) (by omega) r, z 7 (by omega) (by omega) r, z 9 (by omega) (by omega) r, z 11 (by omega) (by omega) r, z 13 (by omega) (by omega) r, z 15 (by omega) (by omega) r, z 17 (by omega) (by omega) r, z 19 (by omega) (by omega) r⟩
  · rw [hEL, R00_far (by omega)]
    exact ⟨by simp, by omega, z 20 (by omega) (by omega) 0, z 20 (by omega) (by omega) 1, fun i hi => absurd hi (by simp)⟩
  · rw [R00_far (by omega)]
    exact z 29 (by omega) (by omega) 0
def G00 : GS := (R00, [], none, [])
theorem CR_start {mem : Mem} {κ : Nat} (h : ∀ i, i < 410 → ∀ k, mem (κ + i) k = valCc i k) : CR mem κ G00 := by
  refine ⟨R00_inv, R00_book (fun i hi k => ?_), ⟨by simp [G00], 0, by omega, ?_, ?_, fun t R ht => ?_⟩, ⟨by simp [G00], ?_, fun i c hi => ?_⟩, ?_⟩
  · rw [show κ + 1 + i = κ + (1 + i) by omega, h _ (by omega)]
    unfold valCc
    rw [if_neg (by omega), if_pos (by omega), show 1 + i - 1 = i by omega]
  · rw [h 193 (by omega)]; rfl
  · rw [h 193 (by omega)]; rfl
  · have ht : ([] : List RS)[t]? = some R := ht
    rw [List.getElem?_nil] at ht
    cases ht
  · rw [h 387 (by omega)]; rfl
  · have hi : ([] : List Nat)[i]? = some c := hi
    rw [List.getElem?_nil] at hi
    cases hi
  · have h7 := h 0 (by omega) 7
    exact h7
