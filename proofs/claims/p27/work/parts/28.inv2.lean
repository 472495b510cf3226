/-! the row's invariant through the other acts -/
theorem liftL_ok {r : Nat} (hr12 : r < 12) : ∀ (S : List (Nat × Nat)) (R : RS) (n : Nat), OffOk R → r < R 0 → (∀ p ∈ S, p.1 ≤ 60 ∧ p.2 ≤ 60) → OffOk (liftL r S R n).1 ∧ ∀ j, j ≠ 1 → j ≠ 9 + 7 * r + 5 → (j < 93 ∨ 993 ≤ j) → (liftL r S R n).1 j = R j
  | [], R, n, h, hr, hS => ⟨h, fun _ _ _ _ => rfl⟩
  | p :: ps, R, n, h, hr, hS => by
    have hp := hS p List.mem_cons_self
    rw [liftL_cons]
    by_cases hc : 60 ≤ nK R ∨ 300 ≤ R 1
    · rw [if_pos hc]
      have e0 : wasteR R r (p.1 * p.2) 0 = R 0 := un_ne _ _ (by omega)
      obtain ⟨a1, a2⟩ := liftL_ok hr12 ps (wasteR R r (p.1 * p.2)) n (h.far (by omega) (by omega) (by omega)) (by rw [e0]; exact hr) (fun q hq => hS q (List.mem_cons_of_mem _ hq))
      exact ⟨a1, fun j h1 h2 h3 => (a2 j h1 h2 h3).trans (un_ne _ _ h2)⟩
    · rw [if_neg hc]
      have e0 : addR R r p.1 p.2 0 = R 0 := addR_ne (by omega) (by omega) (by omega)
      obtain ⟨a1, a2⟩ := liftL_ok hr12 ps (addR R r p.1 p.2) (n + 1) (h.add (by omega) hr hp.1 hp.2) (by rw [e0]; exact hr) (fun q hq => hS q (List.mem_cons_of_mem _ hq))
      exact ⟨a1, fun j h1 h2 h3 => (a2 j h1 h2 h3).trans (addR_ne (by omega) h1 h3)⟩
theorem liftS_inv {R : RS} (hI : Inv R) {i : Nat} (hi : i < R 2) (h8 : rq R i 8 = 1) : Inv (liftS R i).1 := by
  obtain ⟨k1, k2, k3⟩ := hI.2.2.2.2.1 i hi
  obtain ⟨k4, k5⟩ := k3 h8
  obtain ⟨v1, v2, v3, v4, v5⟩ := hI.2.2.1 _ k4
  have hr12 : rq R i 9 < 12 := by have := hI.1.1; omega
  have hi20 : i < 20 := by have := hI.1.2.2; omega
  have hS : ∀ p ∈ SL (rq R i) (rq R i 10) (ro R (rq R i 9) 1), p.1 ≤ 60 ∧ p.2 ≤ 60 := fun p hp => by
    have := SLf_ok k1 k5 v2.1 (rq R i 0) 0 (by omega) p hp
    omega
  obtain ⟨a1, a2⟩ := liftL_ok hr12 _ R 0 hI.off k4 hS
  unfold liftS
  dsimp only
  generalize (liftL (rq R i 9) (SL (rq R i) (rq R i 10) (ro R (rq R i 9) 1)) R 0).1 = R1 at a1 a2 ⊢
  have e : ∀ j, j ≠ 993 + 12 * i + 8 → bareR R1 i j = R1 j := fun j h => un_ne _ _ h
  have e2 : ∀ j, j ≠ 993 + 12 * i + 8 → j ≠ 1 → j ≠ 9 + 7 * rq R i 9 + 5 → (j < 93 ∨ 993 ≤ j) → bareR R1 i j = R j := fun j h1 h2 h3 h4 => (e j h1).trans (a2 j h2 h3 h4)
  refine hI.of (a1.far (by omega) (by omega) (by omega)) (e2 0 (by omega) (by omega) (by omega) (by omega)) (e2 2 (by omega) (by omega) (by omega) (by omega)) (fun j h1 h2 => e2 j (by omega) (by omega) (by omega) (by omega)) (fun r' f h1 h2 h3 h4 h5 => e2 _ (by omega) (by omega) (by omega) (by omega)) (fun r' h1 => Nat.le_of_eq (e2 _ (by have := hI.1.1; omega) (by omega) (by omega) (by have := hI.1.1; omega))) (fun r' f h1 h2 h3 => e2 _ (by omega) (by omega) (by omega) (by omega)) (fun i' hi' => ?_)
  by_cases hii : i' = i
  · subst hii
    have e80 : rq (bareR R1 i') i' 8 = 0 := by rw [rq_w (by omega)]; exact un_at _ _ _
    refine Or.inr ⟨hi, fun w hw => ?_, by omega, fun z => by omega⟩
    rw [rq_w (by omega), rq_w (by omega)]
    exact e2 _ (by omega) (by omega) (by omega) (by omega)
  · exact Or.inl (rq_cong (fun w hw => e2 _ (by omega) (by omega) (by omega) (by omega)))
theorem sellS_ne {R : RS} {k j : Nat} (hk : k < 300) (h1 : j < 93 ∨ 993 ≤ j) (h2 : j ≠ 3) (h3 : j ≠ 9 + 7 * (oc R k 0 - 1) + 6) : sellS R k j = R j := by
  unfold sellS dropR
  rw [un_ne _ _ (by omega), un_ne _ _ h2, un_ne _ _ h3]
theorem sellS_inv {R : RS} (hI : Inv R) {k : Nat} (hk : k < R 1) (hkp : kp R k = true) : Inv (sellS R k) := by
  have h300 := hI.1.2.1
  have h12 := hI.1.1
  have h4 : 0 < oc R k 0 := by simpa [kp] using hkp
  have hoc := (hI.2.2.2.2.2.2 k hk hkp).1
  have e : ∀ j, (j < 93 ∨ 993 ≤ j) → j ≠ 3 → j ≠ 9 + 7 * (oc R k 0 - 1) + 6 → sellS R k j = R j := fun j h1 h2 h3 => sellS_ne (by omega) h1 h2 h3
  have hO : OffOk (sellS R k) := by
    unfold sellS
    refine ((hI.off.far (by omega) (by omega) (by omega)).far (by omega) (by omega) (by omega)).drop ?_
    rw [un_ne _ _ (by omega), un_ne _ _ (by omega)]
    exact hk
  exact hI.of hO (e 0 (by omega) (by omega) (by omega)) (e 2 (by omega) (by omega) (by omega)) (fun j h1 h2 => e j (by omega) (by omega) (by omega)) (fun r' f h1 h2 h3 h4 h5 => e _ (by omega) (by omega) (by omega)) (fun r' h1 => Nat.le_of_eq (e _ (by omega) (by omega) (by omega))) (fun r' f h1 h2 h3 => e _ (by omega) (by omega) (by omega)) (fun i' hi' => Or.inl (rq_cong (fun w hw => e _ (by omega) (by omega) (by omega))))
theorem clearN_off {R : RS} {r A : Nat} (hr : r < 12) (hO : OffOk R) : ∀ n, n ≤ R 1 → OffOk (clearN R r A n)
  | 0, _ => hO
  | n + 1, hn => by
    have ih := clearN_off (A := A) hr hO n (by omega)
    rw [clearN]
    split
    · refine OffOk.drop (OffOk.far ih (by omega) (by omega) (by omega)) ?_
      unfold wasteR
      rw [un_ne _ _ (by omega), clearN_ne n 1 (by omega) (by omega)]
      omega
    · exact ih
theorem clearS_inv {R : RS} (hI : Inv R) {r A : Nat} (hr : r < R 0) : Inv (clearS R r A) := by
  have h300 := hI.1.2.1
  have h12 := hI.1.1
  have e : ∀ j, j ≠ 9 + 7 * r + 5 → (j < 93 ∨ 993 ≤ j) → clearS R r A j = R j := fun j h1 h2 => clearN_ne _ _ h1 (by omega)
  exact hI.of (clearN_off (by omega) hI.off _ (Nat.le_refl _)) (e 0 (by omega) (by omega)) (e 2 (by omega) (by omega)) (fun j h1 h2 => e j (by omega) (by omega)) (fun r' f h1 h2 h3 h4 h5 => e _ (by omega) (by omega)) (fun r' h1 => Nat.le_of_eq (e _ (by omega) (by omega))) (fun r' f h1 h2 h3 => e _ (by omega) (by omega)) (fun i' hi' => Or.inl (rq_cong (fun w hw => e _ (by omega) (by omega))))
/-- a roll comes -/
def rollS (R : RS) (k w l p : Nat) : RS := un (un (un (un (un (un R 0 (R 0 + 1)) (9 + 7 * R 0 + 0) (ro R (R 0) 0 + k)) (9 + 7 * R 0 + 1) (ro R (R 0) 1 + w)) (9 + 7 * R 0 + 2) (ro R (R 0) 2 + l)) (9 + 7 * R 0 + 3) (ro R (R 0) 3 + p)) (9 + 7 * R 0 + 4) (ro R (R 0) 4 + l)
theorem rollS_at {R : RS} (k w l p : Nat) : (∀ j, j ≠ 0 → (j < 9 + 7 * R 0 ∨ 9 + 7 * R 0 + 5 ≤ j) → rollS R k w l p j = R j) ∧ rollS R k w l p 0 = R 0 + 1 ∧ ro (rollS R k w l p) (R 0) 0 = ro R (R 0) 0 + k ∧ ro (rollS R k w l p) (R 0) 1 = ro R (R 0) 1 + w ∧ ro (rollS R k w l p) (R 0) 2 = ro R (R 0) 2 + l ∧ ro (rollS R k w l p) (R 0) 3 = ro R (R 0) 3 + p ∧ ro (rollS R k w l p) (R 0) 4 = ro R (R 0) 4 + l := by
  unfold rollS
  refine ⟨fun j h1 h2 => ?_, ?_, ?_, ?_, ?_, ?_, ?_⟩
  · rw [un_ne _ _ (by omega), un_ne _ _ (by omega), un_ne _ _ (by omega), un_ne _ _ (by omega), un_ne _ _ (by omega), un_ne _ _ (by omega)]
  · rw [un_ne _ _ (by omega), un_ne _ _ (by omega), un_ne _ _ (by omega), un_ne _ _ (by omega), un_ne _ _ (by omega), un_at]
  · show un _ _ _ (9 + 7 * R 0 + 0) = _
    rw [un_ne _ _ (by omega), un_ne _ _ (by omega), un_ne _ _ (by omega), un_ne _ _ (by omega), un_at]
  · show un _ _ _ (9 + 7 * R 0 + 1) = _
    rw [un_ne _ _ (by omega), un_ne _ _ (by omega), un_ne _ _ (by omega), un_at]
  · show un _ _ _ (9 + 7 * R 0 + 2) = _
    rw [un_ne _ _ (by omega), un_ne _ _ (by omega), un_at]
  · show un _ _ _ (9 + 7 * R 0 + 3) = _
    rw [un_ne _ _ (by omega), un_at]
  · show un _ _ _ (9 + 7 * R 0 + 4) = _
    rw [un_at]
theorem rollS_inv {R : RS} (hI : Inv R) {k w l p : Nat} (h12 : R 0 < 12) (hk : k ≤ 9) (hw : 5 ≤ w ∧ w ≤ 60) (hl : 1 ≤ l ∧ l ≤ 999) (hp : p ≤ 99) : Inv (rollS R k w l p) := by
  obtain ⟨f0, f1, f2, f3, f4, f5, f6⟩ := rollS_at (R := R) k w l p
  obtain ⟨⟨a1, a2, a3⟩, ⟨b1, b2, b3, b4, b5⟩, c, d, e, f, g⟩ := hI
  have z : ∀ x, x < 7 → ro R (R 0) x = 0 := fun x hx => d _ x (Nat.le_refl _) h12 hx
  have ekp : ∀ j x, oc (rollS R k w l p) j x = oc R j x := fun j x => f0 _ (by omega) (by omega)
  refine ⟨⟨by omega, by rw [f0 1 (by omega) (by omega)]; exact a2, by rw [f0 2 (by omega) (by omega)]; exact a3⟩, ⟨by rw [f0 4 (by omega) (by omega)]; exact b1, by rw [f0 5 (by omega) (by omega)]; exact b2, by rw [f0 6 (by omega) (by omega)]; exact b3, by rw [f0 7 (by omega) (by omega)]; exact b4, by rw [f0 8 (by omega) (by omega)]; exact b5⟩, fun r hr => ?_, fun r x h1 h2 h3 => ?_, fun i hi => ?_, fun i hi hi2 => ?_, fun j hj hjk => ?_⟩
  · by_cases hrr : r = R 0
    · subst hrr
      rw [f2, f3, f4, f5, f6, z 0 (by omega), z 1 (by omega), z 2 (by omega), z 3 (by omega), z 4 (by omega)]
      omega
    · have e0 : ∀ x, x < 7 → ro (rollS R k w l p) r x = ro R r x := fun x hx => f0 _ (by omega) (by omega)
      rw [e0 0 (by omega), e0 1 (by omega), e0 2 (by omega), e0 3 (by omega), e0 4 (by omega)]
      exact c r (by omega)
  · exact (f0 _ (by omega) (by omega)).trans (d r x (by omega) h2 h3)
  · rw [f0 2 (by omega) (by omega)] at hi
    rw [show rq (rollS R k w l p) i = rq R i from rq_cong (fun w hw => f0 _ (by omega) (by omega))]
    obtain ⟨e1, e2, e3⟩ := e i hi
    exact ⟨e1, e2, fun z => ⟨by have := (e3 z).1; omega, (e3 z).2⟩⟩
  · rw [f0 2 (by omega) (by omega)] at hi
    rw [show rq (rollS R k w l p) i = rq R i from rq_cong (fun w hw => f0 _ (by omega) (by omega))]
    exact f i hi hi2
  · rw [f0 1 (by omega) (by omega)] at hj
    rw [show kp (rollS R k w l p) j = kp R j by simp only [kp, ekp]] at hjk
    rw [ekp, ekp, ekp]
    obtain ⟨g1, g2⟩ := g j hj hjk
    exact ⟨by omega, g2⟩
theorem setS_inv {R : RS} (hI : Inv R) {k v : Nat} (h : (k = 0 ∧ v ≤ 2) ∨ (k = 1 ∧ 1 ≤ v ∧ v ≤ 20) ∨ (k = 2 ∧ v ≤ 99) ∨ (k = 3 ∧ 1 ≤ v ∧ v ≤ 9) ∨ (k = 4 ∧ v ≤ 1)) : Inv (un R (4 + k) v) := by
  have hO := hI.off.far (i := 4 + k) (v := v) (by omega) (by omega) (by omega)
  obtain ⟨⟨a1, a2, a3⟩, ⟨b1, b2, b3, b4, b5⟩, c, d, e, f, g⟩ := hI
  have n : ∀ j, j ≠ 4 + k → un R (4 + k) v j = R j := fun j hj => un_ne _ _ hj
  have s : ∀ x, x ≠ k → un R (4 + k) v (4 + x) = R (4 + x) := fun x hx => un_ne _ _ (by omega)
  refine ⟨⟨by rw [n 0 (by omega)]; exact a1, hO.1, by rw [n 2 (by omega)]; exact a3⟩, ?_, fun r hr => ?_, fun r x h1 h2 h3 => ?_, fun i hi => ?_, fun i hi hi2 => ?_, hO.2⟩
  · rcases h with ⟨rfl, h⟩ | ⟨rfl, h⟩ | ⟨rfl, h⟩ | ⟨rfl, h⟩ | ⟨rfl, h⟩
    · exact ⟨by rw [show un R (4 + 0) v 4 = v from un_at _ _ _]; exact h, by rw [n 5 (by omega)]; exact b2, by rw [n 6 (by omega)]; exact b3, by rw [n 7 (by omega)]; exact b4, by rw [n 8 (by omega)]; exact b5⟩
    · exact ⟨by rw [n 4 (by omega)]; exact b1, by rw [show un R (4 + 1) v 5 = v from un_at _ _ _]; exact h, by rw [n 6 (by omega)]; exact b3, by rw [n 7 (by omega)]; exact b4, by rw [n 8 (by omega)]; exact b5⟩
    · exact ⟨by rw [n 4 (by omega)]; exact b1, by rw [n 5 (by omega)]; exact b2, by rw [show un R (4 + 2) v 6 = v from un_at _ _ _]; exact h, by rw [n 7 (by omega)]; exact b4, by rw [n 8 (by omega)]; exact b5⟩
    · exact ⟨by rw [n 4 (by omega)]; exact b1, by rw [n 5 (by omega)]; exact b2, by rw [n 6 (by omega)]; exact b3, by rw [show un R (4 + 3) v 7 = v from un_at _ _ _]; exact h, by rw [n 8 (by omega)]; exact b5⟩
    · exact ⟨by rw [n 4 (by omega)]; exact b1, by rw [n 5 (by omega)]; exact b2, by rw [n 6 (by omega)]; exact b3, by rw [n 7 (by omega)]; exact b4, by rw [show un R (4 + 4) v 8 = v from un_at _ _ _]; exact h⟩
  · have er : ∀ x, ro (un R (4 + k) v) r x = ro R r x := fun x => n _ (by omega)
    rw [n 0 (by omega)] at hr
    rw [er, er, er, er, er]
    exact c r hr
  · rw [n 0 (by omega)] at h1
    exact (n _ (by omega)).trans (d r x h1 h2 h3)
  · rw [n 2 (by omega)] at hi
    rw [show rq (un R (4 + k) v) i = rq R i from rq_cong (fun w hw => n _ (by omega)), n 0 (by omega)]
    exact e i hi
  · rw [n 2 (by omega)] at hi
    rw [show rq (un R (4 + k) v) i = rq R i from rq_cong (fun w hw => n _ (by omega))]
    exact f i hi hi2
/-- rooms come -/
def qOf (rs : RoomS) (w : Nat) : Nat := if w = 0 then rs.1.length else if w = 7 then rs.2 else if w % 2 = 1 then ((rs.1[(w - 1) / 2]?).getD (0, 0)).1 else ((rs.1[(w - 1) / 2]?).getD (0, 0)).2
def addRoom (R : RS) (rs : RoomS) : RS := un (fun j => if 993 + 12 * R 2 ≤ j ∧ j < 993 + 12 * R 2 + 8 then qOf rs (j - (993 + 12 * R 2)) else R j) 2 (R 2 + 1)
def addRooms (R : RS) (L : List RoomS) : RS := L.foldl addRoom R
theorem addRoom_at (R : RS) (rs : RoomS) : addRoom R rs 2 = R 2 + 1 ∧ (∀ j, j ≠ 2 → (j < 993 + 12 * R 2 ∨ 993 + 12 * R 2 + 8 ≤ j) → addRoom R rs j = R j) ∧ ∀ w, w < 8 → addRoom R rs (993 + 12 * R 2 + w) = qOf rs w := by
  refine ⟨un_at _ _ _, fun j h1 h2 => ?_, fun w hw => ?_⟩
  · unfold addRoom
    rw [un_ne _ _ h1]
    exact if_neg (by omega)
  · unfold addRoom
    rw [un_ne _ _ (by omega)]
    rw [if_pos (by omega), show 993 + 12 * R 2 + w - (993 + 12 * R 2) = w by omega]
theorem qOf_geo {rs : RoomS} (h : RsOk rs) {q : Nat → Nat} (hq : ∀ w, w < 8 → q w = qOf rs w) : GeoOk q := by
  obtain ⟨⟨h1, h2⟩, h3, h4⟩ := h
  have e0 : q 0 = rs.1.length := hq 0 (by omega)
  have e7 : q 7 = rs.2 := hq 7 (by omega)
  refine ⟨⟨by omega, by omega, by omega⟩, fun k hk => ?_⟩
  have hk2 : k < rs.1.length := by omega
  have h5 := h3 _ (List.getElem_mem hk2)
  rw [hq (1 + 2 * k) (by omega), hq (2 + 2 * k) (by omega)]
  have a1 : qOf rs (1 + 2 * k) = (rs.1[k]).1 := by
    unfold qOf
    rw [if_neg (by omega), if_neg (by omega), if_pos (by omega), show (1 + 2 * k - 1) / 2 = k by omega, List.getElem?_eq_getElem hk2]
    rfl
  have a2 : qOf rs (2 + 2 * k) = (rs.1[k]).2 := by
    unfold qOf
    rw [if_neg (by omega), if_neg (by omega), if_neg (by omega), show (2 + 2 * k - 1) / 2 = k by omega, List.getElem?_eq_getElem hk2]
    rfl
  rw [a1, a2]
  exact h5
theorem addRoom_inv {R : RS} (hI : Inv R) {rs : RoomS} (h : RsOk rs) (h20 : R 2 < 20) : Inv (addRoom R rs) := by
  obtain ⟨n2, n, nq⟩ := addRoom_at R rs
  obtain ⟨⟨a1, a2, a3⟩, ⟨b1, b2, b3, b4, b5⟩, c, d, e, f, g⟩ := hI
  have ekp : ∀ j x, j < R 1 → x < 3 → oc (addRoom R rs) j x = oc R j x := fun j x h1 h2 => n _ (by omega) (by omega)
  have ero : ∀ r x, r < 12 → x < 7 → ro (addRoom R rs) r x = ro R r x := fun r x h1 h2 => n _ (by omega) (by omega)
  refine ⟨⟨by rw [n 0 (by omega) (by omega)]; exact a1, by rw [n 1 (by omega) (by omega)]; exact a2, by omega⟩, ⟨by rw [n 4 (by omega) (by omega)]; exact b1, by rw [n 5 (by omega) (by omega)]; exact b2, by rw [n 6 (by omega) (by omega)]; exact b3, by rw [n 7 (by omega) (by omega)]; exact b4, by rw [n 8 (by omega) (by omega)]; exact b5⟩, fun r hr => ?_, fun r x h1 h2 h3 => ?_, fun i hi => ?_, fun i hi hi2 => ?_, fun j hj hjk => ?_⟩
  · rw [n 0 (by omega) (by omega)] at hr
    rw [ero r 0 (by omega) (by omega), ero r 1 (by omega) (by omega), ero r 2 (by omega) (by omega), ero r 3 (by omega) (by omega), ero r 4 (by omega) (by omega)]
    exact c r hr
  · rw [n 0 (by omega) (by omega)] at h1
    rw [ero r x h2 h3]
    exact d r x h1 h2 h3
  · rw [n2] at hi
    rw [n 0 (by omega) (by omega)]
    by_cases hii : i = R 2
    · have e8 : rq (addRoom R rs) i 8 = 0 := by
        have e9 := f i (by omega) (by omega)
        rw [rq_w (by omega)] at e9 ⊢
        rw [n _ (by omega) (by omega)]
        exact e9
      refine ⟨qOf_geo h (fun w hw => ?_), by omega, fun z => by omega⟩
      rw [rq_w (by omega), hii]
      exact nq w hw
    · rw [show rq (addRoom R rs) i = rq R i from rq_cong (fun w hw => n _ (by omega) (by omega))]
      exact e i (by omega)
  · rw [n2] at hi
    have e9 := f i (by omega) hi2
    rw [rq_w (by omega)] at e9 ⊢
    rw [n _ (by omega) (by omega)]
    exact e9
  · rw [n 1 (by omega) (by omega)] at hj
    rw [show kp (addRoom R rs) j = kp R j by simp only [kp, ekp j 0 hj (by omega)]] at hjk
    rw [ekp j 0 hj (by omega), ekp j 1 hj (by omega), ekp j 2 hj (by omega), n 0 (by omega) (by omega)]
    exact g j hj hjk
theorem addRooms_inv : ∀ (L : List RoomS) (R : RS), Inv R → (∀ rs ∈ L, RsOk rs) → R 2 + L.length ≤ 20 → Inv (addRooms R L) ∧ addRooms R L 2 = R 2 + L.length
  | [], R, hI, _, _ => ⟨hI, rfl⟩
  | rs :: L, R, hI, h, h20 => by
    rw [List.length_cons] at h20
    have h1 := addRoom_inv hI (h rs List.mem_cons_self) (by omega)
    have h2 := (addRoom_at R rs).1
    obtain ⟨a1, a2⟩ := addRooms_inv L (addRoom R rs) h1 (fun q hq => h q (List.mem_cons_of_mem _ hq)) (by omega)
    refine ⟨a1, ?_⟩
    show addRooms (addRoom R rs) L 2 = _
    rw [a2, List.length_cons]
    omega
