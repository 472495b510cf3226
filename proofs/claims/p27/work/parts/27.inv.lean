/-! what stays true of the row -/
def OffOk (R : RS) : Prop := R 1 ≤ 300 ∧ ∀ k, k < R 1 → kp R k = true → oc R k 0 ≤ R 0 ∧ oc R k 1 ≤ 60 ∧ oc R k 2 ≤ 60
theorem Inv.off {R : RS} (hI : Inv R) : OffOk R := ⟨hI.1.2.1, hI.2.2.2.2.2.2⟩
theorem OffOk.far {R : RS} {i v : Nat} (h : OffOk R) (h0 : i ≠ 0) (h1 : i ≠ 1) (h2 : i < 93 ∨ 993 ≤ i) : OffOk (un R i v) := by
  have e1 : un R i v 1 = R 1 := un_ne _ _ (fun z => h1 z.symm)
  refine ⟨by rw [e1]; exact h.1, fun k hk hkp => ?_⟩
  rw [e1] at hk
  have h300 := h.1
  have e : ∀ j, j < 3 → oc (un R i v) k j = oc R k j := fun j hj => un_ne _ _ (by omega)
  have ekp : kp (un R i v) k = kp R k := by simp only [kp, e 0 (by omega)]
  rw [ekp] at hkp
  rw [e 0 (by omega), e 1 (by omega), e 2 (by omega), un_ne _ _ (fun z => h0 z.symm)]
  exact h.2 k hk hkp
theorem OffOk.drop {R : RS} {k0 : Nat} (h : OffOk R) (hk0 : k0 < R 1) : OffOk (dropR R k0) := by
  have e1 : ∀ j, j < 93 → dropR R k0 j = R j := fun j hj => un_ne _ _ (by omega)
  refine ⟨by rw [e1 1 (by omega)]; exact h.1, fun k hk hkp => ?_⟩
  rw [e1 1 (by omega)] at hk
  by_cases hkk : k = k0
  · subst hkk
    have : oc (dropR R k) k 0 = 0 := un_at _ _ _
    simp [kp, this] at hkp
  · have e : ∀ j, j < 3 → oc (dropR R k0) k j = oc R k j := fun j hj => un_ne _ _ (by omega)
    have ekp : kp (dropR R k0) k = kp R k := by simp only [kp, e 0 (by omega)]
    rw [ekp] at hkp
    rw [e 0 (by omega), e 1 (by omega), e 2 (by omega), e1 0 (by omega)]
    exact h.2 k hk hkp
theorem OffOk.add {R : RS} {r a b : Nat} (h : OffOk R) (h1 : R 1 < 300) (hr : r < R 0) (ha : a ≤ 60) (hb : b ≤ 60) : OffOk (addR R r a b) := by
  have e1 : addR R r a b 1 = R 1 + 1 := un_at _ _ _
  have e0 : addR R r a b 0 = R 0 := addR_ne h1 (by omega) (by omega)
  refine ⟨by omega, fun k hk hkp => ?_⟩
  rw [e1] at hk
  rw [e0]
  by_cases hkk : k = R 1
  · subst hkk
    have g0 : oc (addR R r a b) (R 1) 0 = r + 1 := by
      unfold oc addR
      rw [un_ne _ _ (by omega), un_ne _ _ (by omega), un_ne _ _ (by omega)]
      exact un_at _ _ _
    have g1 : oc (addR R r a b) (R 1) 1 = a := by
      unfold oc addR
      rw [un_ne _ _ (by omega), un_ne _ _ (by omega), show 93 + 3 * R 1 + 1 = 94 + 3 * R 1 by omega, un_at]
    have g2 : oc (addR R r a b) (R 1) 2 = b := by
      unfold oc addR
      rw [un_ne _ _ (by omega), show 93 + 3 * R 1 + 2 = 95 + 3 * R 1 by omega, un_at]
    rw [g0, g1, g2]
    exact ⟨hr, ha, hb⟩
  · have e : ∀ j, j < 3 → oc (addR R r a b) k j = oc R k j := fun j hj => by
      unfold oc addR
      rw [un_ne _ _ (by omega), un_ne _ _ (by omega), un_ne _ _ (by omega), un_ne _ _ (by omega)]
    have ekp : kp (addR R r a b) k = kp R k := by simp only [kp, e 0 (by omega)]
    rw [ekp] at hkp
    rw [e 0 (by omega), e 1 (by omega), e 2 (by omega)]
    exact h.2 k (by omega) hkp
theorem OffOk.rest {R R' : RS} {r a b : Nat} (h : OffOk R) (hr12 : r < 12) (hr : r < R 0) (ha : a ≤ 60) (hb : b ≤ 60) (hs : restS R r a b = some R') : OffOk R' ∧ R' 0 = R 0 := by
  unfold restS at hs
  split at hs
  · cases hs
    exact ⟨h.far (by omega) (by omega) (by omega), un_ne _ _ (by omega)⟩
  · split at hs
    · cases hs
    · rename_i h5
      cases hs
      exact ⟨h.add (by omega) hr ha hb, addR_ne (by omega) (by omega) (by omega)⟩
theorem OffOk.cut {R R' : RS} {r PW PL w k : Nat} (h : OffOk R) (hr12 : r < 12) (hr : r < R 0) (hPW : PW ≤ 60) (hPL : PL ≤ 60) (hw : w ≤ 60) (hk : k ≤ 60) (hs : cutS R r PW PL w k = some R') : OffOk R' ∧ R' 0 = R 0 := by
  unfold cutS at hs
  cases h4 : restS R r (PW - w) (if lngB R PW PL w k then PL else k) with
  | none => rw [h4] at hs; cases hs
  | some R1 =>
    rw [h4, Option.bind_some] at hs
    obtain ⟨a1, a2⟩ := h.rest hr12 hr (by omega) (by split <;> omega) h4
    obtain ⟨b1, b2⟩ := a1.rest hr12 (by omega) (by split <;> omega) (by omega) hs
    exact ⟨b1, by omega⟩
theorem OffOk.e {R : RS} (h : OffOk R) {p : Nat} (hp : p < nK R) : eN (EL R) p < R 1 ∧ eR (EL R) p < R 0 ∧ eW (EL R) p ≤ 60 ∧ eL (EL R) p ≤ 60 := by
  obtain ⟨k, h1, h2, h3⟩ := EL_of R hp
  obtain ⟨e1, e2, e3, e4⟩ := EL_e R h1 h2
  rw [h3] at e1 e2 e3 e4
  obtain ⟨g1, g2, g3⟩ := h.2 k h1 h2
  have h4 : 0 < oc R k 0 := by simpa [kp] using h2
  rw [e1, e2, e3, e4]
  exact ⟨h1, by omega, g2, g3⟩
theorem OffOk.take {R R' : RS} {r W w k i s PW PL : Nat} (h : OffOk R) (hr12 : r < 12) (hW : W ≤ 60) (hk : k ≤ 60) (hs : takeS R r W w k i s = some (R', PW, PL)) : OffOk R' ∧ R' 0 = R 0 ∧ PW ≤ 60 ∧ PL ≤ 60 := by
  unfold takeS at hs
  split at hs
  · rename_i p hp
    obtain ⟨hp1, -⟩ := pfo_lt _ _ hp
    obtain ⟨d1, d2, d3, d4⟩ := h.e hp1
    cases hs
    refine ⟨(h.far (by omega) (by omega) (by omega)).drop (by rw [un_ne _ _ (by omega)]; exact d1), ?_, d3, d4⟩
    unfold dropR
    rw [un_ne _ _ (by omega), un_ne _ _ (by omega)]
  · split at hs
    · cases hs
    · cases hs
      refine ⟨(h.far (by omega) (by omega) (by omega)).far (by omega) (by omega) (by omega), ?_, hW, hk⟩
      rw [un_ne _ _ (by omega), un_ne _ _ (by omega)]
theorem stripS_ok {R : RS} {r W i s w k : Nat} (h : OffOk R) (hr12 : r < 12) (hr : r < R 0) (hs : s < 36) (hW : W ≤ 60) (hw : w ≤ 60) (hk : k ≤ 60) (h0 : (stripS R r W i s w k).1 = 0) : OffOk (stripS R r W i s w k).2 ∧ Same R (stripS R r W i s w k).2 i r ∧ (stripS R r W i s w k).2 0 = R 0 ∧ ro (stripS R r W i s w k).2 r 2 ≤ ro R r 2 := by
  cases ht : takeS R r W w k i s with
  | none =>
    have e3 : stripS R r W i s w k = (3, R) := by rw [stripS, ht]
    rw [e3] at h0
    exact absurd h0 (nz_fst (by decide))
  | some t =>
    obtain ⟨R1, PW, PL⟩ := t
    obtain ⟨a1, a2, a3, a4⟩ := h.take hr12 hW hk ht
    obtain ⟨s1, s2, s3, s4, s5⟩ := takeS_same hr12 hs h.1 ht
    cases hc : cutS R1 r PW PL w k with
    | none =>
      have e4 : stripS R r W i s w k = (4, R) := by rw [stripS, ht]; dsimp only; rw [hc]
      rw [e4] at h0
      exact absurd h0 (nz_fst (by decide))
    | some R2 =>
      have e0 : stripS R r W i s w k = (0, R2) := by rw [stripS, ht]; dsimp only; rw [hc]
      rw [e0]
      obtain ⟨b1, b2⟩ := a1.cut hr12 (by omega) a3 a4 hw hk hc
      exact ⟨b1, s1.tr (cutS_Same hc), by show R2 0 = R 0; omega, Nat.le_trans (Nat.le_of_eq (cutS_same hc _ (by omega) (by omega) (by omega))) s4⟩
theorem coverL_ok {r W i : Nat} (hr12 : r < 12) (hW : W ≤ 60) : ∀ (S : List (Nat × Nat)) (s : Nat) (R : RS), OffOk R → r < R 0 → s + S.length ≤ 36 → (∀ p ∈ S, p.1 ≤ 60 ∧ p.2 ≤ 60) → (coverL r W i S s R).1 = 0 → OffOk (coverL r W i S s R).2 ∧ Same R (coverL r W i S s R).2 i r ∧ (coverL r W i S s R).2 0 = R 0 ∧ ro (coverL r W i S s R).2 r 2 ≤ ro R r 2
  | [], s, R, h, hr, hl, hS, h0 => ⟨h, Same.rf, rfl, Nat.le_refl _⟩
  | p :: ps, s, R, h, hr, hl, hS, h0 => by
    rw [List.length_cons] at hl
    rw [coverL_cons] at h0 ⊢
    by_cases hz : (stripS R r W i s p.1 p.2).1 = 0
    · rw [if_pos hz] at h0 ⊢
      obtain ⟨a1, a2, a3, a4⟩ := stripS_ok h hr12 hr (by omega) hW (hS p List.mem_cons_self).1 (hS p List.mem_cons_self).2 hz
      obtain ⟨b1, b2, b3, b4⟩ := coverL_ok hr12 hW ps (s + 1) _ a1 (by omega) (by omega) (fun q hq => hS q (List.mem_cons_of_mem _ hq)) h0
      exact ⟨b1, a2.tr b2, by omega, by omega⟩
    · rw [if_neg hz] at h0
      exact absurd h0 hz
/-- the rest of Inv, from what is the same -/
theorem Inv.of {R R' : RS} (hI : Inv R) (hO : OffOk R') (h0 : R' 0 = R 0) (h2 : R' 2 = R 2) (h4 : ∀ j, 4 ≤ j → j < 9 → R' j = R j) (hr : ∀ r f, r < 12 → f < 7 → f ≠ 2 → f ≠ 5 → f ≠ 6 → ro R' r f = ro R r f) (hl : ∀ r, r < R 0 → ro R' r 2 ≤ ro R r 2) (hz : ∀ r f, R 0 ≤ r → r < 12 → f < 7 → ro R' r f = ro R r f) (hq : ∀ i, i < 20 → rq R' i = rq R i ∨ (i < R 2 ∧ q8 (rq R' i) (rq R i) ∧ rq R' i 8 ≤ 1 ∧ (rq R' i 8 = 1 → rq R' i 9 < R 0 ∧ rq R' i 10 ≤ 1))) : Inv R' := by
  obtain ⟨⟨a1, a2, a3⟩, ⟨b1, b2, b3, b4, b5⟩, c, d, e, f, g⟩ := hI
  refine ⟨⟨by omega, hO.1, by omega⟩, ⟨by rw [h4 4 (by omega) (by omega)]; exact b1, by rw [h4 5 (by omega) (by omega)]; exact b2, by rw [h4 6 (by omega) (by omega)]; exact b3, by rw [h4 7 (by omega) (by omega)]; exact b4, by rw [h4 8 (by omega) (by omega)]; exact b5⟩, fun r hr2 => ?_, fun r f h1 h3 h5 => ?_, fun i hi => ?_, fun i hi hi2 => ?_, hO.2⟩
  · rw [h0] at hr2
    have := hl r hr2
    obtain ⟨c1, c2, c3, c4, c5⟩ := c r hr2
    rw [hr r 0 (by omega) (by omega) (by omega) (by omega) (by omega), hr r 1 (by omega) (by omega) (by omega) (by omega) (by omega), hr r 3 (by omega) (by omega) (by omega) (by omega) (by omega), hr r 4 (by omega) (by omega) (by omega) (by omega) (by omega)]
    exact ⟨c1, c2, by omega, c4, c5⟩
  · rw [h0] at h1
    rw [hz r f h1 h3 h5]
    exact d r f h1 h3 h5
  · rw [h2] at hi
    rw [h0]
    rcases hq i (by omega) with h | ⟨h, h1, h3, h5⟩
    · rw [h]
      exact e i hi
    · exact ⟨(e i hi).1.cg h1, h3, h5⟩
  · rw [h2] at hi
    rcases hq i hi2 with h | ⟨h, -⟩
    · rw [h]
      exact f i hi hi2
    · omega
theorem coverS_inv {R : RS} (hI : Inv R) {i r y : Nat} (hi : i < R 2) (hr : r < R 0) (hy : y ≤ 1) (h0 : (coverS R i r y).1 = 0) : Inv (coverS R i r y).2 := by
  obtain ⟨k1, k2, k3⟩ := hI.2.2.2.2.1 i hi
  obtain ⟨v1, v2, v3, v4, v5⟩ := hI.2.2.1 r hr
  have hr12 : r < 12 := by have := hI.1.1; omega
  have hi20 : i < 20 := by have := hI.1.2.2; omega
  unfold coverS at h0 ⊢
  by_cases h8 : rq R i 8 = 1
  · rw [if_pos h8] at h0
    exact absurd h0 (nz_fst (by decide))
  · rw [if_neg h8] at h0 ⊢
    by_cases ha : R 8 = 1 ∧ acr (rq R i) y = true
    · rw [if_pos ha] at h0
      exact absurd h0 (nz_fst (by decide))
    · rw [if_neg ha] at h0 ⊢
      by_cases hc : (coverL r (ro R r 1) i (SL (rq R i) y (ro R r 1)) 0 R).1 = 0
      · rw [if_pos hc] at h0 ⊢
        have hS : ∀ p ∈ SL (rq R i) y (ro R r 1), p.1 ≤ 60 ∧ p.2 ≤ 60 := fun p hp => by
          have := SLf_ok k1 hy v2.1 (rq R i 0) 0 (by omega) p hp
          omega
        obtain ⟨a1, a2, a3, a4⟩ := coverL_ok hr12 v2.2 (SL (rq R i) y (ro R r 1)) 0 R hI.off hr (by rw [SL_len]; have := stripsN_le k1 hy v2.1; omega) hS hc
        generalize (coverL r (ro R r 1) i (SL (rq R i) y (ro R r 1)) 0 R).2 = R1 at a1 a2 a3 a4 ⊢
        generalize priceS R i r y = p
        obtain ⟨f0, f1, f2, f3, f4, f5⟩ := finS_at R1 i r y p
        dsimp only
        have hO : OffOk (finS R1 i r y p) := by
          unfold finS
          exact ((((a1.far (by omega) (by omega) (by omega)).far (by omega) (by omega) (by omega)).far (by omega) (by omega) (by omega)).far (by omega) (by omega) (by omega)).far (by omega) (by omega) (by omega)
        refine hI.of hO (by rw [f0 0 (by omega) (by omega) (by omega) (by omega) (by omega)]; exact a3) (by rw [f0 2 (by omega) (by omega) (by omega) (by omega) (by omega)]; exact a2 2 (by omega) (by omega) (by omega) (by omega) (by omega)) (fun j h1 h2 => by rw [f0 j (by omega) (by omega) (by omega) (by omega) (by omega)]; exact a2 j (by omega) (by omega) (by omega) (by omega) (by omega)) (fun r' f h1 h2 h3 h4 h5 => ?_) (fun r' h1 => ?_) (fun r' f h1 h2 h3 => ?_) (fun i' hi' => ?_)
        · exact (f0 _ (by omega) (by omega) (by omega) (by omega) (by omega)).trans (a2.ro h1 h2 (Or.inl ⟨h3, h4⟩))
        · have h12 := hI.1.1
          have e1 : ro (finS R1 i r y p) r' 2 = ro R1 r' 2 := f0 _ (by omega) (by omega) (by omega) (by omega) (by omega)
          rw [e1]
          by_cases hrr : r' = r
          · subst hrr
            exact a4
          · exact Nat.le_of_eq (a2.ro (by omega) (by omega) (Or.inr hrr))
        · exact (f0 _ (by omega) (by omega) (by omega) (by omega) (by omega)).trans (a2.ro h2 h3 (Or.inr (by omega)))
        · by_cases hii : i' = i
          · subst hii
            refine Or.inr ⟨hi, fun w hw => ?_, ?_, fun _ => ⟨?_, ?_⟩⟩
            · rw [rq_w (by omega), rq_w (by omega), f0 _ (by omega) (by omega) (by omega) (by omega) (by omega)]
              exact a2 _ (by omega) (by omega) (by omega) (by omega) (by omega)
            · rw [rq_w (by omega), f1]
              omega
            · rw [rq_w (by omega), f2]
              exact hr
            · rw [rq_w (by omega), f3]
              exact hy
          · exact Or.inl (rq_cong (fun w hw => (f0 _ (by omega) (by omega) (by omega) (by omega) (by omega)).trans (a2 _ (by omega) (by omega) (by omega) (by omega) (by omega))))
      · rw [if_neg hc] at h0
        exact absurd h0 hc
