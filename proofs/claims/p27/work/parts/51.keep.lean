/-! p27: what stays true of the row through the acts: the areas of each roll, the sources of strips -/
def AreaOk (R : RS) : Prop := ∀ r, r < R 0 → ro R r 1 * ro R r 4 = bA R r + laidN R r
def SrcOk (R : RS) : Prop := ∀ i, i < R 2 → rq R i 8 = 1 → ∀ s, s < stripsN (rq R i) (rq R i 10) (ro R (rq R i 9) 1) → sc R i s < R 1 ∨ sc R i s = NONE32
def JJ (R : RS) : Prop := AreaOk R ∧ SrcOk R
/-- rooms and rolls as they were, more offcuts perhaps -/
theorem JJ.of {R R' : RS} (hI : Inv R) (hJ : JJ R) (h0 : R' 0 = R 0) (h1 : R 1 ≤ R' 1) (h2 : R' 2 = R 2) (hr : ∀ r, r < R 0 → ro R' r 1 = ro R r 1 ∧ ro R' r 4 = ro R r 4) (hq : ∀ i, i < 20 → rq R' i = rq R i) (hs : ∀ j, 1233 ≤ j → R' j = R j) (hb : ∀ r, r < R 0 → bA R' r = bA R r) : JJ R' := by
  have h20 := hI.1.2.2
  refine ⟨fun r hr0 => ?_, fun i hi h8 s hs0 => ?_⟩
  · rw [h0] at hr0
    rw [(hr r hr0).1, (hr r hr0).2, hb r hr0, laid_cg h2 h20 hq]
    exact hJ.1 r hr0
  · rw [h2] at hi
    rw [hq i (by omega)] at h8 hs0
    have h9 := ((hI.2.2.2.2.1 i hi).2.2 h8).1
    rw [(hr _ h9).1] at hs0
    have e : sc R' i s = sc R i s := hs _ (by omega)
    rw [e]
    rcases hJ.2 i hi h8 s hs0 with h | h
    · exact Or.inl (by omega)
    · exact Or.inr h
theorem coverS_JJ {R : RS} (hI : Inv R) (hJ : JJ R) {i r y : Nat} (hi : i < R 2) (hr : r < R 0) (hy : y ≤ 1) (h0 : (coverS R i r y).1 = 0) : JJ (coverS R i r y).2 := by
  obtain ⟨k1, k2, k3⟩ := hI.2.2.2.2.1 i hi
  obtain ⟨v1, v2, v3, v4, v5⟩ := hI.2.2.1 r hr
  have hr12 : r < 12 := by have := hI.1.1; omega
  have hi20 : i < 20 := by have := hI.1.2.2; omega
  have h20 := hI.1.2.2
  unfold coverS at h0 ⊢
  by_cases h8 : rq R i 8 = 1
  · rw [if_pos h8] at h0
    exact absurd h0 (nz_fst (by decide))
  · rw [if_neg h8] at h0 ⊢
    by_cases ha : R 8 = 1 ∧ acr (rq R i) y = true
    · rw [if_pos ha] at h0
      exact absurd h0 (nz_fst (by decide))
    · rw [if_neg ha] at h0 ⊢
      by_cases hc : (coverL r (ro R r 1) i (SL (rq R i) y (ro R r 1)) 0 R).1 = 0
      · rw [if_pos hc] at h0 ⊢
        have hS : ∀ p ∈ SL (rq R i) y (ro R r 1), p.1 ≤ ro R r 1 ∧ p.2 ≤ 60 := fun p hp => by
          have := SLf_ok k1 hy v2.1 (rq R i 0) 0 (by omega) p hp
          omega
        have hlen : 0 + (SL (rq R i) y (ro R r 1)).length ≤ 36 := by rw [SL_len]; have := stripsN_le k1 hy v2.1; omega
        obtain ⟨a1, a2, a3, a4⟩ := coverL_ok hr12 v2.2 (SL (rq R i) y (ro R r 1)) 0 R hI.off hr hlen (fun p hp => by have := hS p hp; omega) hc
        obtain ⟨c1, c2, c3, c4⟩ := bA_coverL hr12 v2.2 (SL (rq R i) y (ro R r 1)) 0 R hI.off hr rfl hlen hS hc
        rw [SL_sum k1 hy (by omega)] at c4
        rw [SL_len] at c2
        generalize (coverL r (ro R r 1) i (SL (rq R i) y (ro R r 1)) 0 R).2 = R1 at a1 a2 a3 a4 c1 c2 c3 c4 ⊢
        generalize priceS R i r y = p
        obtain ⟨f0, f1, f2, f3, f4, f5⟩ := finS_at R1 i r y p
        dsimp only
        have h300 := a1.1
        have hq8 : q8 (rq (finS R1 i r y p) i) (rq R i) := fun w hw => by
          rw [rq_w (by omega), rq_w (by omega), f0 _ (by omega) (by omega) (by omega) (by omega) (by omega)]
          exact a2 _ (by omega) (by omega) (by omega) (by omega) (by omega)
        have hqo : ∀ i', i' < 20 → i' ≠ i → rq (finS R1 i r y p) i' = rq R i' := fun i' h1 h2 => rq_cong (fun w hw => (f0 _ (by omega) (by omega) (by omega) (by omega) (by omega)).trans (a2 _ (by omega) (by omega) (by omega) (by omega) (by omega)))
        have e8 : rq (finS R1 i r y p) i 8 = 1 := by rw [rq_w (by omega)]; exact f1
        have e9 : rq (finS R1 i r y p) i 9 = r := by rw [rq_w (by omega)]; exact f2
        have e10 : rq (finS R1 i r y p) i 10 = y := by rw [rq_w (by omega)]; exact f3
        have g0 : finS R1 i r y p 0 = R 0 := by rw [f0 0 (by omega) (by omega) (by omega) (by omega) (by omega)]; exact a3
        have g1 : finS R1 i r y p 1 = R1 1 := f0 1 (by omega) (by omega) (by omega) (by omega) (by omega)
        have g2 : finS R1 i r y p 2 = R 2 := by rw [f0 2 (by omega) (by omega) (by omega) (by omega) (by omega)]; exact a2 2 (by omega) (by omega) (by omega) (by omega) (by omega)
        have eB : ∀ r', r' < 12 → bA (finS R1 i r y p) r' = bA R1 r' := fun r' hr' => bA_cg g1 (fun k j hk hj => f0 _ (by omega) (by omega) (by omega) (by omega) (by omega)) (fun f hf => f0 _ (by omega) (by omega) (by omega) (by omega) (by omega))
        have er : ∀ r' f, r' < 12 → f = 1 ∨ f = 4 → ro (finS R1 i r y p) r' f = ro R r' f := fun r' f hr' hf => (f0 _ (by omega) (by omega) (by omega) (by omega) (by omega)).trans (a2.ro hr' (by omega) (Or.inl (by omega)))
        have el : ∀ r', laidN (finS R1 i r y p) r' = laidN R r' + (if r' = r then areaN (rq R i) else 0) := fun r' => by
          unfold laidN
          rw [g2]
          refine (sN_upd (f := fun k => if rq R k 8 = 1 ∧ rq R k 9 = r' then areaN (rq R k) else 0) (f' := fun k => if rq (finS R1 i r y p) k 8 = 1 ∧ rq (finS R1 i r y p) k 9 = r' then areaN (rq (finS R1 i r y p) k) else 0) (i := i) (R 2) hi (fun k hk hne => by rw [hqo k (by omega) hne]) (if_neg (fun z => h8 z.1))).trans ?_
          congr 1
          rw [e8, e9, areaN_cg hq8 k1.1.2.1]
          by_cases hrr : r' = r
          · rw [if_pos hrr, if_pos ⟨rfl, hrr.symm⟩]
          · rw [if_neg hrr, if_neg (fun z => hrr z.2.symm)]
        refine ⟨fun r' hr' => ?_, fun i' hi' h8' s hs' => ?_⟩
        · rw [g0] at hr'
          have h12 : r' < 12 := by have := hI.1.1; omega
          rw [er r' 1 h12 (Or.inl rfl), er r' 4 h12 (Or.inr rfl), eB r' h12, el r']
          have h1 := hJ.1 r' hr'
          have h2 := c4 r' h12
          omega
        · rw [g2] at hi'
          rw [g1]
          by_cases hii : i' = i
          · subst hii
            rw [e9, e10, er r 1 hr12 (Or.inl rfl), stripsN_cg hq8 k1.1.2.1 hy] at hs'
            have hs36 := stripsN_le k1 hy v2.1
            rw [show sc (finS R1 i' r y p) i' s = sc R1 i' s from f0 _ (by omega) (by omega) (by omega) (by omega) (by omega)]
            exact c2 s (Nat.zero_le _) (by omega)
          · rw [hqo i' (by omega) hii] at h8' hs'
            obtain ⟨m1, m2, m3⟩ := hI.2.2.2.2.1 i' hi'
            have h9 := (m3 h8').1
            have h12 : rq R i' 9 < 12 := by have := hI.1.1; omega
            rw [er _ 1 h12 (Or.inl rfl)] at hs'
            have hs36 := stripsN_le m1 (m3 h8').2 (hI.2.2.1 _ h9).2.1.1
            rw [show sc (finS R1 i r y p) i' s = sc R i' s from (f0 _ (by omega) (by omega) (by omega) (by omega) (by omega)).trans (a2 _ (by omega) (by omega) (by omega) (by omega) (by omega))]
            rcases hJ.2 i' hi' h8' s hs' with h | h
            · exact Or.inl (by omega)
            · exact Or.inr h
      · rw [if_neg hc] at h0
        exact absurd h0 hc
/-- carpet that is taken up: what comes, what is thrown away -/
theorem liftL_bA {r : Nat} (hr12 : r < 12) : ∀ (S : List (Nat × Nat)) (R : RS) (n : Nat), R 1 ≤ 300 → (∀ p ∈ S, 1 ≤ p.1 ∧ 1 ≤ p.2) → (R 1 ≤ (liftL r S R n).1 1 ∧ (liftL r S R n).1 1 ≤ 300) ∧ (∀ r', r' < 12 → bA (liftL r S R n).1 r' = bA R r' + (if r' = r then sumA S else 0)) ∧ (n ≤ (liftL r S R n).2 ∧ (liftL r S R n).2 ≤ n + S.length ∧ (liftL r S R n).1 1 + n = R 1 + (liftL r S R n).2) ∧ (ro R r 5 ≤ ro (liftL r S R n).1 r 5 ∧ ((liftL r S R n).2 = n + S.length ↔ ro (liftL r S R n).1 r 5 = ro R r 5)) ∧ ((60 ≤ nK R ∨ 300 ≤ R 1) → (liftL r S R n).2 = n) ∧ ∀ k j, k < R 1 → j < 3 → oc (liftL r S R n).1 k j = oc R k j
  | [], R, n, h, hS => by
    refine ⟨⟨Nat.le_refl _, h⟩, fun r' _ => ?_, ⟨Nat.le_refl _, Nat.le_refl _, rfl⟩, ⟨Nat.le_refl _, ⟨fun _ => rfl, fun _ => rfl⟩⟩, fun _ => rfl, fun _ _ _ _ => rfl⟩
    show bA R r' = bA R r' + (if r' = r then 0 else 0)
    rw [ite_self, Nat.add_zero]
  | p :: ps, R, n, h, hS => by
    have hp := hS p List.mem_cons_self
    have hpp : 1 ≤ p.1 * p.2 := Nat.mul_pos hp.1 hp.2
    rw [liftL_cons]
    by_cases hc : 60 ≤ nK R ∨ 300 ≤ R 1
    · rw [if_pos hc]
      have e1 : wasteR R r (p.1 * p.2) 1 = R 1 := un_ne _ _ (by omega)
      have eE : nK (wasteR R r (p.1 * p.2)) = nK R := congrArg List.length (EL_waste hr12 h)
      obtain ⟨a1, a2, a3, a4, a5, a6⟩ := liftL_bA hr12 ps (wasteR R r (p.1 * p.2)) n (by rw [e1]; exact h) (fun q hq => hS q (List.mem_cons_of_mem _ hq))
      have ew : ro (wasteR R r (p.1 * p.2)) r 5 = ro R r 5 + p.1 * p.2 := un_at _ _ _
      rw [e1] at a1 a3 a5 a6
      rw [eE] at a5
      rw [ew] at a4
      have hn := a5 hc
      refine ⟨a1, fun r' hr' => ?_, ⟨a3.1, by rw [List.length_cons]; omega, a3.2.2⟩, ⟨by omega, ⟨fun z => ?_, fun z => ?_⟩⟩, fun _ => hn, fun k j hk hj => (a6 k j hk hj).trans (un_ne _ _ (by omega))⟩
      · rw [a2 r' hr', bA_waste hr12 h r' hr', sumA]
        by_cases hrr : r' = r
        · simp only [if_pos hrr]
          omega
        · simp only [if_neg hrr]
      · rw [List.length_cons] at z
        omega
      · omega
    · rw [if_neg hc]
      have e1 : addR R r p.1 p.2 1 = R 1 + 1 := un_at _ _ _
      obtain ⟨a1, a2, a3, a4, a5, a6⟩ := liftL_bA hr12 ps (addR R r p.1 p.2) (n + 1) (by omega) (fun q hq => hS q (List.mem_cons_of_mem _ hq))
      have ew : ro (addR R r p.1 p.2) r 5 = ro R r 5 := addR_ne (by omega) (by omega) (by omega)
      rw [e1] at a1 a3 a6
      rw [ew] at a4
      refine ⟨⟨by omega, a1.2⟩, fun r' hr' => ?_, ⟨by omega, by rw [List.length_cons]; omega, by omega⟩, ⟨a4.1, by rw [← a4.2, List.length_cons]; omega⟩, fun z => absurd z hc, fun k j hk hj => (a6 k j (by omega) hj).trans ?_⟩
      · rw [a2 r' hr', bA_add (by omega) r' hr', sumA]
        by_cases hrr : r' = r
        · simp only [if_pos hrr]
          omega
        · simp only [if_neg hrr]
      · unfold oc addR
        rw [un_ne _ _ (by omega), un_ne _ _ (by omega), un_ne _ _ (by omega), un_ne _ _ (by omega)]
/-- the first strip is the first offcut that comes -/
theorem liftL_first {r : Nat} (hr12 : r < 12) {p : Nat × Nat} {ps : List (Nat × Nat)} {R : RS} (h : R 1 ≤ 300) (hS : ∀ q ∈ p :: ps, 1 ≤ q.1 ∧ 1 ≤ q.2) (hn : (liftL r (p :: ps) R 0).2 ≠ 0) : oc (liftL r (p :: ps) R 0).1 (R 1) 0 = r + 1 ∧ oc (liftL r (p :: ps) R 0).1 (R 1) 1 = p.1 ∧ oc (liftL r (p :: ps) R 0).1 (R 1) 2 = p.2 := by
  by_cases hc : 60 ≤ nK R ∨ 300 ≤ R 1
  · exact absurd ((liftL_bA hr12 (p :: ps) R 0 h hS).2.2.2.2.1 hc) hn
  · rw [liftL_cons, if_neg hc]
    have e1 : addR R r p.1 p.2 1 = R 1 + 1 := un_at _ _ _
    obtain ⟨-, -, -, -, -, a6⟩ := liftL_bA hr12 ps (addR R r p.1 p.2) (0 + 1) (by omega) (fun q hq => hS q (List.mem_cons_of_mem _ hq))
    rw [a6 (R 1) 0 (by omega) (by omega), a6 (R 1) 1 (by omega) (by omega), a6 (R 1) 2 (by omega) (by omega)]
    unfold oc addR
    refine ⟨?_, ?_, ?_⟩
    · rw [un_ne _ _ (by omega), un_ne _ _ (by omega), un_ne _ _ (by omega)]
      exact un_at _ _ _
    · rw [un_ne _ _ (by omega), un_ne _ _ (by omega), show 93 + 3 * R 1 + 1 = 94 + 3 * R 1 by omega, un_at]
    · rw [un_ne _ _ (by omega), show 93 + 3 * R 1 + 2 = 95 + 3 * R 1 by omega, un_at]
theorem SL_pos {q : Nat → Nat} {y W : Nat} (hG : GeoOk q) (hy : y ≤ 1) (hW : 5 ≤ W) : ∀ p ∈ SL q y W, (1 ≤ p.1 ∧ 1 ≤ p.2) ∧ p.1 ≤ 60 + W ∧ p.2 ≤ 60 := fun p hp => by
  have := SLf_ok hG hy hW (q 0) 0 (by omega) p hp
  omega
theorem liftS_JJ {R : RS} (hI : Inv R) (hJ : JJ R) {i : Nat} (hi : i < R 2) (h8 : rq R i 8 = 1) : JJ (liftS R i).1 := by
  obtain ⟨k1, k2, k3⟩ := hI.2.2.2.2.1 i hi
  obtain ⟨k4, k5⟩ := k3 h8
  obtain ⟨v1, v2, v3, v4, v5⟩ := hI.2.2.1 _ k4
  have hr12 : rq R i 9 < 12 := by have := hI.1.1; omega
  have hi20 : i < 20 := by have := hI.1.2.2; omega
  have h20 := hI.1.2.2
  obtain ⟨a1, a2, a3, a4, a5, a6⟩ := liftL_bA hr12 (SL (rq R i) (rq R i 10) (ro R (rq R i 9) 1)) R 0 hI.1.2.1 (fun p hp => (SL_pos k1 k5 v2.1 p hp).1)
  obtain ⟨b1, b2⟩ := liftL_ok hr12 (SL (rq R i) (rq R i 10) (ro R (rq R i 9) 1)) R 0 hI.off k4 (fun p hp => by
    have := SLf_ok k1 k5 v2.1 (rq R i 0) 0 (by omega) p hp
    omega)
  rw [SL_sum k1 k5 (by omega)] at a2
  unfold liftS
  dsimp only
  generalize (liftL (rq R i 9) (SL (rq R i) (rq R i 10) (ro R (rq R i 9) 1)) R 0).1 = R1 at a1 a2 a3 a4 a6 b1 b2 ⊢
  have e : ∀ j, j ≠ 993 + 12 * i + 8 → bareR R1 i j = R1 j := fun j h => un_ne _ _ h
  have e2 : ∀ j, j ≠ 993 + 12 * i + 8 → j ≠ 1 → j ≠ 9 + 7 * rq R i 9 + 5 → (j < 93 ∨ 993 ≤ j) → bareR R1 i j = R j := fun j h1 h2 h3 h4 => (e j h1).trans (b2 j h2 h3 h4)
  have e80 : rq (bareR R1 i) i 8 = 0 := by rw [rq_w (by omega)]; exact un_at _ _ _
  have hqo : ∀ i', i' < 20 → i' ≠ i → rq (bareR R1 i) i' = rq R i' := fun i' h1 h2 => rq_cong (fun w hw => e2 _ (by omega) (by omega) (by omega) (by omega))
  have h300 := a1.2
  have eB : ∀ r', r' < 12 → bA (bareR R1 i) r' = bA R1 r' := fun r' hr' => bA_cg (e 1 (by omega)) (fun k j hk hj => e _ (by omega)) (fun f hf => e _ (by omega))
  have er : ∀ r' f, r' < 12 → f < 7 → f ≠ 5 → ro (bareR R1 i) r' f = ro R r' f := fun r' f hr' hf h5 => e2 _ (by omega) (by omega) (by omega) (by omega)
  have el : ∀ r', laidN R r' = laidN (bareR R1 i) r' + (if r' = rq R i 9 then areaN (rq R i) else 0) := fun r' => by
    unfold laidN
    rw [e2 2 (by omega) (by omega) (by omega) (by omega)]
    refine (sN_upd (f := fun k => if rq (bareR R1 i) k 8 = 1 ∧ rq (bareR R1 i) k 9 = r' then areaN (rq (bareR R1 i) k) else 0) (f' := fun k => if rq R k 8 = 1 ∧ rq R k 9 = r' then areaN (rq R k) else 0) (i := i) (R 2) hi (fun k hk hne => by rw [hqo k (by omega) hne]) (by rw [e80]; simp)).trans ?_
    congr 1
    rw [h8]
    by_cases hrr : r' = rq R i 9
    · rw [if_pos hrr, if_pos ⟨rfl, hrr.symm⟩]
    · rw [if_neg hrr, if_neg (fun z => hrr z.2.symm)]
  refine ⟨fun r' hr' => ?_, fun i' hi' h8' s hs' => ?_⟩
  · rw [e2 0 (by omega) (by omega) (by omega) (by omega)] at hr'
    have h12 : r' < 12 := by have := hI.1.1; omega
    rw [er r' 1 h12 (by omega) (by omega), er r' 4 h12 (by omega) (by omega), eB r' h12, a2 r' h12]
    have h1 := hJ.1 r' hr'
    have h2 := el r'
    omega
  · rw [e2 2 (by omega) (by omega) (by omega) (by omega)] at hi'
    rw [e 1 (by omega)]
    by_cases hii : i' = i
    · subst hii
      omega
    · rw [hqo i' (by omega) hii] at h8' hs'
      have h9 := ((hI.2.2.2.2.1 i' hi').2.2 h8').1
      rw [er _ 1 (by have := hI.1.1; omega) (by omega) (by omega)] at hs'
      rw [show sc (bareR R1 i) i' s = sc R i' s from e2 _ (by omega) (by omega) (by omega) (by omega)]
      rcases hJ.2 i' hi' h8' s hs' with h | h
      · exact Or.inl (by omega)
      · exact Or.inr h
theorem sellS_JJ {R : RS} (hI : Inv R) (hJ : JJ R) {k : Nat} (hk : k < R 1) (hkp : kp R k = true) : JJ (sellS R k) := by
  have h300 := hI.1.2.1
  have h12 := hI.1.1
  have h4 : 0 < oc R k 0 := by simpa [kp] using hkp
  have hoc := (hI.2.2.2.2.2.2 k hk hkp).1
  have e : ∀ j, (j < 93 ∨ 993 ≤ j) → j ≠ 3 → j ≠ 9 + 7 * (oc R k 0 - 1) + 6 → sellS R k j = R j := fun j h1 h2 h3 => sellS_ne (by omega) h1 h2 h3
  refine hJ.of hI (e 0 (by omega) (by omega) (by omega)) (Nat.le_of_eq (e 1 (by omega) (by omega) (by omega)).symm) (e 2 (by omega) (by omega) (by omega)) (fun r hr => ⟨e _ (by omega) (by omega) (by omega), e _ (by omega) (by omega) (by omega)⟩) (fun i hi => rq_cong (fun w hw => e _ (by omega) (by omega) (by omega))) (fun j hj => e _ (by omega) (by omega) (by omega)) (fun r hr => ?_)
  unfold sellS
  generalize hR1 : un (un R (9 + 7 * (oc R k 0 - 1) + 6) (ro R (oc R k 0 - 1) 6 + oc R k 1 * oc R k 2)) 3 (R 3 + oc R k 1 * oc R k 2 * ro R (oc R k 0 - 1) 3 / 2) = R1
  have f : ∀ j, j ≠ 3 → j ≠ 9 + 7 * (oc R k 0 - 1) + 6 → R1 j = R j := fun j h1 h2 => by rw [← hR1, un_ne _ _ h1, un_ne _ _ h2]
  have fo : ∀ j x, oc R1 j x = oc R j x := fun j x => f _ (by omega) (by omega)
  have f1 := f 1 (by omega) (by omega)
  have hk1 : kp R1 k = true := by simp only [kp, fo]; exact hkp
  have ha : akN R1 r = akN R r := akN_cg f1 (fun k j _ _ => fo k j)
  have hd := akN_drop (R := R1) (k := k) (by omega) hk1 r
  rw [ha, fo, fo, fo] at hd
  have er : ∀ x, x < 7 → ro (dropR R1 k) r x = ro R1 r x := fun x hx => un_ne _ _ (by omega)
  unfold bA
  rw [er 1 (by omega), er 2 (by omega), er 5 (by omega), er 6 (by omega), show ro R1 r 1 = ro R r 1 from f _ (by omega) (by omega), show ro R1 r 2 = ro R r 2 from f _ (by omega) (by omega), show ro R1 r 5 = ro R r 5 from f _ (by omega) (by omega), hd]
  by_cases hrr : oc R k 0 = r + 1
  · have e6 : ro R1 r 6 = ro R r 6 + oc R k 1 * oc R k 2 := by
      rw [← hR1]
      unfold ro
      rw [un_ne _ _ (by omega), show 9 + 7 * (oc R k 0 - 1) + 6 = 9 + 7 * r + 6 by omega, un_at]
    rw [if_pos hrr, e6]
    omega
  · rw [if_neg hrr, show ro R1 r 6 = ro R r 6 from f _ (by omega) (by omega)]
    omega
theorem clearN_bA {R : RS} {r A : Nat} (hr : r < 12) (h300 : R 1 ≤ 300) : ∀ n, n ≤ R 1 → ∀ r', r' < 12 → bA (clearN R r A n) r' = bA R r'
  | 0, _, _, _ => rfl
  | n + 1, hn, r', hr' => by
    have ih := clearN_bA (A := A) hr h300 n (by omega) r' hr'
    rw [clearN]
    by_cases hs : smK R r A n = true
    · rw [if_pos hs, ← ih]
      have hs2 : kp R n = true ∧ (oc R n 0 - 1 = r ∧ oc R n 1 * oc R n 2 < A) := by
        unfold smK smB at hs
        rw [Bool.and_eq_true, Bool.and_eq_true] at hs
        exact ⟨hs.1, of_decide_eq_true hs.2.1, of_decide_eq_true hs.2.2⟩
      have h0 : 0 < oc R n 0 := by simpa [kp] using hs2.1
      generalize hR0 : clearN R r A n = R0
      have z1 : R0 1 = R 1 := by rw [← hR0]; exact clearN_ne n 1 (by omega) (by omega)
      have zo : ∀ x, x < 3 → oc R0 n x = oc R n x := fun x hx => by
        rw [← hR0, clearN_oc hr n n x hx, if_neg (by omega)]
      have wo : ∀ x, x < 3 → oc (wasteR R0 r (oc R n 1 * oc R n 2)) n x = oc R n x := fun x hx => (un_ne _ _ (by omega)).trans (zo x hx)
      have w1 : wasteR R0 r (oc R n 1 * oc R n 2) 1 = R 1 := (un_ne _ _ (by omega)).trans z1
      have hk1 : kp (wasteR R0 r (oc R n 1 * oc R n 2)) n = true := by simp only [kp, wo 0 (by omega)]; exact hs2.1
      have hd := akN_drop (R := wasteR R0 r (oc R n 1 * oc R n 2)) (k := n) (by omega) hk1 r'
      have hw := bA_waste (R := R0) (r := r) (x := oc R n 1 * oc R n 2) hr (by omega) r' hr'
      rw [wo 0 (by omega), wo 1 (by omega), wo 2 (by omega)] at hd
      have er : ∀ x, x < 7 → ro (dropR (wasteR R0 r (oc R n 1 * oc R n 2)) n) r' x = ro (wasteR R0 r (oc R n 1 * oc R n 2)) r' x := fun x hx => un_ne _ _ (by omega)
      unfold bA at hw ⊢
      rw [er 1 (by omega), er 2 (by omega), er 5 (by omega), er 6 (by omega)]
      by_cases hrr : r' = r
      · rw [if_pos hrr] at hw
        rw [if_pos (by omega)] at hd
        omega
      · rw [if_neg hrr] at hw
        rw [if_neg (by omega)] at hd
        omega
    · rw [if_neg hs]
      exact ih
theorem clearS_JJ {R : RS} (hI : Inv R) (hJ : JJ R) {r A : Nat} (hr : r < R 0) : JJ (clearS R r A) := by
  have h300 := hI.1.2.1
  have h12 := hI.1.1
  have e : ∀ j, j ≠ 9 + 7 * r + 5 → (j < 93 ∨ 993 ≤ j) → clearS R r A j = R j := fun j h1 h2 => clearN_ne _ _ h1 (by omega)
  exact hJ.of hI (e 0 (by omega) (by omega)) (Nat.le_of_eq (e 1 (by omega) (by omega)).symm) (e 2 (by omega) (by omega)) (fun r' hr' => ⟨e _ (by omega) (by omega), e _ (by omega) (by omega)⟩) (fun i hi => rq_cong (fun w hw => e _ (by omega) (by omega))) (fun j hj => e _ (by omega) (by omega)) (fun r' hr' => clearN_bA (by omega) h300 _ (Nat.le_refl _) r' (by omega))
theorem setS_JJ {R : RS} (hI : Inv R) (hJ : JJ R) {k v : Nat} (hk : k < 5) : JJ (un R (4 + k) v) := by
  have h300 := hI.1.2.1
  have h12 := hI.1.1
  have e : ∀ j, j ≠ 4 + k → un R (4 + k) v j = R j := fun j hj => un_ne _ _ hj
  exact hJ.of hI (e 0 (by omega)) (Nat.le_of_eq (e 1 (by omega)).symm) (e 2 (by omega)) (fun r hr => ⟨e _ (by omega), e _ (by omega)⟩) (fun i hi => rq_cong (fun w hw => e _ (by omega))) (fun j hj => e _ (by omega)) (fun r hr => bA_cg (e 1 (by omega)) (fun a b _ _ => e _ (by omega)) (fun f hf => e _ (by omega)))
theorem rollS_JJ {R : RS} (hI : Inv R) (hJ : JJ R) {k w l p : Nat} (h12 : R 0 < 12) : JJ (rollS R k w l p) := by
  obtain ⟨f0, f1, f2, f3, f4, f5, f6⟩ := rollS_at (R := R) k w l p
  have z : ∀ x, x < 7 → ro R (R 0) x = 0 := fun x hx => hI.2.2.2.1 _ x (Nat.le_refl _) h12 hx
  have h300 := hI.1.2.1
  have h20 := hI.1.2.2
  have ea : ∀ r, akN (rollS R k w l p) r = akN R r := fun r => akN_cg (f0 1 (by omega) (by omega)) (fun a b _ _ => f0 _ (by omega) (by omega))
  have el : laidN (rollS R k w l p) = laidN R := laid_cg (f0 2 (by omega) (by omega)) h20 (fun i hi => rq_cong (fun x hx => f0 _ (by omega) (by omega)))
  have er : ∀ r x, x < 7 → r < R 0 → ro (rollS R k w l p) r x = ro R r x := fun r x hx hr => f0 _ (by omega) (by omega)
  refine ⟨fun r hr => ?_, fun i hi h8 s hs => ?_⟩
  · rw [el]
    unfold bA
    rw [ea]
    by_cases hrr : r = R 0
    · subst hrr
      have z0 : akN R (R 0) = 0 := sN_zero _ (fun j hj => by
        by_cases hkp : kp R j = true
        · have := (hI.2.2.2.2.2.2 j hj hkp).1
          rw [if_neg (by simp; omega)]
        · rw [if_neg (by simp [hkp])])
      have z5 : ro (rollS R k w l p) (R 0) 5 = 0 := (f0 _ (by omega) (by omega)).trans (z 5 (by omega))
      have z6 : ro (rollS R k w l p) (R 0) 6 = 0 := (f0 _ (by omega) (by omega)).trans (z 6 (by omega))
      rw [f3, f4, f6, z5, z6, z0, z 1 (by omega), z 2 (by omega), z 4 (by omega), laidN_far hI (Nat.le_refl _)]
      omega
    · rw [f1] at hr
      have := hJ.1 r (by omega)
      unfold bA at this
      rw [er r 1 (by omega) (by omega), er r 2 (by omega) (by omega), er r 4 (by omega) (by omega), er r 5 (by omega) (by omega), er r 6 (by omega) (by omega)]
      exact this
  · rw [f0 2 (by omega) (by omega)] at hi
    rw [show rq (rollS R k w l p) i = rq R i from rq_cong (fun x hx => f0 _ (by omega) (by omega))] at h8 hs
    have h9 := ((hI.2.2.2.2.1 i hi).2.2 h8).1
    rw [er _ 1 (by omega) h9] at hs
    rw [f0 1 (by omega) (by omega), show sc (rollS R k w l p) i s = sc R i s from f0 _ (by omega) (by omega)]
    exact hJ.2 i hi h8 s hs
theorem addRoom_JJ {R : RS} (hI : Inv R) (hJ : JJ R) (rs : RoomS) (h20 : R 2 < 20) : JJ (addRoom R rs) := by
  obtain ⟨n2, n, nq⟩ := addRoom_at R rs
  have h300 := hI.1.2.1
  have h12 := hI.1.1
  have e8 : rq (addRoom R rs) (R 2) 8 = 0 := by
    have e9 := hI.2.2.2.2.2.1 (R 2) (Nat.le_refl _) h20
    rw [rq_w (by omega)] at e9 ⊢
    rw [n _ (by omega) (by omega)]
    exact e9
  have hq : ∀ i, i < R 2 → rq (addRoom R rs) i = rq R i := fun i hi => rq_cong (fun w hw => n _ (by omega) (by omega))
  have el : ∀ r, laidN (addRoom R rs) r = laidN R r := fun r => by
    unfold laidN
    rw [n2, sN, e8, if_neg (by omega)]
    exact (Nat.add_zero _).trans (sN_cong _ (fun i hi => by rw [hq i hi]))
  have er : ∀ r x, r < 12 → x < 7 → ro (addRoom R rs) r x = ro R r x := fun r x h1 h2 => n _ (by omega) (by omega)
  refine ⟨fun r hr => ?_, fun i hi h8 s hs => ?_⟩
  · rw [n 0 (by omega) (by omega)] at hr
    rw [er r 1 (by omega) (by omega), er r 4 (by omega) (by omega), el, bA_cg (n 1 (by omega) (by omega)) (fun a b ha hb => n _ (by omega) (by omega)) (fun f hf => er r f (by omega) hf)]
    exact hJ.1 r hr
  · rw [n2] at hi
    by_cases hii : i = R 2
    · subst hii
      omega
    · rw [hq i (by omega)] at h8 hs
      have h9 := ((hI.2.2.2.2.1 i (by omega)).2.2 h8).1
      rw [er _ 1 (by omega) (by omega)] at hs
      rw [n 1 (by omega) (by omega), show sc (addRoom R rs) i s = sc R i s from n _ (by omega) (by omega)]
      exact hJ.2 i (by omega) h8 s hs
theorem addRooms_JJ : ∀ (L : List RoomS) (R : RS), Inv R → JJ R → (∀ rs ∈ L, RsOk rs) → R 2 + L.length ≤ 20 → JJ (addRooms R L)
  | [], R, _, hJ, _, _ => hJ
  | rs :: L, R, hI, hJ, h, h20 => by
    rw [List.length_cons] at h20
    have h1 := addRoom_inv hI (h rs List.mem_cons_self) (by omega)
    have h2 := (addRoom_at R rs).1
    exact addRooms_JJ L (addRoom R rs) h1 (addRoom_JJ hI hJ rs (by omega)) (fun q hq => h q (List.mem_cons_of_mem _ hq)) (by omega)
theorem R00_JJ : JJ R00 := ⟨fun r hr => absurd hr (by rw [R00_far (by omega)]; omega), fun i hi => absurd hi (by rw [R00_far (by omega)]; omega)⟩
