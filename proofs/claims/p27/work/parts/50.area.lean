/-! p27: the areas of a roll, whatever is done -/
def aK (R : RS) (r k : Nat) : Nat := if kp R k && decide (oc R k 0 = r + 1) then oc R k 1 * oc R k 2 else 0
theorem akN_eq (R : RS) (r : Nat) : akN R r = sN (aK R r) (R 1) := rfl
theorem aK_cg {R R' : RS} {r k : Nat} (h0 : oc R' k 0 = oc R k 0) (h1 : oc R' k 1 = oc R k 1) (h2 : oc R' k 2 = oc R k 2) : aK R' r k = aK R r k := by
  unfold aK kp
  rw [h0, h1, h2]
theorem akN_cg {R R' : RS} {r : Nat} (h1 : R' 1 = R 1) (h : ∀ k j, k < R 1 → j < 3 → oc R' k j = oc R k j) : akN R' r = akN R r := by
  rw [akN_eq, akN_eq, h1]
  exact sN_cong _ (fun k hk => aK_cg (h k 0 hk (by omega)) (h k 1 hk (by omega)) (h k 2 hk (by omega)))
theorem akN_far {R : RS} {i v r : Nat} (h1 : i ≠ 1) (h2 : R 1 ≤ 300) (h3 : i < 93 ∨ 993 ≤ i) : akN (un R i v) r = akN R r := akN_cg (un_ne R v (fun z => h1 z.symm)) (fun k j hk hj => un_ne R v (by omega))
theorem akN_drop {R : RS} {k : Nat} (hk : k < R 1) (h : kp R k = true) (r : Nat) : akN R r = akN (dropR R k) r + (if oc R k 0 = r + 1 then oc R k 1 * oc R k 2 else 0) := by
  have e1 : dropR R k 1 = R 1 := un_ne _ _ (by omega)
  rw [akN_eq, akN_eq, e1]
  refine (sN_upd (f := aK (dropR R k) r) (f' := aK R r) (i := k) (R 1) hk (fun j hj hne => ?_) ?_).trans ?_
  · have e : ∀ x, x < 3 → oc (dropR R k) j x = oc R j x := fun x hx => un_ne _ _ (by omega)
    exact (aK_cg (e 0 (by omega)) (e 1 (by omega)) (e 2 (by omega))).symm
  · have : oc (dropR R k) k 0 = 0 := un_at _ _ _
    simp [aK, kp, this]
  · congr 1
    rw [aK, h, Bool.true_and]
    by_cases hr : oc R k 0 = r + 1
    · rw [if_pos (decide_eq_true hr), if_pos hr]
    · rw [if_neg (by simpa using hr), if_neg hr]
theorem akN_add (R : RS) (r' a b r : Nat) : akN (addR R r' a b) r = akN R r + (if r = r' then a * b else 0) := by
  have h0 : addR R r' a b 1 = R 1 + 1 := un_at _ _ _
  have hoc : ∀ k j, k < R 1 → j < 3 → oc (addR R r' a b) k j = oc R k j := by
    intro k j hk hj
    unfold oc addR
    rw [un_ne _ _ (by omega), un_ne _ _ (by omega), un_ne _ _ (by omega), un_ne _ _ (by omega)]
  have g0 : oc (addR R r' a b) (R 1) 0 = r' + 1 := by
    unfold oc addR
    rw [un_ne _ _ (by omega), un_ne _ _ (by omega), un_ne _ _ (by omega)]
    exact un_at _ _ _
  have g1 : oc (addR R r' a b) (R 1) 1 = a := by
    unfold oc addR
    rw [un_ne _ _ (by omega), un_ne _ _ (by omega), show 93 + 3 * R 1 + 1 = 94 + 3 * R 1 by omega, un_at]
  have g2 : oc (addR R r' a b) (R 1) 2 = b := by
    unfold oc addR
    rw [un_ne _ _ (by omega), show 93 + 3 * R 1 + 2 = 95 + 3 * R 1 by omega, un_at]
  rw [akN_eq, akN_eq, h0, sN, sN_cong (g := aK R r) (R 1) (fun k hk => aK_cg (hoc k 0 hk (by omega)) (hoc k 1 hk (by omega)) (hoc k 2 hk (by omega)))]
  congr 1
  simp only [aK, kp, g0, g1, g2]
  by_cases h : r = r'
  · subst h
    simp
  · have h2 : ¬ r' = r := fun z => h z.symm
    simp [h, h2]
/-- all of a roll but what lies in rooms -/
def bA (R : RS) (r : Nat) : Nat := ro R r 1 * ro R r 2 + akN R r + ro R r 5 + ro R r 6
theorem bA_cg {R R' : RS} {r : Nat} (h1 : R' 1 = R 1) (h : ∀ k j, k < R 1 → j < 3 → oc R' k j = oc R k j) (hr : ∀ f, f < 7 → ro R' r f = ro R r f) : bA R' r = bA R r := by
  unfold bA
  rw [akN_cg h1 h, hr 1 (by omega), hr 2 (by omega), hr 5 (by omega), hr 6 (by omega)]
theorem bA_waste {R : RS} {r x : Nat} (hr : r < 12) (h3 : R 1 ≤ 300) (r' : Nat) (hr' : r' < 12) : bA (wasteR R r x) r' = bA R r' + (if r' = r then x else 0) := by
  have ea : akN (wasteR R r x) r' = akN R r' := akN_far (by omega) h3 (by omega)
  have e : ∀ f, f < 7 → (r' ≠ r ∨ f ≠ 5) → ro (wasteR R r x) r' f = ro R r' f := fun f hf h => un_ne _ _ (by omega)
  unfold bA
  rw [ea, e 1 (by omega) (Or.inr (by omega)), e 2 (by omega) (Or.inr (by omega)), e 6 (by omega) (Or.inr (by omega))]
  by_cases h : r' = r
  · subst h
    rw [if_pos rfl, show ro (wasteR R r' x) r' 5 = ro R r' 5 + x from un_at _ _ _]
    omega
  · rw [if_neg h, e 5 (by omega) (Or.inl h), Nat.add_zero]
theorem bA_add {R : RS} {r a b : Nat} (h : R 1 < 300) (r' : Nat) (hr' : r' < 12) : bA (addR R r a b) r' = bA R r' + (if r' = r then a * b else 0) := by
  have e : ∀ f, f < 7 → ro (addR R r a b) r' f = ro R r' f := fun f hf => addR_ne h (by omega) (by omega)
  unfold bA
  rw [akN_add, e 1 (by omega), e 2 (by omega), e 5 (by omega), e 6 (by omega)]
  omega
theorem bA_rest {R R' : RS} {r a b : Nat} (hr : r < 12) (h3 : R 1 ≤ 300) (hs : restS R r a b = some R') : R' 1 ≤ 300 ∧ R 1 ≤ R' 1 ∧ ∀ r', r' < 12 → bA R' r' = bA R r' + (if r' = r then a * b else 0) := by
  unfold restS at hs
  split at hs
  · cases hs
    have e : wasteR R r (a * b) 1 = R 1 := un_ne _ _ (by omega)
    exact ⟨by rw [e]; exact h3, by rw [e]; exact Nat.le_refl _, fun r' hr' => bA_waste hr h3 r' hr'⟩
  · split at hs
    · cases hs
    · rename_i h5
      cases hs
      have e : addR R r a b 1 = R 1 + 1 := un_at _ _ _
      exact ⟨by omega, by omega, fun r' hr' => bA_add (by omega) r' hr'⟩
theorem cut_arith {PW PL w k : Nat} (hw : w ≤ PW) (hk : k ≤ PL) (b : Bool) : (PW - w) * (if b then PL else k) + (if b then w else PW) * (PL - k) + w * k = PW * PL := by
  obtain ⟨x, rfl⟩ : ∃ x, PW = w + x := ⟨PW - w, by omega⟩
  obtain ⟨y, rfl⟩ : ∃ y, PL = k + y := ⟨PL - k, by omega⟩
  rw [show w + x - w = x by omega, show k + y - k = y by omega]
  have h1 := Nat.add_mul w x (k + y)
  have h2 := Nat.mul_add w k y
  have h3 := Nat.mul_add x k y
  have h4 := Nat.add_mul w x y
  cases b
  · rw [if_neg (by decide), if_neg (by decide)]
    omega
  · rw [if_pos rfl, if_pos rfl]
    omega
theorem bA_cut {R R' : RS} {r PW PL w k : Nat} (hr : r < 12) (h3 : R 1 ≤ 300) (hw : w ≤ PW) (hk : k ≤ PL) (hs : cutS R r PW PL w k = some R') : R 1 ≤ R' 1 ∧ ∀ r', r' < 12 → bA R' r' + (if r' = r then w * k else 0) = bA R r' + (if r' = r then PW * PL else 0) := by
  unfold cutS at hs
  cases h4 : restS R r (PW - w) (if lngB R PW PL w k then PL else k) with
  | none => rw [h4] at hs; cases hs
  | some R1 =>
    rw [h4, Option.bind_some] at hs
    obtain ⟨a1, a2, a3⟩ := bA_rest hr h3 h4
    obtain ⟨b1, b2, b3⟩ := bA_rest hr a1 hs
    refine ⟨by omega, fun r' hr' => ?_⟩
    rw [b3 r' hr', a3 r' hr']
    have h := cut_arith hw hk (lngB R PW PL w k)
    by_cases hrr : r' = r
    · simp only [if_pos hrr]
      omega
    · simp only [if_neg hrr]
theorem bA_take {R R' : RS} {r w k i s PW PL : Nat} (hO : OffOk R) (hr : r < 12) (hs : s < 36) (hwW : w ≤ ro R r 1) (ht : takeS R r (ro R r 1) w k i s = some (R', PW, PL)) : (w ≤ PW ∧ k ≤ PL) ∧ (R' 1 = R 1 ∧ (sc R' i s < R 1 ∨ sc R' i s = NONE32)) ∧ ∀ r', r' < 12 → bA R' r' + (if r' = r then PW * PL else 0) = bA R r' := by
  have h300 := hO.1
  unfold takeS at ht
  split at ht
  · rename_i p hp
    obtain ⟨hp1, hfit⟩ := pfo_lt _ _ hp
    obtain ⟨k0, q1, q2, q3⟩ := EL_of R (p := p) hp1
    obtain ⟨e1, e2, e3, e4⟩ := EL_e R q1 q2
    rw [q3] at e1 e2 e3 e4
    have hf : eR (EL R) p = r ∧ w ≤ eW (EL R) p ∧ k ≤ eL (EL R) p := by simpa [fit] using hfit
    cases ht
    have h0 : 0 < oc R k0 0 := by simpa [kp] using q2
    rw [e1, e3, e4]
    have eo : ∀ j x, j < R 1 → x < 3 → oc (un R (1233 + 36 * i + s) k0) j x = oc R j x := fun j x hj hx => un_ne _ _ (by omega)
    have ek : kp (un R (1233 + 36 * i + s) k0) k0 = true := by
      simp only [kp, eo k0 0 q1 (by omega)]
      exact q2
    have eu1 : un R (1233 + 36 * i + s) k0 1 = R 1 := un_ne _ _ (by omega)
    refine ⟨⟨by omega, by omega⟩, ⟨?_, Or.inl ?_⟩, fun r' hr' => ?_⟩
    · unfold dropR
      rw [un_ne _ _ (by omega), eu1]
    · have : sc (dropR (un R (1233 + 36 * i + s) k0) k0) i s = k0 := by
        unfold sc dropR
        rw [un_ne _ _ (by omega), un_at]
      rw [this]
      exact q1
    · have hd := akN_drop (R := un R (1233 + 36 * i + s) k0) (by rw [eu1]; exact q1) ek r'
      rw [akN_far (by omega) h300 (by omega), eo k0 0 q1 (by omega), eo k0 1 q1 (by omega), eo k0 2 q1 (by omega)] at hd
      have er : ∀ f, f < 7 → ro (dropR (un R (1233 + 36 * i + s) k0) k0) r' f = ro R r' f := fun f hf => by
        unfold ro dropR
        rw [un_ne _ _ (by omega), un_ne _ _ (by omega)]
      unfold bA
      rw [er 1 (by omega), er 2 (by omega), er 5 (by omega), er 6 (by omega), hd]
      by_cases hrr : r' = r
      · rw [if_pos hrr, if_pos (by omega)]
        omega
      · rw [if_neg hrr, if_neg (by omega)]
        omega
  · split at ht
    · cases ht
    · rename_i hlt
      cases ht
      have eu1 : ∀ j, j ≠ 1233 + 36 * i + s → un R (1233 + 36 * i + s) NONE32 j = R j := fun j hj => un_ne _ _ hj
      refine ⟨⟨hwW, Nat.le_refl _⟩, ⟨?_, Or.inr ?_⟩, fun r' hr' => ?_⟩
      · rw [un_ne _ _ (by omega), eu1 _ (by omega)]
      · show un _ _ _ (1233 + 36 * i + s) = _
        rw [un_ne _ _ (by omega), un_at]
      · have ea : akN (un (un R (1233 + 36 * i + s) NONE32) (9 + 7 * r + 2) (ro R r 2 - k)) r' = akN R r' := by
          rw [akN_far (by omega) (by rw [eu1 1 (by omega)]; exact h300) (by omega), akN_far (by omega) h300 (by omega)]
        have er : ∀ f, f < 7 → (r' ≠ r ∨ f ≠ 2) → ro (un (un R (1233 + 36 * i + s) NONE32) (9 + 7 * r + 2) (ro R r 2 - k)) r' f = ro R r' f := fun f hf h => by
          unfold ro
          rw [un_ne _ _ (by omega), un_ne _ _ (by omega)]
        unfold bA
        rw [ea, er 1 (by omega) (Or.inr (by omega)), er 5 (by omega) (Or.inr (by omega)), er 6 (by omega) (Or.inr (by omega))]
        by_cases hrr : r' = r
        · subst hrr
          rw [if_pos rfl, show ro (un (un R (1233 + 36 * i + s) NONE32) (9 + 7 * r' + 2) (ro R r' 2 - k)) r' 2 = ro R r' 2 - k from un_at _ _ _]
          obtain ⟨z, hz⟩ : ∃ z, ro R r' 2 = z + k := ⟨ro R r' 2 - k, by omega⟩
          rw [hz, show z + k - k = z by omega, Nat.mul_add]
          omega
        · rw [if_neg hrr, er 2 (by omega) (Or.inl hrr)]
          omega
theorem bA_strip {R : RS} {r i s w k : Nat} (hO : OffOk R) (hr : r < 12) (hs : s < 36) (hwW : w ≤ ro R r 1) (h0 : (stripS R r (ro R r 1) i s w k).1 = 0) : R 1 ≤ (stripS R r (ro R r 1) i s w k).2 1 ∧ (sc (stripS R r (ro R r 1) i s w k).2 i s < R 1 ∨ sc (stripS R r (ro R r 1) i s w k).2 i s = NONE32) ∧ (∀ t, t < 36 → t ≠ s → sc (stripS R r (ro R r 1) i s w k).2 i t = sc R i t) ∧ ∀ r', r' < 12 → bA (stripS R r (ro R r 1) i s w k).2 r' + (if r' = r then w * k else 0) = bA R r' := by
  cases ht : takeS R r (ro R r 1) w k i s with
  | none =>
    have e3 : stripS R r (ro R r 1) i s w k = (3, R) := by rw [stripS, ht]
    rw [e3] at h0
    exact absurd h0 (nz_fst (by decide))
  | some t =>
    obtain ⟨R1, PW, PL⟩ := t
    obtain ⟨a1, ⟨a2, a3⟩, a4⟩ := bA_take hO hr hs hwW ht
    obtain ⟨s1, s2, s3, s4, s5⟩ := takeS_same hr hs hO.1 ht
    cases hc : cutS R1 r PW PL w k with
    | none =>
      have e4 : stripS R r (ro R r 1) i s w k = (4, R) := by rw [stripS, ht]; dsimp only; rw [hc]
      rw [e4] at h0
      exact absurd h0 (nz_fst (by decide))
    | some R2 =>
      have e0 : stripS R r (ro R r 1) i s w k = (0, R2) := by rw [stripS, ht]; dsimp only; rw [hc]
      rw [e0]
      have h300 := hO.1
      obtain ⟨b1, b2⟩ := bA_cut hr (by omega) a1.1 a1.2 hc
      have es : ∀ t, sc R2 i t = sc R1 i t := fun t => cutS_same hc _ (by omega) (by omega) (by omega)
      refine ⟨by show R 1 ≤ R2 1; omega, by rw [es]; exact a3, fun t ht hne => by rw [es]; exact s5 t ht hne, fun r' hr' => ?_⟩
      have h1 := a4 r' hr'
      have h2 := b2 r' hr'
      show bA R2 r' + _ = _
      omega
theorem bA_coverL {r W i : Nat} (hr12 : r < 12) (hW : W ≤ 60) : ∀ (S : List (Nat × Nat)) (s : Nat) (R : RS), OffOk R → r < R 0 → ro R r 1 = W → s + S.length ≤ 36 → (∀ p ∈ S, p.1 ≤ W ∧ p.2 ≤ 60) → (coverL r W i S s R).1 = 0 → R 1 ≤ (coverL r W i S s R).2 1 ∧ (∀ t, s ≤ t → t < s + S.length → sc (coverL r W i S s R).2 i t < (coverL r W i S s R).2 1 ∨ sc (coverL r W i S s R).2 i t = NONE32) ∧ (∀ t, t < s → sc (coverL r W i S s R).2 i t = sc R i t) ∧ ∀ r', r' < 12 → bA (coverL r W i S s R).2 r' + (if r' = r then sumA S else 0) = bA R r'
  | [], s, R, h, hr, he, hl, hS, h0 => by
    refine ⟨Nat.le_refl _, fun t h1 h2 => ?_, fun _ _ => rfl, fun r' _ => ?_⟩
    · rw [List.length_nil] at h2
      omega
    · show bA R r' + (if r' = r then 0 else 0) = _
      rw [ite_self, Nat.add_zero]
  | p :: ps, s, R, h, hr, he, hl, hS, h0 => by
    rw [List.length_cons] at hl
    rw [coverL_cons] at h0 ⊢
    by_cases hz : (stripS R r W i s p.1 p.2).1 = 0
    · rw [if_pos hz] at h0 ⊢
      have hp := hS p List.mem_cons_self
      obtain ⟨a1, a2, a3, a4⟩ := stripS_ok h hr12 hr (by omega) hW (by omega) hp.2 hz
      subst he
      obtain ⟨c1, c2, c3, c4⟩ := bA_strip h hr12 (by omega) hp.1 hz
      generalize hR1 : (stripS R r (ro R r 1) i s p.1 p.2).2 = R1 at a1 a2 a3 a4 c1 c2 c3 c4 h0 ⊢
      obtain ⟨b1, b2, b3, b4⟩ := bA_coverL hr12 hW ps (s + 1) R1 a1 (by omega) (a2.ro hr12 (by omega) (by omega)) (by omega) (fun q hq => hS q (List.mem_cons_of_mem _ hq)) h0
      refine ⟨by omega, fun t h1 h2 => ?_, fun t h1 => (b3 t (by omega)).trans (c3 t (by omega) (by omega)), fun r' hr' => ?_⟩
      · rw [List.length_cons] at h2
        by_cases hts : t = s
        · subst hts
          rw [b3 t (by omega)]
          rcases c2 with c2 | c2
          · exact Or.inl (by omega)
          · exact Or.inr c2
        · exact b2 t (by omega) (by omega)
      · have h1 := b4 r' hr'
        have h2 := c4 r' hr'
        rw [sumA]
        by_cases hrr : r' = r
        · simp only [if_pos hrr] at h1 h2 ⊢
          omega
        · simp only [if_neg hrr] at h1 h2 ⊢
          omega
    · rw [if_neg hz] at h0
      exact absurd h0 hz
