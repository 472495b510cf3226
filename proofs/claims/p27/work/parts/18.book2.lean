/-! covering, as far as it is pure -/
theorem sN_cong {f g : Nat → Nat} : ∀ n, (∀ k, k < n → f k = g k) → sN f n = sN g n
  | 0, _ => rfl
  | n + 1, h => by rw [sN, sN, sN_cong n (fun k hk => h k (by omega)), h n (by omega)]
theorem sN_upd {f f' : Nat → Nat} {i : Nat} : ∀ n, i < n → (∀ k, k < n → k ≠ i → f' k = f k) → f i = 0 → sN f' n = sN f n + f' i
  | 0, hi, _, _ => absurd hi (by omega)
  | n + 1, hi, h, h0 => by
    rw [sN, sN]
    by_cases hin : i = n
    · subst hin
      rw [sN_cong i (fun k hk => h k (by omega) (by omega)), h0]
      omega
    · rw [sN_upd n (by omega) (fun k hk hne => h k (by omega) hne) h0, h n (by omega) (fun z => hin z.symm)]
      omega
def q8 (q' q : Nat → Nat) : Prop := ∀ w, w < 8 → q' w = q w
theorem GeoOk.cg {q q' : Nat → Nat} (h : q8 q' q) (hG : GeoOk q) : GeoOk q' := by
  obtain ⟨⟨h1, h2, h3⟩, h4⟩ := hG
  have h0 := h 0 (by omega)
  have h7 := h 7 (by omega)
  refine ⟨⟨by omega, by omega, by omega⟩, fun k hk => ?_⟩
  rw [h0] at hk
  rw [h (1 + 2 * k) (by omega), h (2 + 2 * k) (by omega)]
  exact h4 k hk
theorem GeoAt.cg {mem : Mem} {ρ i : Nat} {q q' : Nat → Nat} (h : q8 q' q) (hG : GeoAt mem ρ i q) : GeoAt mem ρ i q' := by
  obtain ⟨h1, h2, h3, h4, h5⟩ := hG
  have hm := h2.1.2.1
  have h0 := h 0 (by omega)
  refine ⟨h1, h2.cg h, by rw [h0]; exact h3, fun k hk => ?_, by rw [h 7 (by omega)]; exact h5⟩
  rw [h0] at hk
  rw [h (1 + 2 * k) (by omega), h (2 + 2 * k) (by omega)]
  exact h4 k hk
theorem GeoAt.mv {mem m : Mem} {ρ i : Nat} {q : Nat → Nat} (hG : GeoAt mem ρ i q) (h2 : m (ρ + 2) = mem (ρ + 2)) (h4 : m (ρ + 4) = mem (ρ + 4)) (h6 : m (ρ + 6) = mem (ρ + 6)) (h8 : m (ρ + 8) = mem (ρ + 8)) : GeoAt m ρ i q := by
  obtain ⟨g1, g2, g3, g4, g5⟩ := hG
  exact ⟨g1, g2, by rw [h2]; exact g3, fun k hk => by rw [h4, h6]; exact g4 k hk, by rw [h8]; exact g5⟩
theorem CovAt.mv {mem m : Mem} {ρ i W y : Nat} (hC : CovAt mem ρ i W y) (h12 : m (ρ + 12) = mem (ρ + 12)) (h14 : m (ρ + 14) = mem (ρ + 14)) : CovAt m ρ i W y := by
  obtain ⟨g1, g2, g3⟩ := hC
  exact ⟨by rw [h12]; exact g1, by rw [h14]; exact g2, g3⟩
theorem wdt_cg {q q' : Nat → Nat} (h : q8 q' q) {k y : Nat} (hk : k < 3) (hy : y ≤ 1) : wdt q' k y = wdt q k y := h _ (by omega)
theorem lng_cg {q q' : Nat → Nat} (h : q8 q' q) {k y : Nat} (hk : k < 3) (hy : y ≤ 1) : lng q' k y = lng q k y := h _ (by omega)
theorem mny_cg {q q' : Nat → Nat} (h : q8 q' q) {k y W : Nat} (hk : k < 3) (hy : y ≤ 1) : mny q' k y W = mny q k y W := by unfold mny; rw [wdt_cg h hk hy]
theorem stripsN_cg {q q' : Nat → Nat} (h : q8 q' q) {y W : Nat} (h3 : q 0 ≤ 3) (hy : y ≤ 1) : stripsN q' y W = stripsN q y W := by
  unfold stripsN
  rw [h 0 (by omega)]
  exact sN_cong _ (fun k hk => mny_cg h (by omega) hy)
theorem seamN_cg {q q' : Nat → Nat} (h : q8 q' q) {y W : Nat} (h3 : q 0 ≤ 3) (hy : y ≤ 1) : seamN q' y W = seamN q y W := by
  unfold seamN
  rw [h 0 (by omega)]
  exact sN_cong _ (fun k hk => by rw [mny_cg h (by omega) hy, lng_cg h (by omega) hy])
theorem areaN_cg {q q' : Nat → Nat} (h : q8 q' q) (h3 : q 0 ≤ 3) : areaN q' = areaN q := by
  unfold areaN
  rw [h 0 (by omega)]
  exact sN_cong _ (fun k hk => by rw [h (1 + 2 * k) (by omega), h (2 + 2 * k) (by omega)])
theorem acr_cg {q q' : Nat → Nat} (h : q8 q' q) (y : Nat) : acr q' y = acr q y := by unfold acr; rw [h 7 (by omega)]
theorem SLf_cg {q q' : Nat → Nat} (h : q8 q' q) {y W : Nat} (hy : y ≤ 1) : ∀ n k, k + n ≤ 3 → SLf q' y W n k = SLf q y W n k
  | 0, _, _ => rfl
  | n + 1, k, hk => by rw [SLf, SLf, SLf_cg h hy n (k + 1) (by omega), SLk, SLk, mny_cg h (by omega) hy, wdt_cg h (by omega) hy, lng_cg h (by omega) hy]
theorem SL_cg {q q' : Nat → Nat} (h : q8 q' q) {y W : Nat} (h3 : q 0 ≤ 3) (hy : y ≤ 1) : SL q' y W = SL q y W := by
  unfold SL
  rw [h 0 (by omega)]
  exact SLf_cg h hy _ _ (by omega)
theorem RoomRep.w {mem : Mem} {ρ i : Nat} {R : RS} (h : RoomRep mem ρ R i) (h8 : rq R i 8 ≤ 1) : ∃ w0, mem (ρ + 12) i = nI w0 ∧ w0 ≤ 60 ∧ (0 < w0 ↔ rq R i 8 = 1) := by
  rcases (show rq R i 8 = 0 ∨ rq R i 8 = 1 by omega) with h0 | h0
  · exact ⟨0, h.2.1 h0, by omega, by omega⟩
  · obtain ⟨⟨g1, g2, g3, g4, g5⟩, -⟩ := h.2.2 h0
    exact ⟨_, g1, g5, by omega⟩
theorem RoomRep.mv {mem m : Mem} {ρ i : Nat} {R R' : RS} (h : RoomRep mem ρ R i) (h8 : rq R i 8 = 1 → rq R i 10 ≤ 1) (hm : ∀ j, j < 18 → m (ρ + j) = mem (ρ + j)) (hs : ∀ s, s < 36 → m (ρ + 18) (i * 36 + s) = mem (ρ + 18) (i * 36 + s)) (hq : rq R' i = rq R i) (hro : rq R i 8 = 1 → ro R' (rq R i 9) 1 = ro R (rq R i 9) 1) (hsc : ∀ s, s < 36 → sc R' i s = sc R i s) : RoomRep m ρ R' i := by
  obtain ⟨g1, g2, g3⟩ := h
  unfold RoomRep
  rw [hq]
  refine ⟨g1.mv (hm 2 (by omega)) (hm 4 (by omega)) (hm 6 (by omega)) (hm 8 (by omega)), fun h0 => ?_, fun h1 => ?_⟩
  · rw [hm 12 (by omega)]
    exact g2 h0
  · obtain ⟨k1, k2, k3, k4⟩ := g3 h1
    rw [hro h1]
    refine ⟨k1.mv (hm 12 (by omega)) (hm 14 (by omega)), by rw [hm 10 (by omega)]; exact k2, by rw [hm 16 (by omega)]; exact k3, fun s hss => ?_⟩
    have h36 := stripsN_le g1.2.1 (h8 h1) k1.2.2.2.1
    rw [hs s (by omega), hsc s (by omega)]
    exact k4 s hss
/-- in the midst of a covering -/
def MB (mem : Mem) (β : Nat) (R : RS) (ld : Nat → Nat) (J r W y S : Nat) : Prop := SetRep mem β R ∧ mem β 4 = nI (R 3) ∧ RoRep mem (β + 3) R ld ∧ OfRep mem (β + 20) (EL R) (R 1) ∧ mem (β + 29) 0 = nI (R 2) ∧ (∀ i, i < R 2 → i ≠ J → RoomRep mem (β + 29) R i) ∧ GeoAt mem (β + 29) J (rq R J) ∧ CovAt mem (β + 29) J W y ∧ mem (β + 29 + 10) J = nI r ∧ ∀ s, s < S → mem (β + 29 + 18) (J * 36 + s) = nI (sc R J s)
/-- what a covering leaves of the row -/
def Same (R R' : RS) (J r : Nat) : Prop := ∀ j, j ≠ 1 → j ≠ 9 + 7 * r + 2 → j ≠ 9 + 7 * r + 5 → (j < 93 ∨ 993 ≤ j) → (j < 1233 + 36 * J ∨ 1233 + 36 * J + 36 ≤ j) → R' j = R j
theorem Same.rf {R : RS} {J r : Nat} : Same R R J r := fun _ _ _ _ _ _ => rfl
theorem Same.tr {R R1 R2 : RS} {J r : Nat} (h : Same R R1 J r) (k : Same R1 R2 J r) : Same R R2 J r := fun j h1 h2 h3 h4 h5 => (k j h1 h2 h3 h4 h5).trans (h j h1 h2 h3 h4 h5)
theorem Same.rq {R R' : RS} {J r : Nat} (h : Same R R' J r) (hr : r < 12) {i : Nat} (hi : i < 20) : rq R' i = rq R i := rq_cong (fun w hw => h _ (by omega) (by omega) (by omega) (by omega) (by omega))
theorem Same.ro {R R' : RS} {J r : Nat} (h : Same R R' J r) {r' f : Nat} (hr' : r' < 12) (hf : f < 7) (hne : f ≠ 2 ∧ f ≠ 5 ∨ r' ≠ r) : ro R' r' f = ro R r' f := h _ (by omega) (by omega) (by omega) (by omega) (by omega)
theorem takeS_same {R R' : RS} {r W w k i s PW PL : Nat} (hr : r < 12) (hs : s < 36) (h1 : R 1 ≤ 300) (h : takeS R r W w k i s = some (R', PW, PL)) : Same R R' i r ∧ R' 1 = R 1 ∧ ro R' r 5 = ro R r 5 ∧ ro R' r 2 ≤ ro R r 2 ∧ ∀ s', s' < 36 → s' ≠ s → sc R' i s' = sc R i s' := by
  unfold takeS at h
  split at h
  · rename_i p hp
    obtain ⟨hp1, -⟩ := pfo_lt _ _ hp
    obtain ⟨d1, d2, -⟩ := EL_dropP R (p := p) hp1
    cases h
    have key : ∀ j, (j < 93 ∨ 993 ≤ j) → j ≠ 1233 + 36 * i + s → dropR (un R (1233 + 36 * i + s) (eN (EL R) p)) (eN (EL R) p) j = R j := by
      intro j h2 h3
      unfold dropR
      rw [un_ne _ _ (by omega), un_ne _ _ h3]
    exact ⟨fun j g1 g2 g3 g4 g5 => key j g4 (by omega), key 1 (by omega) (by omega), key _ (by omega) (by omega), Nat.le_of_eq (key _ (by omega) (by omega)), fun s' g1 g2 => key _ (by omega) (by omega)⟩
  · split at h
    · cases h
    · cases h
      have key : ∀ j, j ≠ 9 + 7 * r + 2 → j ≠ 1233 + 36 * i + s → un (un R (1233 + 36 * i + s) NONE32) (9 + 7 * r + 2) (ro R r 2 - k) j = R j := by
        intro j h2 h3
        rw [un_ne _ _ h2, un_ne _ _ h3]
      refine ⟨fun j g1 g2 g3 g4 g5 => key j g2 (by omega), key 1 (by omega) (by omega), key _ (by omega) (by omega), ?_, fun s' g1 g2 => key _ (by omega) (by omega)⟩
      show un _ (9 + 7 * r + 2) _ (9 + 7 * r + 2) ≤ _
      rw [un_at]
      omega
theorem cutS_Same {R R' : RS} {r PW PL w k J : Nat} (h : cutS R r PW PL w k = some R') : Same R R' J r := fun j h1 h2 h3 h4 _ => cutS_same h j h1 h3 h4
theorem MB_step {mem m1 m3 : Mem} {β : Nat} {R R1 R2 : RS} {ld : Nat → Nat} {J r W y s w k PW PL : Nat} (hM : MB mem β R ld J r W y s) (hs : s < 36) (hJ : J < 20) (hr : r < 12) (hR2 : R 2 ≤ 20) (hw : ∀ i, i < R 2 → rq R i 8 = 1 → rq R i 9 < 12 ∧ rq R i 10 ≤ 1) (hT : takeS R r W w k J s = some (R1, PW, PL)) (tp : TP β r (J * 36 + s) mem m1 R1 J s PW PL) (hC : cutS R1 r PW PL w k = some R2) (lr : LR β r (um m1 (β + 3 + 12) r (m1 (β + 3 + 12) r + nI (w * k))) m3 R2) : MB m3 β R2 (fun j => if j = r then ld j + w * k else ld j) J r W y (s + 1) := by
  obtain ⟨a1, a2, a3, a4, a5, a6, a7, a8, a9, a10⟩ := hM
  obtain ⟨t1, t2, t3, t4, t5, t6, t7, t8, t9⟩ := tp
  obtain ⟨l1, l2, l3, l4⟩ := lr
  have h300 : R 1 ≤ 300 := a4.2.1
  obtain ⟨s1, s2, s3, s4, s5⟩ := takeS_same hr hs h300 hT
  have sA : Same R R2 J r := s1.tr (cutS_Same hC)
  have c1 : ∀ j, j ≠ 1 → j ≠ 9 + 7 * r + 5 → (j < 93 ∨ 993 ≤ j) → R2 j = R1 j := fun j h1 h2 h3 => cutS_same hC j h1 h2 h3
  -- cells that stay
  have mv : ∀ o, o ≠ β → o ≠ β + 3 + 6 → o ≠ β + 29 + 18 → o ≠ β + 3 + 14 → o ≠ β + 3 + 12 → (o < β + 20 ∨ β + 20 + 9 ≤ o) → m3 o = mem o := fun o h1 h2 h3 h4 h5 h6 => by rw [l4 o h4 h6, um_ne _ _ _ h5, t9 o h1 h2 h3 h6]
  refine ⟨fun q hq => ?_, ?_, ⟨?_, fun r' hr' => ?_⟩, l1, ?_, fun i hi hne => ?_, ?_, ?_, ?_, fun s' hs' => ?_⟩
  · rw [mv _ (by omega) (by omega) (by omega) (by omega) (by omega) (by omega), sA _ (by omega) (by omega) (by omega) (by omega) (by omega)]
    exact a1 q hq
  · rw [l4 β (by omega) (by omega), um_o _ _ (by omega), t5, sA 3 (by omega) (by omega) (by omega) (by omega) (by omega)]
    exact a2
  · rw [mv _ (by omega) (by omega) (by omega) (by omega) (by omega) (by omega), sA 0 (by omega) (by omega) (by omega) (by omega) (by omega)]
    exact a3.1
  · obtain ⟨b1, b2, b3, b4, b5, b6, b7, b8⟩ := a3.2 r' hr'
    rw [sA.ro hr' (f := 0) (by omega) (by omega), sA.ro hr' (f := 1) (by omega) (by omega), sA.ro hr' (f := 3) (by omega) (by omega), sA.ro hr' (f := 4) (by omega) (by omega), sA.ro hr' (f := 6) (by omega) (by omega)]
    refine ⟨?_, ?_, ?_, ?_, ?_, ?_, ?_, ?_⟩
    · rw [mv _ (by omega) (by omega) (by omega) (by omega) (by omega) (by omega)]; exact b1
    · rw [mv _ (by omega) (by omega) (by omega) (by omega) (by omega) (by omega)]; exact b2
    · rw [l4 _ (by omega) (by omega), um_o _ _ (by omega)]
      by_cases hrr : r' = r
      · subst hrr
        rw [t2]
        congr 1
        exact (c1 _ (by omega) (by omega) (by omega)).symm
      · rw [t8 _ hrr, sA.ro hr' (f := 2) (by omega) (Or.inr hrr)]
        exact b3
    · rw [mv _ (by omega) (by omega) (by omega) (by omega) (by omega) (by omega)]; exact b4
    · rw [mv _ (by omega) (by omega) (by omega) (by omega) (by omega) (by omega)]; exact b5
    · rw [l4 _ (by omega) (by omega)]
      by_cases hrr : r' = r
      · subst hrr
        rw [um_eq]
        dsimp only
        rw [if_pos rfl, t9 _ (by omega) (by omega) (by omega) (by omega), b6, nI_add]
      · rw [um_k _ _ hrr]
        dsimp only
        rw [if_neg hrr, t9 _ (by omega) (by omega) (by omega) (by omega)]
        exact b6
    · by_cases hrr : r' = r
      · subst hrr
        exact l2
      · rw [l3 _ hrr, um_o _ _ (by omega), t9 _ (by omega) (by omega) (by omega) (by omega), sA.ro hr' (f := 5) (by omega) (Or.inr hrr)]
        exact b7
    · rw [mv _ (by omega) (by omega) (by omega) (by omega) (by omega) (by omega)]; exact b8
  · rw [mv _ (by omega) (by omega) (by omega) (by omega) (by omega) (by omega), sA 2 (by omega) (by omega) (by omega) (by omega) (by omega)]
    exact a5
  · rw [sA 2 (by omega) (by omega) (by omega) (by omega) (by omega)] at hi
    refine (a6 i hi hne).mv (fun z => (hw i hi z).2) (fun j hj => mv _ (by omega) (by omega) (by omega) (by omega) (by omega) (by omega)) (fun q hq => ?_) (sA.rq hr (by omega)) (fun z => sA.ro (hw i hi z).1 (by omega) (by omega)) (fun q hq => sA _ (by omega) (by omega) (by omega) (by omega) (by omega))
    · rw [l4 _ (by omega) (by omega), um_o _ _ (by omega), t7 _ (by omega)]
  · rw [sA.rq hr hJ]
    exact a7.mv (mv _ (by omega) (by omega) (by omega) (by omega) (by omega) (by omega)) (mv _ (by omega) (by omega) (by omega) (by omega) (by omega) (by omega)) (mv _ (by omega) (by omega) (by omega) (by omega) (by omega) (by omega)) (mv _ (by omega) (by omega) (by omega) (by omega) (by omega) (by omega))
  · exact a8.mv (mv _ (by omega) (by omega) (by omega) (by omega) (by omega) (by omega)) (mv _ (by omega) (by omega) (by omega) (by omega) (by omega) (by omega))
  · rw [mv _ (by omega) (by omega) (by omega) (by omega) (by omega) (by omega)]
    exact a9
  · rw [l4 _ (by omega) (by omega), um_o _ _ (by omega)]
    have e1 : sc R2 J s' = sc R1 J s' := c1 _ (by omega) (by omega) (by omega)
    rw [e1]
    by_cases hss : s' = s
    · subst hss
      exact t6
    · rw [t7 _ (by omega), s5 s' (by omega) hss]
      exact a10 s' (by omega)
theorem un3_q8 {R : RS} {i x v : Nat} (hx : x < 993 + 12 * i ∨ 993 + 12 * i + 8 ≤ x) : ∀ w, w < 8 → un R x v (993 + 12 * i + w) = R (993 + 12 * i + w) := fun w hw => un_ne R v (by omega)
theorem finS_at (R : RS) (i r y p : Nat) : (∀ j, j ≠ 3 → j ≠ 993 + 12 * i + 8 → j ≠ 993 + 12 * i + 9 → j ≠ 993 + 12 * i + 10 → j ≠ 993 + 12 * i + 11 → finS R i r y p j = R j) ∧ finS R i r y p (993 + 12 * i + 8) = 1 ∧ finS R i r y p (993 + 12 * i + 9) = r ∧ finS R i r y p (993 + 12 * i + 10) = y ∧ finS R i r y p (993 + 12 * i + 11) = p ∧ finS R i r y p 3 = R 3 + p := by
  unfold finS
  refine ⟨fun j h1 h2 h3 h4 h5 => ?_, ?_, ?_, ?_, ?_, ?_⟩
  · rw [un_ne _ _ h1, un_ne _ _ h5, un_ne _ _ h4, un_ne _ _ h3, un_ne _ _ h2]
  · rw [un_ne _ _ (by omega), un_ne _ _ (by omega), un_ne _ _ (by omega), un_ne _ _ (by omega), un_at]
  · rw [un_ne _ _ (by omega), un_ne _ _ (by omega), un_ne _ _ (by omega), un_at]
  · rw [un_ne _ _ (by omega), un_ne _ _ (by omega), un_at]
  · rw [un_ne _ _ (by omega), un_at]
  · rw [un_at]
theorem MB_fin {m : Mem} {β : Nat} {R : RS} {ld : Nat → Nat} {J r y p S : Nat} (hM : MB m β R ld J r (ro R r 1) y S) (hS : S = stripsN (rq R J) y (ro R r 1)) (hJ : J < R 2) (hR2 : R 2 ≤ 20) (hr : r < 12) (h8 : rq R J 8 = 0) (hw : ∀ i, i < R 2 → rq R i 8 = 1 → rq R i 9 < 12 ∧ rq R i 10 ≤ 1) (hld : ∀ j, ld j = laidN R j + if j = r then areaN (rq R J) else 0) : BookRep (um (um m (β + 29 + 16) J (nI p)) β 4 (nI (R 3 + p))) β (finS R J r y p) := by
  obtain ⟨a1, a2, a3, a4, a5, a6, a7, a8, a9, a10⟩ := hM
  obtain ⟨f0, f1, f2, f3, f4, f5⟩ := finS_at R J r y p
  have h300 : R 1 ≤ 300 := a4.2.1
  have hy : y ≤ 1 := a8.2.2.1
  have hGok := a7.2.1
  have f0' : ∀ j, j < 993 → j ≠ 3 → finS R J r y p j = R j := fun j h1 h2 => f0 j h2 (by omega) (by omega) (by omega) (by omega)
  have hq8 : q8 (rq (finS R J r y p) J) (rq R J) := by
    intro w hw
    rw [rq_w (by omega), rq_w (by omega)]
    exact f0 _ (by omega) (by omega) (by omega) (by omega) (by omega)
  have hqo : ∀ i, i ≠ J → rq (finS R J r y p) i = rq R i := fun i hi => rq_cong (fun w hw => f0 _ (by omega) (by omega) (by omega) (by omega) (by omega))
  have e8 : rq (finS R J r y p) J 8 = 1 := by rw [rq_w (by omega)]; exact f1
  have e9 : rq (finS R J r y p) J 9 = r := by rw [rq_w (by omega)]; exact f2
  have e10 : rq (finS R J r y p) J 10 = y := by rw [rq_w (by omega)]; exact f3
  have e11 : rq (finS R J r y p) J 11 = p := by rw [rq_w (by omega)]; exact f4
  have ero : ∀ r' f, r' < 12 → f < 7 → ro (finS R J r y p) r' f = ro R r' f := fun r' f h1 h2 => f0' _ (by omega) (by omega)
  have mv : ∀ o, o ≠ β → o ≠ β + 29 + 16 → um (um m (β + 29 + 16) J (nI p)) β 4 (nI (R 3 + p)) o = m o := fun o h1 h2 => by rw [um_ne _ _ _ h1, um_ne _ _ _ h2]
  have eEL : EL (finS R J r y p) = EL R := EL_cong (f0' 1 (by omega) (by omega)) (fun k j hk hj => f0' _ (by omega) (by omega))
  have elaid : laidN (finS R J r y p) = ld := by
    funext j
    rw [hld j]
    unfold laidN
    rw [f0' 2 (by omega) (by omega)]
    have hk : ∀ i, i < R 2 → i ≠ J → (if rq (finS R J r y p) i 8 = 1 ∧ rq (finS R J r y p) i 9 = j then areaN (rq (finS R J r y p) i) else 0) = if rq R i 8 = 1 ∧ rq R i 9 = j then areaN (rq R i) else 0 := fun i h1 h2 => by rw [hqo i h2]
    rw [sN_upd (f := fun i => if rq R i 8 = 1 ∧ rq R i 9 = j then areaN (rq R i) else 0) (f' := fun i => if rq (finS R J r y p) i 8 = 1 ∧ rq (finS R J r y p) i 9 = j then areaN (rq (finS R J r y p) i) else 0) (R 2) hJ hk (by rw [h8]; simp)]
    rw [e8, e9, areaN_cg hq8 hGok.1.2.1]
    by_cases hj : j = r
    · rw [if_pos hj, if_pos ⟨rfl, hj.symm⟩]
    · rw [if_neg hj, if_neg (fun z => hj z.2.symm)]
  refine ⟨fun k hk => ?_, ?_, ⟨?_, fun r' hr' => ?_⟩, ?_, ?_, fun i hi => ?_⟩
  · rw [mv _ (by omega) (by omega), f0' _ (by omega) (by omega)]
    exact a1 k hk
  · rw [um_eq, f5]
  · rw [mv _ (by omega) (by omega), f0' 0 (by omega) (by omega)]
    exact a3.1
  · rw [elaid, ero r' 0 hr' (by omega), ero r' 1 hr' (by omega), ero r' 2 hr' (by omega), ero r' 3 hr' (by omega), ero r' 4 hr' (by omega), ero r' 5 hr' (by omega), ero r' 6 hr' (by omega), mv _ (by omega) (by omega), mv _ (by omega) (by omega), mv _ (by omega) (by omega), mv _ (by omega) (by omega), mv _ (by omega) (by omega), mv _ (by omega) (by omega), mv _ (by omega) (by omega), mv _ (by omega) (by omega)]
    exact a3.2 r' hr'
  · rw [eEL, f0' 1 (by omega) (by omega)]
    exact a4.mv (fun o h1 h2 => mv _ (by omega) (by omega))
  · rw [mv _ (by omega) (by omega), f0' 2 (by omega) (by omega)]
    exact a5
  · rw [f0' 2 (by omega) (by omega)] at hi
    by_cases hiJ : i = J
    · subst hiJ
      refine ⟨?_, fun z => ?_, fun _ => ?_⟩
      · exact (a7.cg hq8).mv (mv _ (by omega) (by omega)) (mv _ (by omega) (by omega)) (mv _ (by omega) (by omega)) (mv _ (by omega) (by omega))
      · rw [e8] at z
        cases z
      · rw [e9, e10, e11, ero r 1 hr (by omega), stripsN_cg hq8 hGok.1.2.1 hy]
        refine ⟨a8.mv (mv _ (by omega) (by omega)) (mv _ (by omega) (by omega)), ?_, ?_, fun s hs => ?_⟩
        · rw [mv _ (by omega) (by omega)]
          exact a9
        · rw [um_o _ _ (by omega), um_eq]
        · rw [mv _ (by omega) (by omega), show sc (finS R i r y p) i s = sc R i s from f0 _ (by omega) (by omega) (by omega) (by omega) (by omega)]
          exact a10 s (by omega)
    · have h6 := a6 i hi hiJ
      obtain ⟨g1, g2, g3⟩ := h6
      unfold RoomRep
      rw [hqo i hiJ]
      refine ⟨g1.mv (mv _ (by omega) (by omega)) (mv _ (by omega) (by omega)) (mv _ (by omega) (by omega)) (mv _ (by omega) (by omega)), fun h0 => ?_, fun h1 => ?_⟩
      · rw [mv _ (by omega) (by omega)]
        exact g2 h0
      · obtain ⟨k1, k2, k3, k4⟩ := g3 h1
        rw [ero _ 1 (hw i hi h1).1 (by omega)]
        refine ⟨k1.mv (mv _ (by omega) (by omega)) (mv _ (by omega) (by omega)), ?_, ?_, fun s hs => ?_⟩
        · rw [mv _ (by omega) (by omega)]
          exact k2
        · rw [um_o _ _ (by omega), um_k _ _ hiJ]
          exact k3
        · have h36 := stripsN_le g1.2.1 (hw i hi h1).2 k1.2.2.2.1
          rw [mv _ (by omega) (by omega), show sc (finS R J r y p) i s = sc R i s from f0 _ (by omega) (by omega) (by omega) (by omega) (by omega)]
          exact k4 s hs
