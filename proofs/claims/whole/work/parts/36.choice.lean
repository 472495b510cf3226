/-! what a covering wastes; the best covering; the plan for all rooms -/
theorem restS_w {R R' : RS} {r a b : Nat} (hr12 : r < 12) (ha : a ≤ 60) (hb : b ≤ 60) (hs : restS R r a b = some R') : ro R r 5 ≤ ro R' r 5 ∧ ro R' r 5 ≤ ro R r 5 + 3600 := by
  have hab : a * b ≤ 60 * 60 := mul_b ha hb
  unfold restS at hs
  split at hs
  · cases hs
    have e : ro (wasteR R r (a * b)) r 5 = ro R r 5 + a * b := un_at _ _ _
    rw [e]
    omega
  · split at hs
    · cases hs
    · cases hs
      have e : ro (addR R r a b) r 5 = ro R r 5 := addR_ne (by omega) (by omega) (by omega)
      rw [e]
      omega
theorem cutS_w {R R' : RS} {r PW PL w k : Nat} (hr12 : r < 12) (hPW : PW ≤ 60) (hPL : PL ≤ 60) (hw : w ≤ 60) (hk : k ≤ 60) (hs : cutS R r PW PL w k = some R') : ro R r 5 ≤ ro R' r 5 ∧ ro R' r 5 ≤ ro R r 5 + 7200 := by
  unfold cutS at hs
  cases h4 : restS R r (PW - w) (if lngB R PW PL w k then PL else k) with
  | none => rw [h4] at hs; cases hs
  | some R1 =>
    rw [h4, Option.bind_some] at hs
    have a1 := restS_w hr12 (by omega) (by split <;> omega) h4
    have b1 := restS_w hr12 (by split <;> omega) (by omega) hs
    omega
theorem stripS_w {R : RS} {r W i s w k : Nat} (h : OffOk R) (hr12 : r < 12) (hs : s < 36) (hW : W ≤ 60) (hw : w ≤ 60) (hk : k ≤ 60) (h0 : (stripS R r W i s w k).1 = 0) : ro R r 5 ≤ ro (stripS R r W i s w k).2 r 5 ∧ ro (stripS R r W i s w k).2 r 5 ≤ ro R r 5 + 7200 := by
  cases ht : takeS R r W w k i s with
  | none =>
    have e3 : stripS R r W i s w k = (3, R) := by rw [stripS, ht]
    rw [e3] at h0
    exact absurd h0 (nz_fst (by decide))
  | some t =>
    obtain ⟨R1, PW, PL⟩ := t
    obtain ⟨a1, a2, a3, a4⟩ := h.take hr12 hW hk ht
    obtain ⟨s1, s2, s3, s4, s5⟩ := takeS_same hr12 hs h.1 ht
    cases hc : cutS R1 r PW PL w k with
    | none =>
      have e4 : stripS R r W i s w k = (4, R) := by rw [stripS, ht]; dsimp only; rw [hc]
      rw [e4] at h0
      exact absurd h0 (nz_fst (by decide))
    | some R2 =>
      have e0 : stripS R r W i s w k = (0, R2) := by rw [stripS, ht]; dsimp only; rw [hc]
      rw [e0]
      have := cutS_w hr12 a3 a4 hw hk hc
      rw [s3] at this
      exact this
theorem coverL_w {r W i : Nat} (hr12 : r < 12) (hW : W ≤ 60) : ∀ (S : List (Nat × Nat)) (s : Nat) (R : RS), OffOk R → r < R 0 → s + S.length ≤ 36 → (∀ p ∈ S, p.1 ≤ 60 ∧ p.2 ≤ 60) → (coverL r W i S s R).1 = 0 → ro R r 5 ≤ ro (coverL r W i S s R).2 r 5 ∧ ro (coverL r W i S s R).2 r 5 ≤ ro R r 5 + 7200 * S.length
  | [], s, R, h, hr, hl, hS, h0 => ⟨Nat.le_refl _, Nat.le_add_right _ _⟩
  | p :: ps, s, R, h, hr, hl, hS, h0 => by
    rw [List.length_cons] at hl ⊢
    rw [coverL_cons] at h0 ⊢
    by_cases hz : (stripS R r W i s p.1 p.2).1 = 0
    · rw [if_pos hz] at h0 ⊢
      obtain ⟨a1, a2, a3, a4⟩ := stripS_ok h hr12 hr (by omega) hW (hS p List.mem_cons_self).1 (hS p List.mem_cons_self).2 hz
      have a5 := stripS_w h hr12 (by omega) hW (hS p List.mem_cons_self).1 (hS p List.mem_cons_self).2 hz
      have b := coverL_w hr12 hW ps (s + 1) _ a1 (by omega) (by omega) (fun q hq => hS q (List.mem_cons_of_mem _ hq)) h0
      omega
    · rw [if_neg hz] at h0
      exact absurd h0 hz
/-- what a covering leaves as it was -/
theorem coverS_keep {R : RS} (hI : Inv R) {i r y : Nat} (hi : i < R 2) (hr : r < R 0) (hy : y ≤ 1) (h0 : (coverS R i r y).1 = 0) : (ro R r 5 ≤ ro (coverS R i r y).2 r 5 ∧ ro (coverS R i r y).2 r 5 ≤ ro R r 5 + 259200) ∧ (ro (coverS R i r y).2 r 2 ≤ ro R r 2) ∧ (coverS R i r y).2 0 = R 0 ∧ (coverS R i r y).2 2 = R 2 ∧ (∀ j, 4 ≤ j → j < 9 → (coverS R i r y).2 j = R j) ∧ (∀ r' f, r' < 12 → f < 7 → f ≠ 2 ∧ f ≠ 5 ∨ r' ≠ r → ro (coverS R i r y).2 r' f = ro R r' f) ∧ q8 (rq (coverS R i r y).2 i) (rq R i) ∧ rq (coverS R i r y).2 i 8 = 1 ∧ rq (coverS R i r y).2 i 9 = r ∧ rq (coverS R i r y).2 i 10 = y ∧ (∀ i', i' < 20 → i' ≠ i → rq (coverS R i r y).2 i' = rq R i') := by
  obtain ⟨k1, k2, k3⟩ := hI.2.2.2.2.1 i hi
  obtain ⟨v1, v2, v3, v4, v5⟩ := hI.2.2.1 r hr
  have hr12 : r < 12 := by have := hI.1.1; omega
  have hi20 : i < 20 := by have := hI.1.2.2; omega
  unfold coverS at h0 ⊢
  by_cases h8 : rq R i 8 = 1
  · rw [if_pos h8] at h0
    exact absurd h0 (nz_fst (by decide))
  · rw [if_neg h8] at h0 ⊢
    by_cases ha : R 8 = 1 ∧ acr (rq R i) y = true
    · rw [if_pos ha] at h0
      exact absurd h0 (nz_fst (by decide))
    · rw [if_neg ha] at h0 ⊢
      by_cases hc : (coverL r (ro R r 1) i (SL (rq R i) y (ro R r 1)) 0 R).1 = 0
      · rw [if_pos hc] at h0 ⊢
        have hS : ∀ p ∈ SL (rq R i) y (ro R r 1), p.1 ≤ 60 ∧ p.2 ≤ 60 := fun p hp => by
          have := SLf_ok k1 hy v2.1 (rq R i 0) 0 (by omega) p hp
          omega
        have hst := stripsN_le k1 hy v2.1
        obtain ⟨a1, a2, a3, a4⟩ := coverL_ok hr12 v2.2 (SL (rq R i) y (ro R r 1)) 0 R hI.off hr (by rw [SL_len]; omega) hS hc
        have a5 := coverL_w hr12 v2.2 (SL (rq R i) y (ro R r 1)) 0 R hI.off hr (by rw [SL_len]; omega) hS hc
        rw [SL_len] at a5
        generalize (coverL r (ro R r 1) i (SL (rq R i) y (ro R r 1)) 0 R).2 = R1 at a1 a2 a3 a4 a5 ⊢
        generalize priceS R i r y = p
        obtain ⟨f0, f1, f2, f3, f4, f5⟩ := finS_at R1 i r y p
        dsimp only
        have hf : ∀ r' f, r' < 12 → f < 7 → ro (finS R1 i r y p) r' f = ro R1 r' f := fun r' f h1 h2 => f0 _ (by omega) (by omega) (by omega) (by omega) (by omega)
        refine ⟨by rw [hf r 5 hr12 (by omega)]; omega, by rw [hf r 2 hr12 (by omega)]; exact a4, by rw [f0 0 (by omega) (by omega) (by omega) (by omega) (by omega)]; exact a3, by rw [f0 2 (by omega) (by omega) (by omega) (by omega) (by omega)]; exact a2 2 (by omega) (by omega) (by omega) (by omega) (by omega), fun j h1 h2 => by rw [f0 j (by omega) (by omega) (by omega) (by omega) (by omega)]; exact a2 j (by omega) (by omega) (by omega) (by omega) (by omega), fun r' f h1 h2 h3 => by rw [hf r' f h1 h2]; exact a2.ro h1 h2 h3, fun w hw => ?_, ?_, ?_, ?_, fun i' h1 h2 => rq_cong (fun w hw => (f0 _ (by omega) (by omega) (by omega) (by omega) (by omega)).trans (a2 _ (by omega) (by omega) (by omega) (by omega) (by omega)))⟩
        · rw [rq_w (by omega), rq_w (by omega), f0 _ (by omega) (by omega) (by omega) (by omega) (by omega)]
          exact a2 _ (by omega) (by omega) (by omega) (by omega) (by omega)
        · rw [rq_w (by omega), f1]
        · rw [rq_w (by omega), f2]
        · rw [rq_w (by omega), f3]
      · rw [if_neg hc] at h0
        exact absurd h0 hc
def wasteD (R : RS) (i r y : Nat) : Nat := ro (coverS R i r y).2 r 5 - ro R r 5
def ifcN (R : RS) (i r y w : Nat) : Nat := if w = 0 then priceS R i r y else if w = 1 then stripsN (rq R i) y (ro R r 1) else if w = 2 then seamN (rq R i) y (ro R r 1) else if w = 3 then wasteD R i r y else if w = 4 then ro R r 2 - ro (coverS R i r y).2 r 2 else cnt (fun s => decide (¬ nI (sc (coverS R i r y).2 i s) < 0)) (stripsN (rq R i) y (ro R r 1))
def vIfCov (R : RS) (i r y w : Int32) : Int32 := if hasI i (R 2) ∧ hasI r (R 0) then (if inI y 0 1 ∧ inI w 0 5 then (if (coverS R (tN i) (tN r) (tN y)).1 = 0 then nI (ifcN R (tN i) (tN r) (tN y) (tN w)) else errI (coverS R (tN i) (tN r) (tN y)).1) else -2) else -1
def chN (R : RS) (i kd : Nat) : Nat → Option (Nat × Nat × Nat × Nat)
  | 0 => none
  | n + 1 => if ro R (n / 2) 0 = kd ∧ (coverS R i (n / 2) (n % 2)).1 = 0 then offerS (chN R i kd n) (n / 2) (n % 2) (wasteD R i (n / 2) (n % 2)) (priceS R i (n / 2) (n % 2)) else chN R i kd n
def chooseS (R : RS) (i kd : Nat) : Option (Nat × Nat × Nat × Nat) := chN R i kd (2 * R 0)
def bestN (q : Nat × Nat × Nat × Nat) (w : Nat) : Nat := if w = 0 then q.1 else if w = 1 then q.2.1 else if w = 2 then q.2.2.1 else q.2.2.2
def vBest (R : RS) (i kd w : Int32) : Int32 := if hasI i (R 2) then (if inI kd 0 9 ∧ inI w 0 3 then (match chooseS R (tN i) (tN kd) with
  | none => -5
  | some q => nI (bestN q (tN w))) else -2) else -1
def vSuits (R : RS) (x : Int32) : Int32 := if keptI R x then oI (ff (fun i => suitS R (cnt (kp R) (tN x)) i) (R 2) 0) else -1
def planS (R : RS) (kd : Nat) : Nat → RS × Nat × Nat
  | 0 => (R, 0, 0)
  | n + 1 => match chooseS (planS R kd n).1 n kd with
    | none => planS R kd n
    | some q => ((coverS (planS R kd n).1 n q.1 q.2.1).2, (planS R kd n).2.1 + 1, (planS R kd n).2.2 + q.2.2.1)
def vCovAll (R : RS) (kd w : Int32) : Int32 := if inI kd 0 9 ∧ inI w 0 1 then nI (if tN w = 0 then (planS R (tN kd) (R 2)).2.1 else (planS R (tN kd) (R 2)).2.2) else -2
theorem wasteD_lt {R : RS} (hI : Inv R) {i r y : Nat} (hi : i < R 2) (hr : r < R 0) (hy : y ≤ 1) (h0 : (coverS R i r y).1 = 0) : wasteD R i r y ≤ 259200 := by
  have := (coverS_keep hI hi hr hy h0).1
  unfold wasteD
  omega
theorem offerS_or {c : Option (Nat × Nat × Nat × Nat)} {r y w p : Nat} {q : Nat × Nat × Nat × Nat} (h : offerS c r y w p = some q) : c = some q ∨ q = (r, y, w, p) := by
  unfold offerS at h
  split at h
  · exact Or.inr (Option.some.inj h).symm
  · split at h
    · exact Or.inr (Option.some.inj h).symm
    · exact Or.inl h
theorem chN_ok {R : RS} {i kd : Nat} : ∀ n, n ≤ 2 * R 0 → ∀ q, chN R i kd n = some q → q.1 < R 0 ∧ q.2.1 ≤ 1 ∧ ro R q.1 0 = kd ∧ (coverS R i q.1 q.2.1).1 = 0 ∧ q.2.2.1 = wasteD R i q.1 q.2.1 ∧ q.2.2.2 = priceS R i q.1 q.2.1
  | 0, _, q, h => by cases h
  | n + 1, hn, q, h => by
    rw [chN] at h
    split at h
    · rename_i hc
      rcases offerS_or h with h1 | h1
      · exact chN_ok n (by omega) q h1
      · subst h1
        exact ⟨by dsimp only; omega, by dsimp only; omega, hc.1, hc.2, rfl, rfl⟩
    · exact chN_ok n (by omega) q h
theorem planS_ok {R : RS} (hI : Inv R) (kd : Nat) : ∀ n, n ≤ R 2 → Inv (planS R kd n).1 ∧ (planS R kd n).1 0 = R 0 ∧ (planS R kd n).1 2 = R 2 ∧ (planS R kd n).2.1 ≤ n ∧ (planS R kd n).2.2 ≤ n * 259200
  | 0, _ => ⟨hI, rfl, rfl, Nat.le_refl _, Nat.zero_le _⟩
  | n + 1, hn => by
    obtain ⟨h1, h2, h3, h4, h5⟩ := planS_ok hI kd n (by omega)
    rw [planS]
    cases hq : chooseS (planS R kd n).1 n kd with
    | none => exact ⟨h1, h2, h3, Nat.le_trans h4 (Nat.le_succ n), Nat.le_trans h5 (Nat.mul_le_mul_right _ (Nat.le_succ n))⟩
    | some q =>
      obtain ⟨q1, q2, q3, q4, q5, q6⟩ := chN_ok _ (Nat.le_refl _) q hq
      have hk := coverS_keep h1 (show n < _ by omega) q1 q2 q4
      have hw := wasteD_lt h1 (show n < _ by omega) q1 q2 q4
      exact ⟨coverS_inv h1 (by omega) q1 q2 q4, by dsimp only; rw [hk.2.2.1]; exact h2, by dsimp only; rw [hk.2.2.2.1]; exact h3, by dsimp only; omega, by dsimp only; omega⟩
section
variable {l : Launch} {g : XG} {sh : Nat → Sh} {mem : Mem} {κ : Nat} {G : GS}
theorem ct_Cc_suits (hL : LayCc sh κ) (hC : CR mem κ G) {x : Int32} : Ct l g M_Cc_suits [rf g κ, .int x] none sh mem (Ri none sh (CP κ mem (vSuits G.1 x, G))) := by
  obtain ⟨hI, hb, hh, ht, hs⟩ := id hC
  have h300 := hI.1.2.1
  have h20 := hI.1.2.2
  refine x_begin rfl rfl rfl (by decide) rfl ?_
  refine x_aload_n d_Cc_suits_0 rfl ?_
  refine x_getR hL.f0 rfl fs_Cc_10 d_Cc_suits_1 ?_
  refine x_getR hL.s1.f0 rfl fs_Cc_107 d_Cc_suits_4 ?_
  refine x_iload_n d_Cc_suits_7 rfl ?_
  refine x_v1p d_Cc_suits_8 ml_Cc_111 v_Of_placeOf rfl ⟨rfl, rfl⟩ hL.s1.s20.io (Nat.le_of_ble_eq_true rfl) (ct_Of_placeOf hL.s1.s20 hb.2.2.2.1) ?_
  rw [placeOf_EL h300]
  by_cases hk : keptI G.1 x
  · rw [if_pos hk, show vSuits G.1 x = oI (ff (fun i => suitS G.1 (cnt (kp G.1) (tN x)) i) (G.1 2) 0) from if_pos hk]
    obtain ⟨hk0, hk2⟩ := hk
    obtain ⟨k, hk1, rfl⟩ := hasI_of (by omega) hk0
    rw [tN_nI (by omega)] at hk2 ⊢
    have hcl := cnt_le (kp G.1) k
    have hpl : cnt (kp G.1) k < nK G.1 := by
      have h1 := cnt_lt (kp G.1) hk1 hk2
      rw [← nK_cnt] at h1
      exact h1
    refine x_istore_n d_Cc_suits_11 (by decide) ?_
    refine x_iload_n d_Cc_suits_12 rfl ?_
    refine x_if_ge (tgt := 18) d_Cc_suits_13 (by decide) (fun c13 => ?_) (fun c13 => ?_)
    · refine x_aload_n d_Cc_suits_18 rfl ?_
      refine x_getR hL.f0 rfl fs_Cc_10 d_Cc_suits_19 ?_
      refine x_getR hL.s1.f0 rfl fs_Cc_79 d_Cc_suits_22 ?_
      refine x_getI hL.s1.s29.f0 rfl fs_Cc_76 d_Cc_suits_25 ?_
      rw [hb.2.2.2.2.1]
      refine x_istore_n d_Cc_suits_28 (by decide) ?_
      refine x_iconst (v := nI 0) d_Cc_suits_29 (by decide) ?_
      refine x_istore d_Cc_suits_30 (by decide) ?_
      refine up_ind (G.1 2) (P := fun j => ff (fun i => suitS G.1 (cnt (kp G.1) k) i) (G.1 2 - j) j = ff (fun i => suitS G.1 (cnt (kp G.1) k) i) (G.1 2) 0 → X l g M_Cc_suits (XF g (Ri none sh (CP κ mem (oI (ff (fun i => suitS G.1 (cnt (kp G.1) k) i) (G.1 2) 0), G))) M_Cc_suits) 32 [some (rf g κ), some (.int (nI k)), some (.int (nI (cnt (kp G.1) k))), some (.int (nI (G.1 2))), some (.int (nI j))] [] none sh mem 0 0) (fun j hj ih hff => ?_) 0 (Nat.zero_le _) rfl
      refine x_iload d_Cc_suits_32 rfl ?_
      refine x_iload_n d_Cc_suits_34 rfl ?_
      refine x_icmp_ge (tgt := 60) d_Cc_suits_35 (by decide) (fun c35 => ?_) (fun c35 => ?_)
      · have hj2 : G.1 2 ≤ j := nI_le' (by omega) (by omega) c35
        rw [ff_e hj2] at hff
        rw [← hff]
        refine x_bipush (v := -5) d_Cc_suits_60 (by decide) ?_
        refine x_iret rfl rfl d_Cc_suits_62 (Nat.zero_le _) (Nat.zero_le _) ?_
        exact ⟨_, rfl, rfl, rfl, rfl, hC, Fr.rf⟩
      · have hj2 := nI_nle' (by omega) (by omega) c35
        refine x_aload_n d_Cc_suits_38 rfl ?_
        refine x_getR hL.f0 rfl fs_Cc_10 d_Cc_suits_39 ?_
        refine x_iload_n d_Cc_suits_42 rfl ?_
        refine x_iload d_Cc_suits_43 rfl ?_
        refine x_v2p d_Cc_suits_45 ml_Cc_270 v_Bk_sufficesFor rfl ⟨rfl, rfl⟩ hL.s1.io (Nat.le_of_ble_eq_true rfl) (ct_Bk_sufficesFor hL.s1 hI hb hpl hj2) ?_
        refine x_if_eq (tgt := 54) d_Cc_suits_48 (by decide) (fun c48 => ?_) (fun c48 => ?_)
        · refine x_iinc d_Cc_suits_54 rfl (by first | exact inc1 _ | rfl) (by decide) ?_
          refine x_goto (tgt := 32) d_Cc_suits_57 (by decide) ?_
          refine ih hj2 ?_
          rw [ff_f hj2 (by simpa using bI_0.mp c48)] at hff
          exact hff
        · rw [ff_t hj2 (bI_n.mp c48)] at hff
          rw [← hff]
          refine x_iload d_Cc_suits_51 rfl ?_
          refine x_iret rfl rfl d_Cc_suits_53 (Nat.zero_le _) (Nat.zero_le _) ?_
          exact ⟨_, rfl, rfl, rfl, rfl, hC, Fr.rf⟩
    · exact absurd (nI_pos' (by omega)) c13
  · rw [if_neg hk, show vSuits G.1 x = -1 from if_neg hk]
    refine x_istore_n d_Cc_suits_11 (by decide) ?_
    refine x_iload_n d_Cc_suits_12 rfl ?_
    refine x_if_ge (tgt := 18) d_Cc_suits_13 (by decide) (fun c13 => ?_) (fun c13 => ?_)
    · exact absurd c13 (by decide)
    · refine x_iconst (v := -1) d_Cc_suits_16 (by decide) ?_
      refine x_iret rfl rfl d_Cc_suits_17 (Nat.zero_le _) (Nat.zero_le _) ?_
      exact ⟨_, rfl, rfl, rfl, rfl, hC, Fr.rf⟩
theorem ct_Cc_ifCovered (hL : LayCc sh κ) (hC : CR mem κ G) {i r y w : Int32} : Ct l g M_Cc_ifCovered [rf g κ, .int i, .int r, .int y, .int w] none sh mem (Ri none sh (CP κ mem (vIfCov G.1 i r y w, G))) := by
  obtain ⟨hI, hb, hh, ht, hs⟩ := id hC
  have h20 := hI.1.2.2
  have h12 := hI.1.1
  refine x_begin rfl rfl rfl (by decide) rfl ?_
  refine x_aload_n d_Cc_ifCovered_0 rfl ?_
  refine x_getR hL.f0 rfl fs_Cc_10 d_Cc_ifCovered_1 ?_
  refine x_getR hL.s1.f0 rfl fs_Cc_79 d_Cc_ifCovered_4 ?_
  refine x_iload_n d_Cc_ifCovered_7 rfl ?_
  refine x_v1p d_Cc_ifCovered_8 ml_Cc_86 v_Rm_has rfl ⟨rfl, rfl⟩ hL.s1.s29.io (Nat.le_of_ble_eq_true rfl) (ct_Rm_has hL.s1.s29 hb.2.2.2.2.1 h20) ?_
  refine x_if_eq (tgt := 28) d_Cc_ifCovered_11 (by decide) (fun c11 => ?_) (fun c11 => ?_)
  · rw [show vIfCov G.1 i r y w = -1 from if_neg (fun z => bI_0.mp c11 z.1)]
    refine x_iconst (v := -1) d_Cc_ifCovered_28 (by decide) ?_
    refine x_iret rfl rfl d_Cc_ifCovered_29 (Nat.zero_le _) (Nat.zero_le _) ?_
    exact ⟨_, rfl, rfl, rfl, rfl, hC, Fr.rf⟩
  · refine x_aload_n d_Cc_ifCovered_14 rfl ?_
    refine x_getR hL.f0 rfl fs_Cc_10 d_Cc_ifCovered_15 ?_
    refine x_getR hL.s1.f0 rfl fs_Cc_50 d_Cc_ifCovered_18 ?_
    refine x_iload_n d_Cc_ifCovered_21 rfl ?_
    refine x_v1p d_Cc_ifCovered_22 ml_Cc_89 v_Ro_has rfl ⟨rfl, rfl⟩ hL.s1.s3.io (Nat.le_of_ble_eq_true rfl) (ct_Ro_has hL.s1.s3 hb.2.2.1.1 h12) ?_
    refine x_if_ne (tgt := 30) d_Cc_ifCovered_25 (by decide) (fun c25 => ?_) (fun c25 => ?_)
    · have hi0 := bI_n.mp c11
      have hr0 := bI_n.mp c25
      rw [show vIfCov G.1 i r y w = if inI y 0 1 ∧ inI w 0 5 then (if (coverS G.1 (tN i) (tN r) (tN y)).1 = 0 then nI (ifcN G.1 (tN i) (tN r) (tN y) (tN w)) else errI (coverS G.1 (tN i) (tN r) (tN y)).1) else -2 from if_pos ⟨hi0, hr0⟩]
      obtain ⟨i, hi, rfl⟩ := hasI_of (by omega) hi0
      obtain ⟨r, hr, rfl⟩ := hasI_of (by omega) hr0
      rw [tN_nI (by omega), tN_nI (by omega)]
      refine x_iload_n d_Cc_ifCovered_30 rfl ?_
      refine x_s1p d_Cc_ifCovered_31 ml_Cc_90 v_Cc_isWay rfl ⟨rfl, rfl⟩ rfl (Nat.le_of_ble_eq_true rfl) (ct_Cc_isWay) ?_
      refine x_if_eq (tgt := 48) d_Cc_ifCovered_34 (by decide) (fun c34 => ?_) (fun c34 => ?_)
      · rw [if_neg (fun z => bI_0.mp c34 z.1)]
        refine x_bipush (v := -2) d_Cc_ifCovered_48 (by decide) ?_
        refine x_iret rfl rfl d_Cc_ifCovered_50 (Nat.zero_le _) (Nat.zero_le _) ?_
        exact ⟨_, rfl, rfl, rfl, rfl, hC, Fr.rf⟩
      · refine x_iload d_Cc_ifCovered_37 rfl ?_
        refine x_if_lt (tgt := 48) d_Cc_ifCovered_39 (by decide) (fun c39 => ?_) (fun c39 => ?_)
        · rw [if_neg (fun z => rng_no (Or.inl c39) z.2)]
          refine x_bipush (v := -2) d_Cc_ifCovered_48 (by decide) ?_
          refine x_iret rfl rfl d_Cc_ifCovered_50 (Nat.zero_le _) (Nat.zero_le _) ?_
          exact ⟨_, rfl, rfl, rfl, rfl, hC, Fr.rf⟩
        · refine x_iload d_Cc_ifCovered_42 rfl ?_
          refine x_iconst (v := nI 5) d_Cc_ifCovered_44 (by decide) ?_
          refine x_icmp_le (tgt := 51) d_Cc_ifCovered_45 (by decide) (fun c45 => ?_) (fun c45 => ?_)
          · have hy0 := bI_n.mp c34
            have hw0 : inI w 0 5 := ⟨i_nlt.mp c39, c45⟩
            rw [if_pos ⟨hy0, hw0⟩]
            obtain ⟨y, hy, rfl⟩ := inI_of (by omega) (by omega) hy0
            obtain ⟨w, hw, rfl⟩ := inI_of (by omega) (by omega) hw0
            rw [tN_nI (by omega), tN_nI (by omega)]
            have hpr := priceS_lt hI hi hr hy.2
            refine x_aload_n d_Cc_ifCovered_51 rfl ?_
            refine x_getR hL.f0 rfl fs_Cc_19 d_Cc_ifCovered_52 ?_
            refine x_aload_n d_Cc_ifCovered_55 rfl ?_
            refine x_getR hL.f0 rfl fs_Cc_10 d_Cc_ifCovered_56 ?_
            refine x_v1v d_Cc_ifCovered_59 ml_Cc_93 v_Bk_copyFrom rfl ⟨rfl, rfl⟩ hL.s97.io (Nat.le_of_ble_eq_true rfl) (ct_Bk_copyFrom hL.s97 hL.s1 (by omega)) (fun mem59 h59 => ?_)
            obtain ⟨F0, hcp⟩ := h59
            have hbt := hcp _ hI hb
            refine x_aload_n d_Cc_ifCovered_62 rfl ?_
            refine x_getR hL.f0 rfl fs_Cc_19 d_Cc_ifCovered_63 ?_
            refine x_iload_n d_Cc_ifCovered_66 rfl ?_
            refine x_iload_n d_Cc_ifCovered_67 rfl ?_
            refine x_iload_n d_Cc_ifCovered_68 rfl ?_
            refine x_v3i d_Cc_ifCovered_69 ml_Cc_96 v_Bk_lay rfl ⟨rfl, rfl⟩ hL.s97.io (Nat.le_of_ble_eq_true rfl) (ct_Bk_lay hL.s97 hI hbt hi hr hy.2) (fun r69 mem69 h69 => ?_)
            obtain ⟨F1, hl⟩ := h69
            have hC1 := hC.scr (m := mem69) (fun o h1 h2 => (F1 o (by omega)).trans (F0 o (by omega)))
            have hbk := hC1.1.2.1
            rcases hl with ⟨e0, ex, hb1⟩ | ⟨e0, ex⟩
            · rw [if_pos e0]
              subst ex
              have hI2 := coverS_inv hI hi hr hy.2 e0
              obtain ⟨⟨u1, u2⟩, u3, u4, u5, u6, u7, u8, u9, u10, u11, u12⟩ := coverS_keep hI hi hr hy.2 e0
              have hR1 := hb1.2.2.2.2.2 i (by omega)
              have hcv := hR1.2.2 u9
              rw [u10, u11, u7 r 1 (by omega) (by omega) (by omega)] at hcv
              have hR2 := hR1.1
              have hq3 := (hI.2.2.2.2.1 i hi).1.1.2.1
              have hst : stripsN (rq (coverS G.1 i r y).2 i) y (ro G.1 r 1) = stripsN (rq G.1 i) y (ro G.1 r 1) := stripsN_cg u8 hq3 hy.2
              have hse : seamN (rq (coverS G.1 i r y).2 i) y (ro G.1 r 1) = seamN (rq G.1 i) y (ro G.1 r 1) := seamN_cg u8 hq3 hy.2
              have hlf := (hI.2.2.1 r hr).2.2.1
              refine x_istore d_Cc_ifCovered_72 (by decide) ?_
              refine x_iload d_Cc_ifCovered_74 rfl ?_
              refine x_if_ge (tgt := 82) d_Cc_ifCovered_76 (by decide) (fun c76 => ?_) (fun c76 => ?_)
              · refine x_iload d_Cc_ifCovered_82 rfl ?_
                rcases (show w = 0 ∨ w = 1 ∨ w = 2 ∨ w = 3 ∨ w = 4 ∨ w = 5 by omega) with rfl | rfl | rfl | rfl | rfl | rfl
                · refine x_tableIn (off := 36) (tgt := 120) d_Cc_ifCovered_84 (by decide) (by decide) (by decide) (by decide) ?_
                  refine x_iload d_Cc_ifCovered_120 rfl ?_
                  refine x_iret rfl rfl d_Cc_ifCovered_122 (Nat.zero_le _) (Nat.zero_le _) ?_
                  exact ⟨_, rfl, rfl, rfl, rfl, hC1⟩
                · refine x_tableIn (off := 39) (tgt := 123) d_Cc_ifCovered_84 (by decide) (by decide) (by decide) (by decide) ?_
                  refine x_aload_n d_Cc_ifCovered_123 rfl ?_
                  refine x_getR hL.f0 rfl fs_Cc_19 d_Cc_ifCovered_124 ?_
                  refine x_getR hL.s97.f0 rfl fs_Cc_79 d_Cc_ifCovered_127 ?_
                  refine x_iload_n d_Cc_ifCovered_130 rfl ?_
                  refine x_v1p d_Cc_ifCovered_131 ml_Cc_215 v_Rm_strips rfl ⟨rfl, rfl⟩ hL.s97.s29.io (Nat.le_of_ble_eq_true rfl) (ct_Rm_strips hL.s97.s29 hR2 hcv.1) ?_
                  rw [hst]
                  refine x_iret rfl rfl d_Cc_ifCovered_134 (Nat.zero_le _) (Nat.zero_le _) ?_
                  exact ⟨_, rfl, rfl, rfl, rfl, hC1⟩
                · refine x_tableIn (off := 51) (tgt := 135) d_Cc_ifCovered_84 (by decide) (by decide) (by decide) (by decide) ?_
                  refine x_aload_n d_Cc_ifCovered_135 rfl ?_
                  refine x_getR hL.f0 rfl fs_Cc_19 d_Cc_ifCovered_136 ?_
                  refine x_getR hL.s97.f0 rfl fs_Cc_79 d_Cc_ifCovered_139 ?_
                  refine x_iload_n d_Cc_ifCovered_142 rfl ?_
                  refine x_v1p d_Cc_ifCovered_143 ml_Cc_218 v_Rm_seams rfl ⟨rfl, rfl⟩ hL.s97.s29.io (Nat.le_of_ble_eq_true rfl) (ct_Rm_seams hL.s97.s29 hR2 hcv.1) ?_
                  rw [hse]
                  refine x_iret rfl rfl d_Cc_ifCovered_146 (Nat.zero_le _) (Nat.zero_le _) ?_
                  exact ⟨_, rfl, rfl, rfl, rfl, hC1⟩
                · refine x_tableIn (off := 63) (tgt := 147) d_Cc_ifCovered_84 (by decide) (by decide) (by decide) (by decide) ?_
                  refine x_aload_n d_Cc_ifCovered_147 rfl ?_
                  refine x_getR hL.f0 rfl fs_Cc_19 d_Cc_ifCovered_148 ?_
                  refine x_getR hL.s97.f0 rfl fs_Cc_50 d_Cc_ifCovered_151 ?_
                  refine x_getR hL.s97.s3.f0 rfl fs_Cc_178 d_Cc_ifCovered_154 ?_
                  refine x_iload_n d_Cc_ifCovered_157 rfl ?_
                  refine x_v1p d_Cc_ifCovered_158 ml_Cc_134 v_Rw_at rfl ⟨rfl, rfl⟩ (row_io hL.s97.s3.f13) (Nat.le_of_ble_eq_true rfl) (ct_Rw_at hL.s97.s3.f13 hL.s97.s3.f14 (by omega)) ?_
                  rw [(hb1.2.2.1.2 r (by omega)).2.2.2.2.2.2.1]
                  refine x_aload_n d_Cc_ifCovered_161 rfl ?_
                  refine x_getR hL.f0 rfl fs_Cc_10 d_Cc_ifCovered_162 ?_
                  refine x_getR hL.s1.f0 rfl fs_Cc_50 d_Cc_ifCovered_165 ?_
                  refine x_getR hL.s1.s3.f0 rfl fs_Cc_178 d_Cc_ifCovered_168 ?_
                  refine x_iload_n d_Cc_ifCovered_171 rfl ?_
                  refine x_v1p d_Cc_ifCovered_172 ml_Cc_134 v_Rw_at rfl ⟨rfl, rfl⟩ (row_io hL.s1.s3.f13) (Nat.le_of_ble_eq_true rfl) (ct_Rw_at hL.s1.s3.f13 hL.s1.s3.f14 (by omega)) ?_
                  rw [(hbk.2.2.1.2 r (by omega)).2.2.2.2.2.2.1]
                  refine x_isub d_Cc_ifCovered_175 ?_
                  rw [pk_sub u1]
                  refine x_iret rfl rfl d_Cc_ifCovered_176 (Nat.zero_le _) (Nat.zero_le _) ?_
                  exact ⟨_, rfl, rfl, rfl, rfl, hC1⟩
                · refine x_tableIn (off := 93) (tgt := 177) d_Cc_ifCovered_84 (by decide) (by decide) (by decide) (by decide) ?_
                  refine x_aload_n d_Cc_ifCovered_177 rfl ?_
                  refine x_getR hL.f0 rfl fs_Cc_10 d_Cc_ifCovered_178 ?_
                  refine x_getR hL.s1.f0 rfl fs_Cc_50 d_Cc_ifCovered_181 ?_
                  refine x_getR hL.s1.s3.f0 rfl fs_Cc_163 d_Cc_ifCovered_184 ?_
                  refine x_iload_n d_Cc_ifCovered_187 rfl ?_
                  refine x_v1p d_Cc_ifCovered_188 ml_Cc_134 v_Rw_at rfl ⟨rfl, rfl⟩ (row_io hL.s1.s3.f5) (Nat.le_of_ble_eq_true rfl) (ct_Rw_at hL.s1.s3.f5 hL.s1.s3.f6 (by omega)) ?_
                  rw [(hbk.2.2.1.2 r (by omega)).2.2.1]
                  refine x_aload_n d_Cc_ifCovered_191 rfl ?_
                  refine x_getR hL.f0 rfl fs_Cc_19 d_Cc_ifCovered_192 ?_
                  refine x_getR hL.s97.f0 rfl fs_Cc_50 d_Cc_ifCovered_195 ?_
                  refine x_getR hL.s97.s3.f0 rfl fs_Cc_163 d_Cc_ifCovered_198 ?_
                  refine x_iload_n d_Cc_ifCovered_201 rfl ?_
                  refine x_v1p d_Cc_ifCovered_202 ml_Cc_134 v_Rw_at rfl ⟨rfl, rfl⟩ (row_io hL.s97.s3.f5) (Nat.le_of_ble_eq_true rfl) (ct_Rw_at hL.s97.s3.f5 hL.s97.s3.f6 (by omega)) ?_
                  rw [(hb1.2.2.1.2 r (by omega)).2.2.1]
                  refine x_isub d_Cc_ifCovered_205 ?_
                  rw [pk_sub u3]
                  refine x_iret rfl rfl d_Cc_ifCovered_206 (Nat.zero_le _) (Nat.zero_le _) ?_
                  exact ⟨_, rfl, rfl, rfl, rfl, hC1⟩
                · refine x_tableOut (tgt := 207) d_Cc_ifCovered_84 (by decide) (by decide) ?_
                  refine x_aload_n d_Cc_ifCovered_207 rfl ?_
                  refine x_getR hL.f0 rfl fs_Cc_19 d_Cc_ifCovered_208 ?_
                  refine x_getR hL.s97.f0 rfl fs_Cc_79 d_Cc_ifCovered_211 ?_
                  refine x_iload_n d_Cc_ifCovered_214 rfl ?_
                  refine x_v1p d_Cc_ifCovered_215 ml_Cc_252 v_Rm_stripsFromOffcuts rfl ⟨rfl, rfl⟩ hL.s97.s29.io (Nat.le_of_ble_eq_true rfl) (ct_Rm_stripsFromOffcuts hL.s97.s29 hR2 hcv.1) ?_
                  rw [hst, cnt_cong (q := fun s => decide (¬ nI (sc (coverS G.1 i r y).2 i s) < 0)) _ (fun s hs => by rw [hcv.2.2.2 s (by rw [hst]; exact hs)])]
                  refine x_iret rfl rfl d_Cc_ifCovered_218 (Nat.zero_le _) (Nat.zero_le _) ?_
                  exact ⟨_, rfl, rfl, rfl, rfl, hC1⟩
              · exact absurd (nI_pos' (by omega)) c76
            · rw [if_neg e0]
              subst ex
              refine x_istore d_Cc_ifCovered_72 (by decide) ?_
              refine x_iload d_Cc_ifCovered_74 rfl ?_
              refine x_if_ge (tgt := 82) d_Cc_ifCovered_76 (by decide) (fun c76 => ?_) (fun c76 => ?_)
              · exact absurd c76 (i_nle.mpr (errI_neg _))
              · refine x_iload d_Cc_ifCovered_79 rfl ?_
                refine x_iret rfl rfl d_Cc_ifCovered_81 (Nat.zero_le _) (Nat.zero_le _) ?_
                exact ⟨_, rfl, rfl, rfl, rfl, hC1⟩
          · rw [if_neg (fun z => c45 z.2.2)]
            refine x_bipush (v := -2) d_Cc_ifCovered_48 (by decide) ?_
            refine x_iret rfl rfl d_Cc_ifCovered_50 (Nat.zero_le _) (Nat.zero_le _) ?_
            exact ⟨_, rfl, rfl, rfl, rfl, hC, Fr.rf⟩
    · rw [show vIfCov G.1 i r y w = -1 from if_neg (fun z => bI_0.mp c25 z.2)]
      refine x_iconst (v := -1) d_Cc_ifCovered_28 (by decide) ?_
      refine x_iret rfl rfl d_Cc_ifCovered_29 (Nat.zero_le _) (Nat.zero_le _) ?_
      exact ⟨_, rfl, rfl, rfl, rfl, hC, Fr.rf⟩
end
