/-! p27: a room that is covered and taken up again -/
theorem coverS_fin {R : RS} (hI : Inv R) {i r y : Nat} (hi : i < R 2) (hr : r < R 0) (hy : y ≤ 1) (h0 : (coverS R i r y).1 = 0) : ¬ rq R i 8 = 1 ∧ rq (coverS R i r y).2 i 8 = 1 ∧ rq (coverS R i r y).2 i 9 = r ∧ (coverS R i r y).2 0 = R 0 ∧ (coverS R i r y).2 2 = R 2 := by
  obtain ⟨k1, k2, k3⟩ := hI.2.2.2.2.1 i hi
  obtain ⟨v1, v2, v3, v4, v5⟩ := hI.2.2.1 r hr
  have hr12 : r < 12 := by have := hI.1.1; omega
  unfold coverS at h0 ⊢
  by_cases h8 : rq R i 8 = 1
  · rw [if_pos h8] at h0
    exact absurd h0 (nz_fst (by decide))
  · rw [if_neg h8] at h0 ⊢
    by_cases ha : R 8 = 1 ∧ acr (rq R i) y = true
    · rw [if_pos ha] at h0
      exact absurd h0 (nz_fst (by decide))
    · rw [if_neg ha] at h0 ⊢
      by_cases hc : (coverL r (ro R r 1) i (SL (rq R i) y (ro R r 1)) 0 R).1 = 0
      · rw [if_pos hc] at h0 ⊢
        have hlen : 0 + (SL (rq R i) y (ro R r 1)).length ≤ 36 := by rw [SL_len]; have := stripsN_le k1 hy v2.1; omega
        obtain ⟨a1, a2, a3, a4⟩ := coverL_ok hr12 v2.2 (SL (rq R i) y (ro R r 1)) 0 R hI.off hr hlen (fun p hp => by
          have := SLf_ok k1 hy v2.1 (rq R i 0) 0 (by omega) p hp
          omega) hc
        obtain ⟨f0, f1, f2, f3, f4, f5⟩ := finS_at (coverL r (ro R r 1) i (SL (rq R i) y (ro R r 1)) 0 R).2 i r y (priceS R i r y)
        refine ⟨h8, ?_, ?_, ?_, ?_⟩
        · rw [rq_w (by omega)]
          exact f1
        · rw [rq_w (by omega)]
          exact f2
        · exact (f0 0 (by omega) (by omega) (by omega) (by omega) (by omega)).trans a3
        · exact (f0 2 (by omega) (by omega) (by omega) (by omega) (by omega)).trans (a2 2 (by omega) (by omega) (by omega) (by omega) (by omega))
      · rw [if_neg hc] at h0
        exact absurd h0 hc
theorem liftS_told {R : RS} (hI : Inv R) {i r : Nat} (hi : i < R 2) (h8 : rq R i 8 = 1) (h9 : rq R i 9 = r) : (liftS R i).2 ≤ stripsN (rq R i) (rq R i 10) (ro R (rq R i 9) 1) ∧ ((liftS R i).2 = stripsN (rq R i) (rq R i 10) (ro R (rq R i 9) 1) ↔ ro (liftS R i).1 r 5 = ro R r 5) ∧ (liftS R i).1 1 = R 1 + (liftS R i).2 ∧ rq (liftS R i).1 i 8 = 0 ∧ (liftS R i).1 0 = R 0 ∧ (liftS R i).1 2 = R 2 ∧ ((liftS R i).2 ≠ 0 → oc (liftS R i).1 (R 1) 0 = r + 1 ∧ oc (liftS R i).1 (R 1) 1 = sw (SL (rq R i) (rq R i 10) (ro R (rq R i 9) 1)) 0 ∧ oc (liftS R i).1 (R 1) 2 = sl (SL (rq R i) (rq R i 10) (ro R (rq R i 9) 1)) 0) ∧ (1 ≤ stripsN (rq R i) (rq R i 10) (ro R (rq R i 9) 1) ∧ stripsN (rq R i) (rq R i 10) (ro R (rq R i 9) 1) ≤ 36) := by
  obtain ⟨k1, k2, k3⟩ := hI.2.2.2.2.1 i hi
  obtain ⟨k4, k5⟩ := k3 h8
  obtain ⟨v1, v2, v3, v4, v5⟩ := hI.2.2.1 _ k4
  have hr12 : rq R i 9 < 12 := by have := hI.1.1; omega
  have hi20 : i < 20 := by have := hI.1.2.2; omega
  have h300 := hI.1.2.1
  have hS := fun p hp => (SL_pos k1 k5 v2.1 p hp).1
  obtain ⟨a1, a2, a3, a4, a5, a6⟩ := liftL_bA hr12 (SL (rq R i) (rq R i 10) (ro R (rq R i 9) 1)) R 0 h300 hS
  obtain ⟨b1, b2⟩ := liftL_ok hr12 (SL (rq R i) (rq R i 10) (ro R (rq R i 9) 1)) R 0 hI.off k4 (fun p hp => by
    have := SLf_ok k1 k5 v2.1 (rq R i 0) 0 (by omega) p hp
    omega)
  have hge := strips_ge k1 k5 v2.1
  have h36 := stripsN_le k1 k5 v2.1
  have hlen := SL_len (rq R i) (rq R i 10) (ro R (rq R i 9) 1)
  have hq0 := k1.1.1
  have hfirst : (liftL (rq R i 9) (SL (rq R i) (rq R i 10) (ro R (rq R i 9) 1)) R 0).2 ≠ 0 → oc (liftL (rq R i 9) (SL (rq R i) (rq R i 10) (ro R (rq R i 9) 1)) R 0).1 (R 1) 0 = rq R i 9 + 1 ∧ oc (liftL (rq R i 9) (SL (rq R i) (rq R i 10) (ro R (rq R i 9) 1)) R 0).1 (R 1) 1 = sw (SL (rq R i) (rq R i 10) (ro R (rq R i 9) 1)) 0 ∧ oc (liftL (rq R i 9) (SL (rq R i) (rq R i 10) (ro R (rq R i 9) 1)) R 0).1 (R 1) 2 = sl (SL (rq R i) (rq R i 10) (ro R (rq R i 9) 1)) 0 := by
    cases hSS : SL (rq R i) (rq R i 10) (ro R (rq R i 9) 1) with
    | nil =>
      rw [hSS, List.length_nil] at hlen
      omega
    | cons p ps =>
      rw [hSS] at hS
      exact fun hn => liftL_first hr12 h300 hS hn
  rw [hlen] at a3 a4
  unfold liftS
  dsimp only
  generalize hL2 : liftL (rq R i 9) (SL (rq R i) (rq R i 10) (ro R (rq R i 9) 1)) R 0 = LL at a1 a2 a3 a4 a6 b1 b2 hfirst ⊢
  have e : ∀ j, j ≠ 993 + 12 * i + 8 → bareR LL.1 i j = LL.1 j := fun j h => un_ne _ _ h
  have hl1 := a1.2
  have hk1 := a1.1
  subst h9
  refine ⟨by omega, ?_, ?_, ?_, (e 0 (by omega)).trans (b2 0 (by omega) (by omega) (by omega)), (e 2 (by omega)).trans (b2 2 (by omega) (by omega) (by omega)), fun hn => ?_, by omega, h36⟩
  · rw [show ro (bareR LL.1 i) (rq R i 9) 5 = ro LL.1 (rq R i 9) 5 from e _ (by omega), ← a4.2]
    omega
  · rw [e 1 (by omega)]
    omega
  · rw [rq_w (by omega)]
    exact un_at _ _ _
  · obtain ⟨f1, f2, f3⟩ := hfirst hn
    have eo : ∀ x, x < 3 → oc (bareR LL.1 i) (R 1) x = oc LL.1 (R 1) x := fun x hx => e _ (by omega)
    exact ⟨(eo 0 (by omega)).trans f1, (eo 1 (by omega)).trans f2, (eo 2 (by omega)).trans f3⟩
-- the history behind an act
theorem push1 (H : List RS) (R : RS) (h4 : H.length ≤ 4) : ∃ P, (∀ a ∈ P, a ∈ H) ∧ P.length ≤ 3 ∧ (H.length < 4 → P.length = H.length) ∧ (H.length = 4 → P.length = 3) ∧ pushH H R = P ++ [R] := by
  unfold pushH
  by_cases h : H.length < 4
  · rw [if_pos h]
    exact ⟨H, fun a ha => ha, by omega, fun _ => rfl, fun z => by omega, rfl⟩
  · rw [if_neg h]
    have hl : H.tail.length = H.length - 1 := List.length_tail
    exact ⟨H.tail, fun a ha => List.mem_of_mem_tail ha, by omega, fun z => by omega, fun z => by omega, rfl⟩
theorem push2 (H : List RS) (R R1 : RS) (h4 : H.length ≤ 4) : ∃ P, (∀ a ∈ P, a ∈ H) ∧ pushH (pushH H R) R1 = (P ++ [R]) ++ [R1] := by
  obtain ⟨P, p1, p2, p3, p4, p5⟩ := push1 H R h4
  rw [p5]
  unfold pushH
  by_cases h : (P ++ [R]).length < 4
  · rw [if_pos h]
    exact ⟨P, p1, rfl⟩
  · rw [if_neg h]
    cases P with
    | nil => exact absurd (by simp) h
    | cons q P =>
      exact ⟨P, fun a ha => p1 a (List.mem_cons_of_mem _ ha), rfl⟩
section
variable {l : Launch} {g : XG} {sh : Nat → Sh} {mem : Mem} {κ : Nat} {G : GS}
theorem ct_Cc_undoA (hL : LayCc sh κ) (hC : CR mem κ G) {P : List RS} {R : RS} (hG : G.2.1 = P ++ [R]) : Ct l g M_Cc_undo [rf g κ] none sh mem (Ri none sh (CP κ mem (nI P.length, (R, P, G.2.2.1, G.2.2.2)))) := by
  have h := ct_Cc_undo (l := l) (g := g) hL hC
  have e : spUndo G = (nI P.length, (R, P, G.2.2.1, G.2.2.2)) := by
    unfold spUndo
    rw [hG, List.getLast?_concat, List.dropLast_concat, List.length_append, List.length_singleton, Nat.add_sub_cancel]
  rw [e] at h
  exact h
theorem ct_Cc_coverA (hL : LayCc sh κ) (hC : CR mem κ G) {i r y : Nat} (hi : i < G.1 2) (hr : r < G.1 0) (hy : y ≤ 1) : Ct l g M_Cc_cover [rf g κ, .int (nI i), .int (nI r), .int (nI y)] none sh mem (Ri none sh (CP κ mem (if (coverS G.1 i r y).1 = 0 then (nI (priceS G.1 i r y), actG G (coverS G.1 i r y).2) else (errI (coverS G.1 i r y).1, G)))) := by
  have h := ct_Cc_cover (l := l) (g := g) hL hC (i := nI i) (r := nI r) (y := nI y)
  have h12 := hC.1.1.1
  have h20 := hC.1.1.2.2
  have e : spCover G (nI i) (nI r) (nI y) = if (coverS G.1 i r y).1 = 0 then (nI (priceS G.1 i r y), actG G (coverS G.1 i r y).2) else (errI (coverS G.1 i r y).1, G) := by
    unfold spCover
    rw [if_pos ⟨hasI_nI (by omega) hi, hasI_nI (by omega) hr⟩, if_pos ⟨nI_pos' (by omega), nI_le hy (by omega)⟩, tN_nI (by omega), tN_nI (by omega), tN_nI (by omega)]
  rw [e] at h
  exact h
theorem ct_Cc_takeUpA (hL : LayCc sh κ) (hC : CR mem κ G) {i : Nat} (hi : i < G.1 2) (h8 : rq G.1 i 8 = 1) : Ct l g M_Cc_takeUp [rf g κ, .int (nI i)] none sh mem (Ri none sh (CP κ mem (nI (liftS G.1 i).2, actG G (liftS G.1 i).1))) := by
  have h := ct_Cc_takeUp (l := l) (g := g) hL hC (i := nI i)
  have h20 := hC.1.1.2.2
  have e : spTakeUp G (nI i) = (nI (liftS G.1 i).2, actG G (liftS G.1 i).1) := by
    unfold spTakeUp
    rw [if_pos (hasI_nI (by omega) hi), tN_nI (by omega), if_pos h8]
  rw [e] at h
  exact h
theorem waste_le {R : RS} (hI : Inv R) (hJ : JJ R) {r : Nat} (hr : r < R 0) : ro R r 5 ≤ 59940 := by
  have h1 : ro R r 1 * ro R r 4 = ro R r 1 * ro R r 2 + akN R r + ro R r 5 + ro R r 6 + laidN R r := hJ.1 r hr
  obtain ⟨v1, v2, v3, v4, v5, v6⟩ := hI.2.2.1 r hr
  have hp1 : ro R r 1 * ro R r 4 ≤ 60 * 999 := mul_b v2.2 v6
  omega
set_option maxHeartbeats 4000000 in
theorem ct_La_again (hL : LayCc sh κ) (hC : CR mem κ G) (hJ : JJ G.1) {i r y : Nat} (hi : i < G.1 2) (hr : r < G.1 0) (hy : y ≤ 1) : Ct l g M_La_again [rf g κ, .int (nI i), .int (nI r), .int (nI y)] none sh mem (Ri none sh (fun v m => v = nI 1 ∧ ∃ H', (∀ a ∈ H', a ∈ G.2.1) ∧ CI κ mem (G.1, H', G.2.2.1, G.2.2.2) m)) := by
  have hC0 : CI κ mem G mem := ⟨hC, Fr.rf⟩
  have hI := hC.1
  have h12 := hI.1.1
  have h300 := hI.1.2.1
  have h20 := hI.1.2.2
  have h4 : G.2.1.length ≤ 4 := hC.2.2.1.1
  by_cases hc : (coverS G.1 i r y).1 = 0
  · have hcov : ∀ {m}, (h : CR m κ G) → Ct l g M_Cc_cover [rf g κ, .int (nI i), .int (nI r), .int (nI y)] none sh m (Ri none sh (CP κ m (nI (priceS G.1 i r y), ((coverS G.1 i r y).2, pushH G.2.1 G.1, G.2.2.1, G.2.2.2)))) := fun {m} h => by
      have z := ct_Cc_coverA (l := l) (g := g) hL h hi hr hy
      rw [if_pos hc] at z
      exact z
    obtain ⟨u0, u1, u2, u3, u4⟩ := coverS_fin hI hi hr hy hc
    have u80 : rq G.1 i 8 = 0 := by
      have := (hI.2.2.2.2.1 i hi).2.1
      omega
    have hI1 := coverS_inv hI hi hr hy hc
    have hJ1 := coverS_JJ hI hJ hi hr hy hc
    have hp := priceS_lt hI hi hr hy
    generalize (coverS G.1 i r y).2 = R1 at hcov u1 u2 u3 u4 hI1 hJ1
    have hi1 : i < R1 2 := by omega
    have hr1 : r < R1 0 := by omega
    obtain ⟨P, hP, hPP⟩ := push2 G.2.1 G.1 R1 h4
    have hlift : ∀ {m}, (h : CR m κ (R1, pushH G.2.1 G.1, G.2.2.1, G.2.2.2)) → Ct l g M_Cc_takeUp [rf g κ, .int (nI i)] none sh m (Ri none sh (CP κ m (nI (liftS R1 i).2, ((liftS R1 i).1, (P ++ [G.1]) ++ [R1], G.2.2.1, G.2.2.2)))) := fun {m} h => by
      rw [← hPP]
      exact ct_Cc_takeUpA hL h hi1 u1
    obtain ⟨t1, t2, t3, t4, t5, t6, t7, t8⟩ := liftS_told hI1 hi1 u1 u2
    have hI2 := liftS_inv hI1 hi1 u1
    have hJ2 := liftS_JJ hI1 hJ1 hi1 u1
    have s6 := vm_6 hI1.1.2.2 hi1 u1
    have s0 : vStrip R1 (nI i) (nI 0) (nI 0) = nI (sw (SL (rq R1 i) (rq R1 i 10) (ro R1 (rq R1 i 9) 1)) 0) := vs_at hI1.1.2.2 hi1 u1 (by omega) t8.2 (by omega)
    have s1 : vStrip R1 (nI i) (nI 0) (nI 1) = nI (sl (SL (rq R1 i) (rq R1 i 10) (ro R1 (rq R1 i 9) 1)) 0) := vs_at hI1.1.2.2 hi1 u1 (by omega) t8.2 (by omega)
    generalize (liftS R1 i).1 = R2 at hlift t2 t3 t4 t5 t6 t7 hI2 hJ2
    generalize (liftS R1 i).2 = cm at hlift t1 t2 t3 t7
    generalize hSt : stripsN (rq R1 i) (rq R1 i 10) (ro R1 (rq R1 i 9) 1) = St at t1 t2 t8 s6
    generalize hSS : SL (rq R1 i) (rq R1 i 10) (ro R1 (rq R1 i 9) 1) = SS at t7 s0 s1
    have hr2 : r < R2 0 := by omega
    have hi2 : i < R2 2 := by omega
    have w1 := vr_7 (R := R1) hI1.1.1 hr1
    have w2 := vr_7 (R := R2) hI2.1.1 hr2
    have q3 := vm_3 (R := R2) hI2.1.2.2 hi2
    rw [t4] at q3
    have b1 := waste_le hI1 hJ1 hr1
    have b2 := waste_le hI2 hJ2 hr2
    have hl1 := hI1.1.2.1
    have hl2 := hI2.1.2.1
    have hoff : cm ≠ 0 → vOffcut R2 (nI (R1 1)) (nI 1) = nI (sw SS 0) ∧ vOffcut R2 (nI (R1 1)) (nI 2) = nI (sl SS 0) ∧ vOffcut R2 (nI (R1 1)) (nI 0) = nI r := fun hn => by
      obtain ⟨f1, f2, f3⟩ := t7 hn
      have hk : R1 1 < R2 1 := by omega
      have hkp : kp R2 (R1 1) = true := by
        unfold kp
        exact decide_eq_true (by omega)
      rw [vOffcut_at hl2 hk hkp (by omega), vOffcut_at hl2 hk hkp (by omega), vOffcut_at hl2 hk hkp (by omega)]
      unfold offN
      rw [if_neg (by omega), if_neg (by omega), if_pos rfl, f1, f2, f3]
      exact ⟨rfl, rfl, rfl⟩
    refine x_begin rfl rfl rfl (by decide) rfl ?_
    refine x_aload_n d_La_again_0 rfl ?_
    refine x_iconst (v := nI 4) d_La_again_1 (by decide) ?_
    refine x_v1i d_La_again_2 ml_La_9 v_Cc_count rfl ⟨rfl, rfl⟩ hL.io (Nat.le_of_ble_eq_true rfl) (ct_Cc_count hL hC0.1) (fun r2 mem2 h2 => ?_)
    obtain ⟨rfl, hC2⟩ := CI.st hC0 h2
    rw [vc_4]
    refine x_istore d_La_again_5 (by decide) ?_
    refine x_aload_n d_La_again_7 rfl ?_
    refine x_iload_n d_La_again_8 rfl ?_
    refine x_iload_n d_La_again_9 rfl ?_
    refine x_iload_n d_La_again_10 rfl ?_
    refine x_v3i d_La_again_11 ml_La_58 v_Cc_cover rfl ⟨rfl, rfl⟩ hL.io (Nat.le_of_ble_eq_true rfl) (hcov hC2.1) (fun r11 mem11 h11 => ?_)
    obtain ⟨rfl, hC11⟩ := CI.st hC2 h11
    refine x_istore d_La_again_14 (by decide) ?_
    refine x_iload d_La_again_16 rfl ?_
    refine x_if_ge (tgt := 23) d_La_again_18 (by decide) (fun c18 => ?_) (fun c18 => ?_)
    · refine x_aload_n d_La_again_23 rfl ?_
      refine x_iload_n d_La_again_24 rfl ?_
      refine x_bipush (v := nI 6) d_La_again_25 (by decide) ?_
      refine x_v2i d_La_again_27 ml_La_19 v_Cc_room rfl ⟨rfl, rfl⟩ hL.io (Nat.le_of_ble_eq_true rfl) (ct_Cc_room hL hC11.1) (fun r27 mem27 h27 => ?_)
      obtain ⟨rfl, hC27⟩ := CI.st hC11 h27
      rw [s6]
      refine x_istore d_La_again_30 (by decide) ?_
      refine x_aload_n d_La_again_32 rfl ?_
      refine x_iconst (v := nI 4) d_La_again_33 (by decide) ?_
      refine x_v1i d_La_again_34 ml_La_9 v_Cc_count rfl ⟨rfl, rfl⟩ hL.io (Nat.le_of_ble_eq_true rfl) (ct_Cc_count hL hC27.1) (fun r34 mem34 h34 => ?_)
      obtain ⟨rfl, hC34⟩ := CI.st hC27 h34
      rw [vc_4]
      refine x_istore d_La_again_37 (by decide) ?_
      refine x_aload_n d_La_again_39 rfl ?_
      refine x_iload_n d_La_again_40 rfl ?_
      refine x_bipush (v := nI 7) d_La_again_41 (by decide) ?_
      refine x_v2i d_La_again_43 ml_La_15 v_Cc_rollOf rfl ⟨rfl, rfl⟩ hL.io (Nat.le_of_ble_eq_true rfl) (ct_Cc_rollOf hL hC34.1) (fun r43 mem43 h43 => ?_)
      obtain ⟨rfl, hC43⟩ := CI.st hC34 h43
      rw [w1]
      refine x_istore d_La_again_46 (by decide) ?_
      refine x_aload_n d_La_again_48 rfl ?_
      refine x_iload_n d_La_again_49 rfl ?_
      refine x_iconst (v := nI 0) d_La_again_50 (by decide) ?_
      refine x_iconst (v := nI 0) d_La_again_51 (by decide) ?_
      refine x_v3i d_La_again_52 ml_La_26 v_Cc_strip rfl ⟨rfl, rfl⟩ hL.io (Nat.le_of_ble_eq_true rfl) (ct_Cc_strip hL hC43.1) (fun r52 mem52 h52 => ?_)
      obtain ⟨rfl, hC52⟩ := CI.st hC43 h52
      rw [s0]
      refine x_istore d_La_again_55 (by decide) ?_
      refine x_aload_n d_La_again_57 rfl ?_
      refine x_iload_n d_La_again_58 rfl ?_
      refine x_iconst (v := nI 0) d_La_again_59 (by decide) ?_
      refine x_iconst (v := nI 1) d_La_again_60 (by decide) ?_
      refine x_v3i d_La_again_61 ml_La_26 v_Cc_strip rfl ⟨rfl, rfl⟩ hL.io (Nat.le_of_ble_eq_true rfl) (ct_Cc_strip hL hC52.1) (fun r61 mem61 h61 => ?_)
      obtain ⟨rfl, hC61⟩ := CI.st hC52 h61
      rw [s1]
      refine x_istore d_La_again_64 (by decide) ?_
      refine x_aload_n d_La_again_66 rfl ?_
      refine x_iload_n d_La_again_67 rfl ?_
      refine x_v1i d_La_again_68 ml_La_61 v_Cc_takeUp rfl ⟨rfl, rfl⟩ hL.io (Nat.le_of_ble_eq_true rfl) (hlift hC61.1) (fun r68 mem68 h68 => ?_)
      obtain ⟨rfl, hC68⟩ := CI.st hC61 h68
      refine x_istore d_La_again_71 (by decide) ?_
      have tail2 : ∀ m, CI κ mem (R2, (P ++ [G.1]) ++ [R1], G.2.2.1, G.2.2.2) m → X l g M_La_again (XF g (Ri none sh (fun v m => v = nI 1 ∧ ∃ H', (∀ a ∈ H', a ∈ G.2.1) ∧ CI κ mem (G.1, H', G.2.2.1, G.2.2.2) m)) M_La_again) 188 [some (rf g κ), some (.int (nI i)), some (.int (nI r)), some (.int (nI y)), some (.int (nI (G.1 1))), some (.int (nI (priceS G.1 i r y))), some (.int (nI St)), some (.int (nI (R1 1))), some (.int (nI (ro R1 r 5))), some (.int (nI (sw SS 0))), some (.int (nI (sl SS 0))), some (.int (nI cm)), some (.int (nI 1))] [.int (nI 1), .int (nI 1)] none sh m 0 0 := by
        intro m hCt
        refine x_iand d_La_again_188 ?_
        rw [show nI 1 &&& nI 1 = nI 1 by decide]
        refine x_istore d_La_again_189 (by decide) ?_
        refine x_aload_n d_La_again_191 rfl ?_
        refine x_v0i d_La_again_192 ml_La_76 v_Cc_undo rfl ⟨rfl, rfl⟩ hL.io (Nat.le_of_ble_eq_true rfl) (ct_Cc_undoA hL hCt.1 rfl) (fun r192 mem192 h192 => ?_)
        obtain ⟨rfl, hC192⟩ := CI.st hCt h192
        refine x_pop d_La_again_195 rfl ?_
        refine x_aload_n d_La_again_196 rfl ?_
        refine x_v0i d_La_again_197 ml_La_76 v_Cc_undo rfl ⟨rfl, rfl⟩ hL.io (Nat.le_of_ble_eq_true rfl) (ct_Cc_undoA hL hC192.1 rfl) (fun r197 mem197 h197 => ?_)
        obtain ⟨rfl, hC197⟩ := CI.st hC192 h197
        refine x_pop d_La_again_200 rfl ?_
        refine x_iload d_La_again_201 rfl ?_
        refine x_if_eq (tgt := 229) d_La_again_203 (by decide) (fun c203 => ?_) (fun c203 => ?_)
        · exact absurd c203 (by decide)
        · refine x_aload_n d_La_again_206 rfl ?_
          refine x_iconst (v := nI 4) d_La_again_207 (by decide) ?_
          refine x_v1i d_La_again_208 ml_La_9 v_Cc_count rfl ⟨rfl, rfl⟩ hL.io (Nat.le_of_ble_eq_true rfl) (ct_Cc_count hL hC197.1) (fun r208 mem208 h208 => ?_)
          obtain ⟨rfl, hC208⟩ := CI.st hC197 h208
          rw [vc_4]
          refine x_iload d_La_again_211 rfl ?_
          refine x_icmp_ne (tgt := 229) d_La_again_213 (by decide) (fun c213 => ?_) (fun c213 => ?_)
          · exact absurd rfl c213
          · refine x_aload_n d_La_again_216 rfl ?_
            refine x_iload_n d_La_again_217 rfl ?_
            refine x_iconst (v := nI 3) d_La_again_218 (by decide) ?_
            refine x_v2i d_La_again_219 ml_La_19 v_Cc_room rfl ⟨rfl, rfl⟩ hL.io (Nat.le_of_ble_eq_true rfl) (ct_Cc_room hL hC208.1) (fun r219 mem219 h219 => ?_)
            obtain ⟨rfl, hC219⟩ := CI.st hC208 h219
            rw [vm_3 h20 hi, u80]
            refine x_if_ne (tgt := 229) d_La_again_222 (by decide) (fun c222 => ?_) (fun c222 => ?_)
            · exact absurd rfl c222
            · refine x_iconst (v := nI 1) d_La_again_225 (by decide) ?_
              refine x_goto (tgt := 230) d_La_again_226 (by decide) ?_
              refine x_iret rfl (by decide) d_La_again_230 (Nat.zero_le _) (Nat.zero_le _) ?_
              exact ⟨_, rfl, rfl, rfl, rfl, P, hP, hC219⟩
      have tail : ∀ m, CI κ mem (R2, (P ++ [G.1]) ++ [R1], G.2.2.1, G.2.2.2) m → X l g M_La_again (XF g (Ri none sh (fun v m => v = nI 1 ∧ ∃ H', (∀ a ∈ H', a ∈ G.2.1) ∧ CI κ mem (G.1, H', G.2.2.1, G.2.2.2) m)) M_La_again) 112 [some (rf g κ), some (.int (nI i)), some (.int (nI r)), some (.int (nI y)), some (.int (nI (G.1 1))), some (.int (nI (priceS G.1 i r y))), some (.int (nI St)), some (.int (nI (R1 1))), some (.int (nI (ro R1 r 5))), some (.int (nI (sw SS 0))), some (.int (nI (sl SS 0))), some (.int (nI cm)), none] [] none sh m 0 0 := by
        intro m hCt
        refine x_aload_n d_La_again_112 rfl ?_
        refine x_iconst (v := nI 4) d_La_again_113 (by decide) ?_
        refine x_v1i d_La_again_114 ml_La_9 v_Cc_count rfl ⟨rfl, rfl⟩ hL.io (Nat.le_of_ble_eq_true rfl) (ct_Cc_count hL hCt.1) (fun r114 mem114 h114 => ?_)
        obtain ⟨rfl, hC114⟩ := CI.st hCt h114
        rw [vc_4]
        refine x_iload d_La_again_117 rfl ?_
        refine x_iload d_La_again_119 rfl ?_
        refine x_iadd d_La_again_121 ?_
        rw [nI_add]
        refine x_icmp_ne (tgt := 138) d_La_again_122 (by decide) (fun c122 => ?_) (fun c122 => ?_)
        · exact absurd (congrArg nI t3) c122
        · refine x_aload_n d_La_again_125 rfl ?_
          refine x_iload_n d_La_again_126 rfl ?_
          refine x_iconst (v := nI 3) d_La_again_127 (by decide) ?_
          refine x_v2i d_La_again_128 ml_La_19 v_Cc_room rfl ⟨rfl, rfl⟩ hL.io (Nat.le_of_ble_eq_true rfl) (ct_Cc_room hL hC114.1) (fun r128 mem128 h128 => ?_)
          obtain ⟨rfl, hC128⟩ := CI.st hC114 h128
          rw [q3]
          refine x_if_ne (tgt := 138) d_La_again_131 (by decide) (fun c131 => ?_) (fun c131 => ?_)
          · exact absurd rfl c131
          · refine x_iconst (v := nI 1) d_La_again_134 (by decide) ?_
            refine x_goto (tgt := 139) d_La_again_135 (by decide) ?_
            refine x_istore d_La_again_139 (by decide) ?_
            refine x_iload d_La_again_141 rfl ?_
            refine x_iload d_La_again_143 rfl ?_
            refine x_if_eq (tgt := 183) d_La_again_145 (by decide) (fun c145 => ?_) (fun c145 => ?_)
            · refine x_iconst (v := nI 1) d_La_again_183 (by decide) ?_
              refine x_goto (tgt := 188) d_La_again_184 (by decide) ?_
              exact tail2 _ hC128
            · have hcm : cm ≠ 0 := fun z => c145 (by rw [z]; rfl)
              obtain ⟨z1, z2, z0⟩ := hoff hcm
              refine x_aload_n d_La_again_148 rfl ?_
              refine x_iload d_La_again_149 rfl ?_
              refine x_iconst (v := nI 1) d_La_again_151 (by decide) ?_
              refine x_v2i d_La_again_152 ml_La_73 v_Cc_offcut rfl ⟨rfl, rfl⟩ hL.io (Nat.le_of_ble_eq_true rfl) (ct_Cc_offcut hL hC128.1) (fun r152 mem152 h152 => ?_)
              obtain ⟨rfl, hC152⟩ := CI.st hC128 h152
              rw [z1]
              refine x_iload d_La_again_155 rfl ?_
              refine x_icmp_ne (tgt := 187) d_La_again_157 (by decide) (fun c157 => ?_) (fun c157 => ?_)
              · exact absurd rfl c157
              · refine x_aload_n d_La_again_160 rfl ?_
                refine x_iload d_La_again_161 rfl ?_
                refine x_iconst (v := nI 2) d_La_again_163 (by decide) ?_
                refine x_v2i d_La_again_164 ml_La_73 v_Cc_offcut rfl ⟨rfl, rfl⟩ hL.io (Nat.le_of_ble_eq_true rfl) (ct_Cc_offcut hL hC152.1) (fun r164 mem164 h164 => ?_)
                obtain ⟨rfl, hC164⟩ := CI.st hC152 h164
                rw [z2]
                refine x_iload d_La_again_167 rfl ?_
                refine x_icmp_ne (tgt := 187) d_La_again_169 (by decide) (fun c169 => ?_) (fun c169 => ?_)
                · exact absurd rfl c169
                · refine x_aload_n d_La_again_172 rfl ?_
                  refine x_iload d_La_again_173 rfl ?_
                  refine x_iconst (v := nI 0) d_La_again_175 (by decide) ?_
                  refine x_v2i d_La_again_176 ml_La_73 v_Cc_offcut rfl ⟨rfl, rfl⟩ hL.io (Nat.le_of_ble_eq_true rfl) (ct_Cc_offcut hL hC164.1) (fun r176 mem176 h176 => ?_)
                  obtain ⟨rfl, hC176⟩ := CI.st hC164 h176
                  rw [z0]
                  refine x_iload_n d_La_again_179 rfl ?_
                  refine x_icmp_ne (tgt := 187) d_La_again_180 (by decide) (fun c180 => ?_) (fun c180 => ?_)
                  · exact absurd rfl c180
                  · refine x_iconst (v := nI 1) d_La_again_183 (by decide) ?_
                    refine x_goto (tgt := 188) d_La_again_184 (by decide) ?_
                    exact tail2 _ hC176
      refine x_iload d_La_again_73 rfl ?_
      refine x_iload d_La_again_75 rfl ?_
      refine x_icmp_gt (tgt := 138) d_La_again_77 (by decide) (fun c77 => ?_) (fun c77 => ?_)
      · exact absurd (nI_lt' (by omega) (by omega) c77) (by omega)
      · refine x_iload d_La_again_80 rfl ?_
        refine x_iload d_La_again_82 rfl ?_
        refine x_icmp_ne (tgt := 91) d_La_again_84 (by decide) (fun c84 => ?_) (fun c84 => ?_)
        · have d84 : ¬ cm = St := nI_ne' c84
          refine x_iconst (v := nI 0) d_La_again_91 (by decide) ?_
          refine x_aload_n d_La_again_92 rfl ?_
          refine x_iload_n d_La_again_93 rfl ?_
          refine x_bipush (v := nI 7) d_La_again_94 (by decide) ?_
          refine x_v2i d_La_again_96 ml_La_15 v_Cc_rollOf rfl ⟨rfl, rfl⟩ hL.io (Nat.le_of_ble_eq_true rfl) (ct_Cc_rollOf hL hC68.1) (fun r96 mem96 h96 => ?_)
          obtain ⟨rfl, hC96⟩ := CI.st hC68 h96
          rw [w2]
          refine x_iload d_La_again_99 rfl ?_
          refine x_icmp_ne (tgt := 108) d_La_again_101 (by decide) (fun c101 => ?_) (fun c101 => ?_)
          · refine x_iconst (v := nI 0) d_La_again_108 (by decide) ?_
            refine x_icmp_ne (tgt := 138) d_La_again_109 (by decide) (fun c109 => ?_) (fun c109 => ?_)
            · exact absurd rfl c109
            · exact tail _ hC96
          · exact absurd (t2.mpr (nI_eq' (by omega) (by omega) c101)) d84
        · have d84 : cm = St := nI_eq' (by omega) (by omega) c84
          refine x_iconst (v := nI 1) d_La_again_87 (by decide) ?_
          refine x_goto (tgt := 92) d_La_again_88 (by decide) ?_
          refine x_aload_n d_La_again_92 rfl ?_
          refine x_iload_n d_La_again_93 rfl ?_
          refine x_bipush (v := nI 7) d_La_again_94 (by decide) ?_
          refine x_v2i d_La_again_96 ml_La_15 v_Cc_rollOf rfl ⟨rfl, rfl⟩ hL.io (Nat.le_of_ble_eq_true rfl) (ct_Cc_rollOf hL hC68.1) (fun r96 mem96 h96 => ?_)
          obtain ⟨rfl, hC96⟩ := CI.st hC68 h96
          rw [w2]
          refine x_iload d_La_again_99 rfl ?_
          refine x_icmp_ne (tgt := 108) d_La_again_101 (by decide) (fun c101 => ?_) (fun c101 => ?_)
          · exact absurd (congrArg nI (t2.mp d84)) c101
          · refine x_iconst (v := nI 1) d_La_again_104 (by decide) ?_
            refine x_goto (tgt := 109) d_La_again_105 (by decide) ?_
            refine x_icmp_ne (tgt := 138) d_La_again_109 (by decide) (fun c109 => ?_) (fun c109 => ?_)
            · exact absurd rfl c109
            · exact tail _ hC96
    · exact absurd (nI_pos' (by omega)) c18
  · have hcov : ∀ {m}, (h : CR m κ G) → Ct l g M_Cc_cover [rf g κ, .int (nI i), .int (nI r), .int (nI y)] none sh m (Ri none sh (CP κ m (errI (coverS G.1 i r y).1, G))) := fun {m} h => by
      have z := ct_Cc_coverA (l := l) (g := g) hL h hi hr hy
      rw [if_neg hc] at z
      exact z
    refine x_begin rfl rfl rfl (by decide) rfl ?_
    refine x_aload_n d_La_again_0 rfl ?_
    refine x_iconst (v := nI 4) d_La_again_1 (by decide) ?_
    refine x_v1i d_La_again_2 ml_La_9 v_Cc_count rfl ⟨rfl, rfl⟩ hL.io (Nat.le_of_ble_eq_true rfl) (ct_Cc_count hL hC0.1) (fun r2 mem2 h2 => ?_)
    obtain ⟨rfl, hC2⟩ := CI.st hC0 h2
    refine x_istore d_La_again_5 (by decide) ?_
    refine x_aload_n d_La_again_7 rfl ?_
    refine x_iload_n d_La_again_8 rfl ?_
    refine x_iload_n d_La_again_9 rfl ?_
    refine x_iload_n d_La_again_10 rfl ?_
    refine x_v3i d_La_again_11 ml_La_58 v_Cc_cover rfl ⟨rfl, rfl⟩ hL.io (Nat.le_of_ble_eq_true rfl) (hcov hC2.1) (fun r11 mem11 h11 => ?_)
    obtain ⟨rfl, hC11⟩ := CI.st hC2 h11
    refine x_istore d_La_again_14 (by decide) ?_
    refine x_iload d_La_again_16 rfl ?_
    refine x_if_ge (tgt := 23) d_La_again_18 (by decide) (fun c18 => ?_) (fun c18 => ?_)
    · exact absurd (errI_neg _) (i_nlt.mpr c18)
    · refine x_iconst (v := nI 1) d_La_again_21 (by decide) ?_
      refine x_iret rfl (by decide) d_La_again_22 (Nat.zero_le _) (Nat.zero_le _) ?_
      exact ⟨_, rfl, rfl, rfl, rfl, G.2.1, fun a ha => ha, hC11⟩
end
