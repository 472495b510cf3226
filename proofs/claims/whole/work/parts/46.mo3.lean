/-! the reference: a cut; how rooms lie -/
theorem cutS_M {R : RS} {r PW PL w k : Nat} (hr : r < 12) (h2 : R 1 ≤ 300) (h60 : nK R ≤ 60) : cutS R r PW PL w k = ((restM R r (PW - w) (if lngB R PW PL w k then PL else k)).bind (fun R1 => restM R1 r (if lngB R PW PL w k then w else PW) (PL - k))).bind (fun R' => if nK R' ≤ 60 then some R' else none) := by
  unfold cutS
  rw [restS_M hr h2 h60]
  cases h : restM R r (PW - w) (if lngB R PW PL w k then PL else k) with
  | none => rfl
  | some R1 =>
    obtain ⟨a1, a2⟩ := restM_nK hr h2 h
    rw [Option.bind_some, Option.bind_some]
    by_cases h6 : nK R1 ≤ 60
    · rw [if_pos h6, Option.bind_some, restS_M hr a2 h6]
    · rw [if_neg h6]
      cases h3 : restM R1 r (if lngB R PW PL w k then w else PW) (PL - k) with
      | none => rfl
      | some R2 =>
        have := (restM_nK hr a2 h3).1
        rw [Option.bind_some, if_neg (show ¬ nK R2 ≤ 60 by omega)]
        rfl
theorem restM_off {R R' : RS} {r a b : Nat} (h : OffOk R) (hr12 : r < 12) (hr : r < R 0) (ha : a ≤ 60) (hb : b ≤ 60) (hs : restM R r a b = some R') : OffOk R' ∧ R' 0 = R 0 := by
  have h300 := h.1
  unfold restM at hs
  split at hs
  · cases hs
    exact ⟨h.far (by omega) (by omega) (by omega), un_ne _ _ (by omega)⟩
  · split at hs
    · cases hs
    · cases hs
      exact ⟨h.add (by omega) hr ha hb, addR_ne (by omega) (by omega) (by omega)⟩
section
variable {l : Launch} {g : XG} {sh : Nat → Sh} {mem : Mem} {μ : Nat} {R : RS}
theorem ct_Mo_wide (hM : LayMo sh μ) (hn : NowR mem (μ + 1) R) {i k y : Nat} (hi : i < 20) (hk : k < 3) (hy : y ≤ 1) : Ct l g M_Mo_wide [rf g μ, .int (nI i), .int (nI k), .int (nI y)] none sh mem (Pq (.int (nI (wdt (rq R i) k y))) none sh mem) := by
  refine x_begin rfl rfl rfl (by decide) rfl ?_
  refine x_aload_n d_Mo_wide_0 rfl ?_
  refine x_iload_n d_Mo_wide_1 rfl ?_
  refine x_iconst (v := nI 1) d_Mo_wide_2 (by decide) ?_
  refine x_iconst (v := nI 2) d_Mo_wide_3 (by decide) ?_
  refine x_iload_n d_Mo_wide_4 rfl ?_
  refine x_imul d_Mo_wide_5 ?_
  rw [pk_mul]
  refine x_iadd d_Mo_wide_6 ?_
  rw [nI_add]
  refine x_iload_n d_Mo_wide_7 rfl ?_
  refine x_iadd d_Mo_wide_8 ?_
  rw [nI_add]
  refine x_v2p d_Mo_wide_9 ml_Mo_74 v_Mo_at rfl ⟨rfl, rfl⟩ hM.io (Nat.le_of_ble_eq_true rfl) (ct_Mo_at hM hn hi (by omega)) ?_
  refine x_iret rfl rfl d_Mo_wide_12 (Nat.zero_le _) (Nat.zero_le _) ?_
  exact ⟨rfl, rfl, rfl, rfl⟩
theorem ct_Mo_longs (hM : LayMo sh μ) (hn : NowR mem (μ + 1) R) {i k y : Nat} (hi : i < 20) (hk : k < 3) (hy : y ≤ 1) : Ct l g M_Mo_longs [rf g μ, .int (nI i), .int (nI k), .int (nI y)] none sh mem (Pq (.int (nI (lng (rq R i) k y))) none sh mem) := by
  refine x_begin rfl rfl rfl (by decide) rfl ?_
  refine x_aload_n d_Mo_longs_0 rfl ?_
  refine x_iload_n d_Mo_longs_1 rfl ?_
  refine x_iconst (v := nI 2) d_Mo_longs_2 (by decide) ?_
  refine x_iconst (v := nI 2) d_Mo_longs_3 (by decide) ?_
  refine x_iload_n d_Mo_longs_4 rfl ?_
  refine x_imul d_Mo_longs_5 ?_
  rw [pk_mul]
  refine x_iadd d_Mo_longs_6 ?_
  rw [nI_add]
  refine x_iload_n d_Mo_longs_7 rfl ?_
  refine x_isub d_Mo_longs_8 ?_
  rw [pk_sub (by omega)]
  refine x_v2p d_Mo_longs_9 ml_Mo_74 v_Mo_at rfl ⟨rfl, rfl⟩ hM.io (Nat.le_of_ble_eq_true rfl) (ct_Mo_at hM hn hi (by omega)) ?_
  refine x_iret rfl rfl d_Mo_longs_12 (Nat.zero_le _) (Nat.zero_le _) ?_
  exact ⟨rfl, rfl, rfl, rfl⟩
theorem ct_Mo_rounds {w W : Nat} (hw : w ≤ 60) (hW : 5 ≤ W ∧ W ≤ 60) : Ct l g M_Mo_rounds [.int (nI w), .int (nI W)] none sh mem (Pq (.int (nI ((w + W - 1) / W))) none sh mem) := by
  refine x_begin rfl rfl rfl (by decide) rfl ?_
  refine x_iload_n d_Mo_rounds_0 rfl ?_
  refine x_iload_n d_Mo_rounds_1 rfl ?_
  refine x_iadd d_Mo_rounds_2 ?_
  rw [nI_add]
  refine x_iconst (v := nI 1) d_Mo_rounds_3 (by decide) ?_
  refine x_isub d_Mo_rounds_4 ?_
  rw [pk_sub (by omega)]
  refine x_iload_n d_Mo_rounds_5 rfl ?_
  refine x_idiv d_Mo_rounds_6 (nI_ne0 (by omega) (by omega)) ?_
  rw [pk_div (by omega) (by omega) (by omega)]
  refine x_iret rfl rfl d_Mo_rounds_7 (Nat.zero_le _) (Nat.zero_le _) ?_
  exact ⟨rfl, rfl, rfl, rfl⟩
theorem ct_Mo_stripWidth {w W s : Nat} (hw : w ≤ 60) (hW : 5 ≤ W ∧ W ≤ 60) (hs : s * W < w) : Ct l g M_Mo_stripWidth [.int (nI w), .int (nI W), .int (nI s)] none sh mem (Pq (.int (nI (min W (w - s * W)))) none sh mem) := by
  refine x_begin rfl rfl rfl (by decide) rfl ?_
  refine x_iload_n d_Mo_stripWidth_0 rfl ?_
  refine x_iload_n d_Mo_stripWidth_1 rfl ?_
  refine x_iload_n d_Mo_stripWidth_2 rfl ?_
  refine x_imul d_Mo_stripWidth_3 ?_
  rw [pk_mul]
  refine x_isub d_Mo_stripWidth_4 ?_
  rw [pk_sub (by omega)]
  refine x_istore_n d_Mo_stripWidth_5 (by decide) ?_
  refine x_iload_n d_Mo_stripWidth_6 rfl ?_
  refine x_iload_n d_Mo_stripWidth_7 rfl ?_
  refine x_icmp_ge (tgt := 15) d_Mo_stripWidth_8 (by decide) (fun c8 => ?_) (fun c8 => ?_)
  · have c8 := nI_le' (by omega) (by omega) c8
    rw [show min W (w - s * W) = W by omega]
    refine x_iload_n d_Mo_stripWidth_15 rfl ?_
    refine x_iret rfl rfl d_Mo_stripWidth_16 (Nat.zero_le _) (Nat.zero_le _) ?_
    exact ⟨rfl, rfl, rfl, rfl⟩
  · have c8 := nI_nle' (by omega) (by omega) c8
    rw [show min W (w - s * W) = w - s * W by omega]
    refine x_iload_n d_Mo_stripWidth_11 rfl ?_
    refine x_goto (tgt := 16) d_Mo_stripWidth_12 (by decide) ?_
    refine x_iret rfl rfl d_Mo_stripWidth_16 (Nat.zero_le _) (Nat.zero_le _) ?_
    exact ⟨rfl, rfl, rfl, rfl⟩
theorem ct_Mo_isAcross (hM : LayMo sh μ) (hn : NowR mem (μ + 1) R) {i y : Nat} (hi : i < 20) (hG : GeoOk (rq R i)) (hy : y ≤ 1) : Ct l g M_Mo_isAcross [rf g μ, .int (nI i), .int (nI y)] none sh mem (Pq (.int (bI (acr (rq R i) y = true))) none sh mem) := by
  have h7 := hG.1.2.2
  refine x_begin rfl rfl rfl (by decide) rfl ?_
  refine x_aload_n d_Mo_isAcross_0 rfl ?_
  refine x_iload_n d_Mo_isAcross_1 rfl ?_
  refine x_bipush (v := nI 7) d_Mo_isAcross_2 (by decide) ?_
  refine x_v2p d_Mo_isAcross_4 ml_Mo_74 v_Mo_at rfl ⟨rfl, rfl⟩ hM.io (Nat.le_of_ble_eq_true rfl) (ct_Mo_at hM hn hi (by omega)) ?_
  refine x_iconst (v := nI 2) d_Mo_isAcross_7 (by decide) ?_
  refine x_irem d_Mo_isAcross_8 (by decide) ?_
  rw [pk_rem (by omega) (by omega) (by omega)]
  refine x_if_ne (tgt := 16) d_Mo_isAcross_9 (by decide) (fun c9 => ?_) (fun c9 => ?_)
  · have c9 : ¬ rq R i 7 % 2 = 0 := fun z => c9 (by rw [z]; rfl)
    refine x_iconst (v := nI 0) d_Mo_isAcross_16 (by decide) ?_
    refine x_iload_n d_Mo_isAcross_17 rfl ?_
    refine x_iconst (v := nI 1) d_Mo_isAcross_18 (by decide) ?_
    refine x_icmp_ne (tgt := 26) d_Mo_isAcross_19 (by decide) (fun c19 => ?_) (fun c19 => ?_)
    · have c19 := nI_ne' c19
      refine x_iconst (v := nI 0) d_Mo_isAcross_26 (by decide) ?_
      refine x_icmp_ne (tgt := 34) d_Mo_isAcross_27 (by decide) (fun c27 => ?_) (fun c27 => ?_)
      · have hA : acr (rq R i) y = false := by first | exact absurd rfl c27 | (unfold acr; simp [c9, c19])
        rw [bI_f (show ¬ acr (rq R i) y = true by rw [hA]; decide)]
        refine x_iconst (v := nI 0) d_Mo_isAcross_34 (by decide) ?_
        refine x_iret rfl (by decide) d_Mo_isAcross_35 (Nat.zero_le _) (Nat.zero_le _) ?_
        exact ⟨rfl, rfl, rfl, rfl⟩
      · have hA : acr (rq R i) y = true := by first | exact absurd c27 (by decide) | (unfold acr; simp [c9, c19])
        rw [bI_t hA]
        refine x_iconst (v := nI 1) d_Mo_isAcross_30 (by decide) ?_
        refine x_goto (tgt := 35) d_Mo_isAcross_31 (by decide) ?_
        refine x_iret rfl (by decide) d_Mo_isAcross_35 (Nat.zero_le _) (Nat.zero_le _) ?_
        exact ⟨rfl, rfl, rfl, rfl⟩
    · have c19 := nI_eq' (by omega) (by omega) c19
      refine x_iconst (v := nI 1) d_Mo_isAcross_22 (by decide) ?_
      refine x_goto (tgt := 27) d_Mo_isAcross_23 (by decide) ?_
      refine x_icmp_ne (tgt := 34) d_Mo_isAcross_27 (by decide) (fun c27 => ?_) (fun c27 => ?_)
      · have hA : acr (rq R i) y = false := by first | exact absurd rfl c27 | (unfold acr; simp [c9, c19])
        rw [bI_f (show ¬ acr (rq R i) y = true by rw [hA]; decide)]
        refine x_iconst (v := nI 0) d_Mo_isAcross_34 (by decide) ?_
        refine x_iret rfl (by decide) d_Mo_isAcross_35 (Nat.zero_le _) (Nat.zero_le _) ?_
        exact ⟨rfl, rfl, rfl, rfl⟩
      · have hA : acr (rq R i) y = true := by first | exact absurd c27 (by decide) | (unfold acr; simp [c9, c19])
        rw [bI_t hA]
        refine x_iconst (v := nI 1) d_Mo_isAcross_30 (by decide) ?_
        refine x_goto (tgt := 35) d_Mo_isAcross_31 (by decide) ?_
        refine x_iret rfl (by decide) d_Mo_isAcross_35 (Nat.zero_le _) (Nat.zero_le _) ?_
        exact ⟨rfl, rfl, rfl, rfl⟩
  · have c9 := nI_eq' (b := 0) (by omega) (by omega) c9
    refine x_iconst (v := nI 1) d_Mo_isAcross_12 (by decide) ?_
    refine x_goto (tgt := 17) d_Mo_isAcross_13 (by decide) ?_
    refine x_iload_n d_Mo_isAcross_17 rfl ?_
    refine x_iconst (v := nI 1) d_Mo_isAcross_18 (by decide) ?_
    refine x_icmp_ne (tgt := 26) d_Mo_isAcross_19 (by decide) (fun c19 => ?_) (fun c19 => ?_)
    · have c19 := nI_ne' c19
      refine x_iconst (v := nI 0) d_Mo_isAcross_26 (by decide) ?_
      refine x_icmp_ne (tgt := 34) d_Mo_isAcross_27 (by decide) (fun c27 => ?_) (fun c27 => ?_)
      · have hA : acr (rq R i) y = false := by first | exact absurd rfl c27 | (unfold acr; simp [c9, c19])
        rw [bI_f (show ¬ acr (rq R i) y = true by rw [hA]; decide)]
        refine x_iconst (v := nI 0) d_Mo_isAcross_34 (by decide) ?_
        refine x_iret rfl (by decide) d_Mo_isAcross_35 (Nat.zero_le _) (Nat.zero_le _) ?_
        exact ⟨rfl, rfl, rfl, rfl⟩
      · have hA : acr (rq R i) y = true := by first | exact absurd c27 (by decide) | (unfold acr; simp [c9, c19])
        rw [bI_t hA]
        refine x_iconst (v := nI 1) d_Mo_isAcross_30 (by decide) ?_
        refine x_goto (tgt := 35) d_Mo_isAcross_31 (by decide) ?_
        refine x_iret rfl (by decide) d_Mo_isAcross_35 (Nat.zero_le _) (Nat.zero_le _) ?_
        exact ⟨rfl, rfl, rfl, rfl⟩
    · have c19 := nI_eq' (by omega) (by omega) c19
      refine x_iconst (v := nI 1) d_Mo_isAcross_22 (by decide) ?_
      refine x_goto (tgt := 27) d_Mo_isAcross_23 (by decide) ?_
      refine x_icmp_ne (tgt := 34) d_Mo_isAcross_27 (by decide) (fun c27 => ?_) (fun c27 => ?_)
      · have hA : acr (rq R i) y = false := by first | exact absurd rfl c27 | (unfold acr; simp [c9, c19])
        rw [bI_f (show ¬ acr (rq R i) y = true by rw [hA]; decide)]
        refine x_iconst (v := nI 0) d_Mo_isAcross_34 (by decide) ?_
        refine x_iret rfl (by decide) d_Mo_isAcross_35 (Nat.zero_le _) (Nat.zero_le _) ?_
        exact ⟨rfl, rfl, rfl, rfl⟩
      · have hA : acr (rq R i) y = true := by first | exact absurd c27 (by decide) | (unfold acr; simp [c9, c19])
        rw [bI_t hA]
        refine x_iconst (v := nI 1) d_Mo_isAcross_30 (by decide) ?_
        refine x_goto (tgt := 35) d_Mo_isAcross_31 (by decide) ?_
        refine x_iret rfl (by decide) d_Mo_isAcross_35 (Nat.zero_le _) (Nat.zero_le _) ?_
        exact ⟨rfl, rfl, rfl, rfl⟩
theorem ct_Mo_area (hM : LayMo sh μ) (hn : NowR mem (μ + 1) R) {i : Nat} (hi : i < 20) (hG : GeoOk (rq R i)) : Ct l g M_Mo_area [rf g μ, .int (nI i)] none sh mem (Pq (.int (nI (areaN (rq R i)))) none sh mem) := by
  have h3 := hG.1.2.1
  refine x_begin rfl rfl rfl (by decide) rfl ?_
  refine x_iconst (v := nI 0) d_Mo_area_0 (by decide) ?_
  refine x_istore_n d_Mo_area_1 (by decide) ?_
  refine x_iconst (v := nI 0) d_Mo_area_2 (by decide) ?_
  refine x_istore_n d_Mo_area_3 (by decide) ?_
  refine up_ind (rq R i 0) (P := fun k => X l g M_Mo_area (XF g (Pq (.int (nI (areaN (rq R i)))) none sh mem) M_Mo_area) 4 [some (rf g μ), some (.int (nI i)), some (.int (nI (sN (fun k => rq R i (1 + 2 * k) * rq R i (2 + 2 * k)) k))), some (.int (nI k))] [] none sh mem 0 0) (fun k hk ih => ?_) 0 (Nat.zero_le _)
  refine x_iload_n d_Mo_area_4 rfl ?_
  refine x_aload_n d_Mo_area_5 rfl ?_
  refine x_iload_n d_Mo_area_6 rfl ?_
  refine x_iconst (v := nI 0) d_Mo_area_7 (by decide) ?_
  refine x_v2p d_Mo_area_8 ml_Mo_74 v_Mo_at rfl ⟨rfl, rfl⟩ hM.io (Nat.le_of_ble_eq_true rfl) (ct_Mo_at hM hn hi (by omega)) ?_
  refine x_icmp_ge (tgt := 44) d_Mo_area_11 (by decide) (fun c11 => ?_) (fun c11 => ?_)
  · have hk2 : k = rq R i 0 := by have := nI_le' (by omega) (by omega) c11; omega
    rw [hk2]
    refine x_iload_n d_Mo_area_44 rfl ?_
    refine x_iret rfl rfl d_Mo_area_45 (Nat.zero_le _) (Nat.zero_le _) ?_
    exact ⟨rfl, rfl, rfl, rfl⟩
  · have hk2 := nI_nle' (by omega) (by omega) c11
    refine x_iload_n d_Mo_area_14 rfl ?_
    refine x_aload_n d_Mo_area_15 rfl ?_
    refine x_iload_n d_Mo_area_16 rfl ?_
    refine x_iconst (v := nI 1) d_Mo_area_17 (by decide) ?_
    refine x_iconst (v := nI 2) d_Mo_area_18 (by decide) ?_
    refine x_iload_n d_Mo_area_19 rfl ?_
    refine x_imul d_Mo_area_20 ?_
    rw [pk_mul]
    refine x_iadd d_Mo_area_21 ?_
    rw [nI_add]
    refine x_v2p d_Mo_area_22 ml_Mo_74 v_Mo_at rfl ⟨rfl, rfl⟩ hM.io (Nat.le_of_ble_eq_true rfl) (ct_Mo_at hM hn hi (by omega)) ?_
    refine x_aload_n d_Mo_area_25 rfl ?_
    refine x_iload_n d_Mo_area_26 rfl ?_
    refine x_iconst (v := nI 2) d_Mo_area_27 (by decide) ?_
    refine x_iconst (v := nI 2) d_Mo_area_28 (by decide) ?_
    refine x_iload_n d_Mo_area_29 rfl ?_
    refine x_imul d_Mo_area_30 ?_
    rw [pk_mul]
    refine x_iadd d_Mo_area_31 ?_
    rw [nI_add]
    refine x_v2p d_Mo_area_32 ml_Mo_74 v_Mo_at rfl ⟨rfl, rfl⟩ hM.io (Nat.le_of_ble_eq_true rfl) (ct_Mo_at hM hn hi (by omega)) ?_
    refine x_imul d_Mo_area_35 ?_
    rw [pk_mul]
    refine x_iadd d_Mo_area_36 ?_
    rw [nI_add]
    refine x_istore_n d_Mo_area_37 (by decide) ?_
    refine x_iinc d_Mo_area_38 rfl (by first | exact inc1 _ | rfl) (by decide) ?_
    refine x_goto (tgt := 4) d_Mo_area_41 (by decide) ?_
    exact ih hk2
theorem ct_Mo_cut (hM : LayMo sh μ) (hn : NowR mem (μ + 1) R) (hO : OffOk R) (h12 : R 0 ≤ 12) (hR4 : R 4 ≤ 2) (hR5 : R 5 ≤ 20) (h60 : nK R ≤ 60) {r PW PL w k : Nat} (hr : r < 12) (hr0 : r < R 0) (hPW : PW ≤ 60) (hPL : PL ≤ 60) (hw : w ≤ PW) (hk : k ≤ PL) : Ct l g M_Mo_cut [rf g μ, .int (nI r), .int (nI PW), .int (nI PL), .int (nI w), .int (nI k)] none sh mem (Ri none sh (fun x m => F1 μ mem m ∧ ((cutS R r PW PL w k = none ∧ x = nI 0) ∨ ∃ R', cutS R r PW PL w k = some R' ∧ x = nI 1 ∧ NowR m (μ + 1) R'))) := by
  have h300 := hO.1
  have m1 : (PW - w) * PL ≤ 60 * 60 := mul_b (by omega) (by omega)
  have m2 : w * (PL - k) ≤ 60 * 60 := mul_b (by omega) (by omega)
  have m3 : (PW - w) * k ≤ 60 * 60 := mul_b (by omega) (by omega)
  have m4 : PW * (PL - k) ≤ 60 * 60 := mul_b (by omega) (by omega)
  rw [cutS_M hr h300 h60]
  have fst : ∀ (b : Bool), lngB R PW PL w k = b → b = b := fun b _ => rfl
  refine x_begin rfl rfl rfl (by decide) rfl ?_
  refine x_iload_n d_Mo_cut_0 rfl ?_
  refine x_iload d_Mo_cut_1 rfl ?_
  refine x_isub d_Mo_cut_3 ?_
  rw [pk_sub hw]
  refine x_istore d_Mo_cut_4 (by decide) ?_
  refine x_iload_n d_Mo_cut_6 rfl ?_
  refine x_iload d_Mo_cut_7 rfl ?_
  refine x_isub d_Mo_cut_9 ?_
  rw [pk_sub hk]
  refine x_istore d_Mo_cut_10 (by decide) ?_
  refine x_iload d_Mo_cut_12 rfl ?_
  refine x_iload_n d_Mo_cut_14 rfl ?_
  refine x_imul d_Mo_cut_15 ?_
  rw [pk_mul]
  refine x_iload d_Mo_cut_16 rfl ?_
  refine x_iload d_Mo_cut_18 rfl ?_
  refine x_imul d_Mo_cut_20 ?_
  rw [pk_mul]
  refine x_s2p d_Mo_cut_21 ml_Mo_57 v_Mo_greater rfl ⟨rfl, rfl⟩ rfl (Nat.le_of_ble_eq_true rfl) (ct_Mo_greater  (by omega) (by omega)) ?_
  refine x_istore d_Mo_cut_24 (by decide) ?_
  refine x_iload d_Mo_cut_26 rfl ?_
  refine x_iload d_Mo_cut_28 rfl ?_
  refine x_imul d_Mo_cut_30 ?_
  rw [pk_mul]
  refine x_iload_n d_Mo_cut_31 rfl ?_
  refine x_iload d_Mo_cut_32 rfl ?_
  refine x_imul d_Mo_cut_34 ?_
  rw [pk_mul]
  refine x_s2p d_Mo_cut_35 ml_Mo_57 v_Mo_greater rfl ⟨rfl, rfl⟩ rfl (Nat.le_of_ble_eq_true rfl) (ct_Mo_greater  (by omega) (by omega)) ?_
  refine x_istore d_Mo_cut_38 (by decide) ?_
  refine x_aload_n d_Mo_cut_40 rfl ?_
  refine x_getR hM.f0 rfl fs_Mo_7 d_Mo_cut_41 ?_
  refine x_iconst (v := nI 4) d_Mo_cut_44 (by decide) ?_
  refine x_iald hM.f1 (vp_in_nI (by omega) (by omega)) d_Mo_cut_45 ?_
  rw [nI_clamp (by omega), hn _ (by omega)]
  refine x_if_eq (tgt := 66) d_Mo_cut_46 (by decide) (fun c46 => ?_) (fun c46 => ?_)
  · have c46 := nI_eq' (b := 0) (by omega) (by omega) c46
    have hb : lngB R PW PL w k = true := by unfold lngB; rw [if_neg (by omega)]; exact decide_eq_true c46
    rw [hb]
    refine x_iconst (v := nI 1) d_Mo_cut_66 (by decide) ?_
    refine x_goto (tgt := 71) d_Mo_cut_67 (by decide) ?_
    refine x_istore d_Mo_cut_71 (by decide) ?_
    refine x_aload_n d_Mo_cut_73 rfl ?_
    refine x_iload_n d_Mo_cut_74 rfl ?_
    refine x_iload d_Mo_cut_75 rfl ?_
    refine x_iload d_Mo_cut_77 rfl ?_
    refine x_if_eq (tgt := 86) d_Mo_cut_79 (by decide) (fun c79 => ?_) (fun c79 => ?_)
    · exact absurd c79 (by decide)
    · refine x_iload_n d_Mo_cut_82 rfl ?_
      refine x_goto (tgt := 88) d_Mo_cut_83 (by decide) ?_
      refine x_v3i d_Mo_cut_88 ml_Mo_61 v_Mo_rest rfl ⟨rfl, rfl⟩ hM.io (Nat.le_of_ble_eq_true rfl) (ct_Mo_rest hM hn h300 hR5 hr (by omega) (by omega)) (fun r88 mem88 h88 => ?_)
      obtain ⟨f88, ⟨q1, rfl⟩ | ⟨R1, q1, rfl, n1⟩⟩ := h88
      · simp only [Bool.false_eq_true, if_true, if_false, q1, Option.bind_none]
        refine x_istore d_Mo_cut_91 (by decide) ?_
        refine x_iload d_Mo_cut_93 rfl ?_
        refine x_if_eq (tgt := 123) d_Mo_cut_95 (by decide) (fun c95 => ?_) (fun c95 => ?_)
        · refine x_iconst (v := nI 0) d_Mo_cut_123 (by decide) ?_
          refine x_istore d_Mo_cut_124 (by decide) ?_
          refine x_iload d_Mo_cut_126 rfl ?_
          refine x_if_eq (tgt := 144) d_Mo_cut_128 (by decide) (fun c128 => ?_) (fun c128 => ?_)
          · refine x_iconst (v := nI 0) d_Mo_cut_144 (by decide) ?_
            refine x_iret rfl (by decide) d_Mo_cut_145 (Nat.zero_le _) (Nat.zero_le _) ?_
            exact ⟨_, rfl, rfl, rfl, f88, Or.inl ⟨trivial, rfl⟩⟩
          · exact absurd rfl c128
        · exact absurd rfl c95
      · obtain ⟨a1, a2⟩ := restM_nK hr h300 q1
        have hO1 : R1 5 ≤ 20 := by
          unfold restM at q1
          split at q1
          · cases q1; unfold wasteR; rw [un_ne _ _ (by omega)]; exact hR5
          · split at q1
            · cases q1
            · cases q1; rw [addR_ne (by omega) (by omega) (by omega)]; exact hR5
        simp only [Bool.false_eq_true, if_true, if_false, q1, Option.bind_some]
        refine x_istore d_Mo_cut_91 (by decide) ?_
        refine x_iload d_Mo_cut_93 rfl ?_
        refine x_if_eq (tgt := 123) d_Mo_cut_95 (by decide) (fun c95 => ?_) (fun c95 => ?_)
        · exact absurd c95 (by decide)
        · refine x_aload_n d_Mo_cut_98 rfl ?_
          refine x_iload_n d_Mo_cut_99 rfl ?_
          refine x_iload d_Mo_cut_100 rfl ?_
          refine x_if_eq (tgt := 110) d_Mo_cut_102 (by decide) (fun c102 => ?_) (fun c102 => ?_)
          · exact absurd c102 (by decide)
          · refine x_iload d_Mo_cut_105 rfl ?_
            refine x_goto (tgt := 111) d_Mo_cut_107 (by decide) ?_
            refine x_iload d_Mo_cut_111 rfl ?_
            refine x_v3i d_Mo_cut_113 ml_Mo_61 v_Mo_rest rfl ⟨rfl, rfl⟩ hM.io (Nat.le_of_ble_eq_true rfl) (ct_Mo_rest hM n1 a2 hO1 hr (by omega) (by omega)) (fun r113 mem113 h113 => ?_)
            refine x_if_eq (tgt := 123) d_Mo_cut_116 (by decide) (fun c116 => ?_) (fun c116 => ?_)
            · obtain ⟨f113, ⟨q2, rfl⟩ | ⟨R2, q2, rfl, n2⟩⟩ := h113
              · rw [q2, Option.bind_none]
                refine x_iconst (v := nI 0) d_Mo_cut_123 (by decide) ?_
                refine x_istore d_Mo_cut_124 (by decide) ?_
                refine x_iload d_Mo_cut_126 rfl ?_
                refine x_if_eq (tgt := 144) d_Mo_cut_128 (by decide) (fun c128 => ?_) (fun c128 => ?_)
                · refine x_iconst (v := nI 0) d_Mo_cut_144 (by decide) ?_
                  refine x_iret rfl (by decide) d_Mo_cut_145 (Nat.zero_le _) (Nat.zero_le _) ?_
                  exact ⟨_, rfl, rfl, rfl, f88.tr f113, Or.inl ⟨rfl, rfl⟩⟩
                · exact absurd rfl c128
              · exact absurd c116 (by decide)
            · obtain ⟨f113, ⟨q2, rfl⟩ | ⟨R2, q2, rfl, n2⟩⟩ := h113
              · exact absurd rfl c116
              · obtain ⟨b1, b2⟩ := restM_nK hr a2 q2
                rw [q2, Option.bind_some]
                have hO2 : OffOk R2 ∧ R2 0 = R 0 := by
                  have g1 := restM_off hO hr hr0 (by omega) (by first | omega | (split <;> omega)) q1
                  have g2 := restM_off g1.1 hr (by omega) (by first | omega | (split <;> omega)) (by omega) q2
                  exact ⟨g2.1, by omega⟩
                have hroc : ∀ j, j < R2 1 → oc R2 j 0 < 2 ^ 31 := fun j hj => by
                  by_cases h : kp R2 j = true
                  · have := (hO2.1.2 j hj h).1; omega
                  · have : ¬ 0 < oc R2 j 0 := fun z => h (decide_eq_true z)
                    omega
                have hnk : nK R2 ≤ 300 := by rw [nK_cnt]; exact Nat.le_trans (cnt_le _ _) b2
                refine x_iconst (v := nI 1) d_Mo_cut_119 (by decide) ?_
                refine x_goto (tgt := 124) d_Mo_cut_120 (by decide) ?_
                refine x_istore d_Mo_cut_124 (by decide) ?_
                refine x_iload d_Mo_cut_126 rfl ?_
                refine x_if_eq (tgt := 144) d_Mo_cut_128 (by decide) (fun c128 => ?_) (fun c128 => ?_)
                · exact absurd c128 (by decide)
                · refine x_aload_n d_Mo_cut_131 rfl ?_
                  refine x_v0p d_Mo_cut_132 ml_Mo_64 v_Mo_keptOnes rfl ⟨rfl, rfl⟩ hM.io (Nat.le_of_ble_eq_true rfl) (ct_Mo_keptOnes hM n2 b2 hroc) ?_
                  refine x_bipush (v := nI 60) d_Mo_cut_135 (by decide) ?_
                  refine x_icmp_gt (tgt := 144) d_Mo_cut_137 (by decide) (fun c137 => ?_) (fun c137 => ?_)
                  · have c137 := nI_lt' (by omega) (by omega) c137
                    rw [if_neg (by omega)]
                    refine x_iconst (v := nI 0) d_Mo_cut_144 (by decide) ?_
                    refine x_iret rfl (by decide) d_Mo_cut_145 (Nat.zero_le _) (Nat.zero_le _) ?_
                    exact ⟨_, rfl, rfl, rfl, f88.tr f113, Or.inl ⟨rfl, rfl⟩⟩
                  · have c137 := nI_nlt' (by omega) (by omega) c137
                    rw [if_pos c137]
                    refine x_iconst (v := nI 1) d_Mo_cut_140 (by decide) ?_
                    refine x_goto (tgt := 145) d_Mo_cut_141 (by decide) ?_
                    refine x_iret rfl (by decide) d_Mo_cut_145 (Nat.zero_le _) (Nat.zero_le _) ?_
                    exact ⟨_, rfl, rfl, rfl, f88.tr f113, Or.inr ⟨_, rfl, rfl, n2⟩⟩
  · have c46 : R 4 ≠ 0 := fun z => c46 (by rw [z]; rfl)
    refine x_aload_n d_Mo_cut_49 rfl ?_
    refine x_getR hM.f0 rfl fs_Mo_7 d_Mo_cut_50 ?_
    refine x_iconst (v := nI 4) d_Mo_cut_53 (by decide) ?_
    refine x_iald hM.f1 (vp_in_nI (by omega) (by omega)) d_Mo_cut_54 ?_
    rw [nI_clamp (by omega), hn _ (by omega)]
    refine x_iconst (v := nI 2) d_Mo_cut_55 (by decide) ?_
    refine x_icmp_ne (tgt := 70) d_Mo_cut_56 (by decide) (fun c56 => ?_) (fun c56 => ?_)
    · have c56 := nI_ne' c56
      have hb : lngB R PW PL w k = false := by unfold lngB; rw [if_neg c56]; exact decide_eq_false c46
      rw [hb]
      refine x_iconst (v := nI 0) d_Mo_cut_70 (by decide) ?_
      refine x_istore d_Mo_cut_71 (by decide) ?_
      refine x_aload_n d_Mo_cut_73 rfl ?_
      refine x_iload_n d_Mo_cut_74 rfl ?_
      refine x_iload d_Mo_cut_75 rfl ?_
      refine x_iload d_Mo_cut_77 rfl ?_
      refine x_if_eq (tgt := 86) d_Mo_cut_79 (by decide) (fun c79 => ?_) (fun c79 => ?_)
      · refine x_iload d_Mo_cut_86 rfl ?_
        refine x_v3i d_Mo_cut_88 ml_Mo_61 v_Mo_rest rfl ⟨rfl, rfl⟩ hM.io (Nat.le_of_ble_eq_true rfl) (ct_Mo_rest hM hn h300 hR5 hr (by omega) (by omega)) (fun r88 mem88 h88 => ?_)
        obtain ⟨f88, ⟨q1, rfl⟩ | ⟨R1, q1, rfl, n1⟩⟩ := h88
        · simp only [Bool.false_eq_true, if_true, if_false, q1, Option.bind_none]
          refine x_istore d_Mo_cut_91 (by decide) ?_
          refine x_iload d_Mo_cut_93 rfl ?_
          refine x_if_eq (tgt := 123) d_Mo_cut_95 (by decide) (fun c95 => ?_) (fun c95 => ?_)
          · refine x_iconst (v := nI 0) d_Mo_cut_123 (by decide) ?_
            refine x_istore d_Mo_cut_124 (by decide) ?_
            refine x_iload d_Mo_cut_126 rfl ?_
            refine x_if_eq (tgt := 144) d_Mo_cut_128 (by decide) (fun c128 => ?_) (fun c128 => ?_)
            · refine x_iconst (v := nI 0) d_Mo_cut_144 (by decide) ?_
              refine x_iret rfl (by decide) d_Mo_cut_145 (Nat.zero_le _) (Nat.zero_le _) ?_
              exact ⟨_, rfl, rfl, rfl, f88, Or.inl ⟨trivial, rfl⟩⟩
            · exact absurd rfl c128
          · exact absurd rfl c95
        · obtain ⟨a1, a2⟩ := restM_nK hr h300 q1
          have hO1 : R1 5 ≤ 20 := by
            unfold restM at q1
            split at q1
            · cases q1; unfold wasteR; rw [un_ne _ _ (by omega)]; exact hR5
            · split at q1
              · cases q1
              · cases q1; rw [addR_ne (by omega) (by omega) (by omega)]; exact hR5
          simp only [Bool.false_eq_true, if_true, if_false, q1, Option.bind_some]
          refine x_istore d_Mo_cut_91 (by decide) ?_
          refine x_iload d_Mo_cut_93 rfl ?_
          refine x_if_eq (tgt := 123) d_Mo_cut_95 (by decide) (fun c95 => ?_) (fun c95 => ?_)
          · exact absurd c95 (by decide)
          · refine x_aload_n d_Mo_cut_98 rfl ?_
            refine x_iload_n d_Mo_cut_99 rfl ?_
            refine x_iload d_Mo_cut_100 rfl ?_
            refine x_if_eq (tgt := 110) d_Mo_cut_102 (by decide) (fun c102 => ?_) (fun c102 => ?_)
            · refine x_iload_n d_Mo_cut_110 rfl ?_
              refine x_iload d_Mo_cut_111 rfl ?_
              refine x_v3i d_Mo_cut_113 ml_Mo_61 v_Mo_rest rfl ⟨rfl, rfl⟩ hM.io (Nat.le_of_ble_eq_true rfl) (ct_Mo_rest hM n1 a2 hO1 hr (by omega) (by omega)) (fun r113 mem113 h113 => ?_)
              refine x_if_eq (tgt := 123) d_Mo_cut_116 (by decide) (fun c116 => ?_) (fun c116 => ?_)
              · obtain ⟨f113, ⟨q2, rfl⟩ | ⟨R2, q2, rfl, n2⟩⟩ := h113
                · rw [q2, Option.bind_none]
                  refine x_iconst (v := nI 0) d_Mo_cut_123 (by decide) ?_
                  refine x_istore d_Mo_cut_124 (by decide) ?_
                  refine x_iload d_Mo_cut_126 rfl ?_
                  refine x_if_eq (tgt := 144) d_Mo_cut_128 (by decide) (fun c128 => ?_) (fun c128 => ?_)
                  · refine x_iconst (v := nI 0) d_Mo_cut_144 (by decide) ?_
                    refine x_iret rfl (by decide) d_Mo_cut_145 (Nat.zero_le _) (Nat.zero_le _) ?_
                    exact ⟨_, rfl, rfl, rfl, f88.tr f113, Or.inl ⟨rfl, rfl⟩⟩
                  · exact absurd rfl c128
                · exact absurd c116 (by decide)
              · obtain ⟨f113, ⟨q2, rfl⟩ | ⟨R2, q2, rfl, n2⟩⟩ := h113
                · exact absurd rfl c116
                · obtain ⟨b1, b2⟩ := restM_nK hr a2 q2
                  rw [q2, Option.bind_some]
                  have hO2 : OffOk R2 ∧ R2 0 = R 0 := by
                    have g1 := restM_off hO hr hr0 (by omega) (by first | omega | (split <;> omega)) q1
                    have g2 := restM_off g1.1 hr (by omega) (by first | omega | (split <;> omega)) (by omega) q2
                    exact ⟨g2.1, by omega⟩
                  have hroc : ∀ j, j < R2 1 → oc R2 j 0 < 2 ^ 31 := fun j hj => by
                    by_cases h : kp R2 j = true
                    · have := (hO2.1.2 j hj h).1; omega
                    · have : ¬ 0 < oc R2 j 0 := fun z => h (decide_eq_true z)
                      omega
                  have hnk : nK R2 ≤ 300 := by rw [nK_cnt]; exact Nat.le_trans (cnt_le _ _) b2
                  refine x_iconst (v := nI 1) d_Mo_cut_119 (by decide) ?_
                  refine x_goto (tgt := 124) d_Mo_cut_120 (by decide) ?_
                  refine x_istore d_Mo_cut_124 (by decide) ?_
                  refine x_iload d_Mo_cut_126 rfl ?_
                  refine x_if_eq (tgt := 144) d_Mo_cut_128 (by decide) (fun c128 => ?_) (fun c128 => ?_)
                  · exact absurd c128 (by decide)
                  · refine x_aload_n d_Mo_cut_131 rfl ?_
                    refine x_v0p d_Mo_cut_132 ml_Mo_64 v_Mo_keptOnes rfl ⟨rfl, rfl⟩ hM.io (Nat.le_of_ble_eq_true rfl) (ct_Mo_keptOnes hM n2 b2 hroc) ?_
                    refine x_bipush (v := nI 60) d_Mo_cut_135 (by decide) ?_
                    refine x_icmp_gt (tgt := 144) d_Mo_cut_137 (by decide) (fun c137 => ?_) (fun c137 => ?_)
                    · have c137 := nI_lt' (by omega) (by omega) c137
                      rw [if_neg (by omega)]
                      refine x_iconst (v := nI 0) d_Mo_cut_144 (by decide) ?_
                      refine x_iret rfl (by decide) d_Mo_cut_145 (Nat.zero_le _) (Nat.zero_le _) ?_
                      exact ⟨_, rfl, rfl, rfl, f88.tr f113, Or.inl ⟨rfl, rfl⟩⟩
                    · have c137 := nI_nlt' (by omega) (by omega) c137
                      rw [if_pos c137]
                      refine x_iconst (v := nI 1) d_Mo_cut_140 (by decide) ?_
                      refine x_goto (tgt := 145) d_Mo_cut_141 (by decide) ?_
                      refine x_iret rfl (by decide) d_Mo_cut_145 (Nat.zero_le _) (Nat.zero_le _) ?_
                      exact ⟨_, rfl, rfl, rfl, f88.tr f113, Or.inr ⟨_, rfl, rfl, n2⟩⟩
            · exact absurd rfl c102
      · exact absurd rfl c79
    · have c56 := nI_eq' (by omega) (by omega) c56
      refine x_iload d_Mo_cut_59 rfl ?_
      refine x_iload d_Mo_cut_61 rfl ?_
      refine x_icmp_lt (tgt := 70) d_Mo_cut_63 (by decide) (fun c63 => ?_) (fun c63 => ?_)
      · have c63 := nI_lt' (by omega) (by omega) c63
        have hb : lngB R PW PL w k = false := by unfold lngB; rw [if_pos c56]; exact decide_eq_false (by omega)
        rw [hb]
        refine x_iconst (v := nI 0) d_Mo_cut_70 (by decide) ?_
        refine x_istore d_Mo_cut_71 (by decide) ?_
        refine x_aload_n d_Mo_cut_73 rfl ?_
        refine x_iload_n d_Mo_cut_74 rfl ?_
        refine x_iload d_Mo_cut_75 rfl ?_
        refine x_iload d_Mo_cut_77 rfl ?_
        refine x_if_eq (tgt := 86) d_Mo_cut_79 (by decide) (fun c79 => ?_) (fun c79 => ?_)
        · refine x_iload d_Mo_cut_86 rfl ?_
          refine x_v3i d_Mo_cut_88 ml_Mo_61 v_Mo_rest rfl ⟨rfl, rfl⟩ hM.io (Nat.le_of_ble_eq_true rfl) (ct_Mo_rest hM hn h300 hR5 hr (by omega) (by omega)) (fun r88 mem88 h88 => ?_)
          obtain ⟨f88, ⟨q1, rfl⟩ | ⟨R1, q1, rfl, n1⟩⟩ := h88
          · simp only [Bool.false_eq_true, if_true, if_false, q1, Option.bind_none]
            refine x_istore d_Mo_cut_91 (by decide) ?_
            refine x_iload d_Mo_cut_93 rfl ?_
            refine x_if_eq (tgt := 123) d_Mo_cut_95 (by decide) (fun c95 => ?_) (fun c95 => ?_)
            · refine x_iconst (v := nI 0) d_Mo_cut_123 (by decide) ?_
              refine x_istore d_Mo_cut_124 (by decide) ?_
              refine x_iload d_Mo_cut_126 rfl ?_
              refine x_if_eq (tgt := 144) d_Mo_cut_128 (by decide) (fun c128 => ?_) (fun c128 => ?_)
              · refine x_iconst (v := nI 0) d_Mo_cut_144 (by decide) ?_
                refine x_iret rfl (by decide) d_Mo_cut_145 (Nat.zero_le _) (Nat.zero_le _) ?_
                exact ⟨_, rfl, rfl, rfl, f88, Or.inl ⟨trivial, rfl⟩⟩
              · exact absurd rfl c128
            · exact absurd rfl c95
          · obtain ⟨a1, a2⟩ := restM_nK hr h300 q1
            have hO1 : R1 5 ≤ 20 := by
              unfold restM at q1
              split at q1
              · cases q1; unfold wasteR; rw [un_ne _ _ (by omega)]; exact hR5
              · split at q1
                · cases q1
                · cases q1; rw [addR_ne (by omega) (by omega) (by omega)]; exact hR5
            simp only [Bool.false_eq_true, if_true, if_false, q1, Option.bind_some]
            refine x_istore d_Mo_cut_91 (by decide) ?_
            refine x_iload d_Mo_cut_93 rfl ?_
            refine x_if_eq (tgt := 123) d_Mo_cut_95 (by decide) (fun c95 => ?_) (fun c95 => ?_)
            · exact absurd c95 (by decide)
            · refine x_aload_n d_Mo_cut_98 rfl ?_
              refine x_iload_n d_Mo_cut_99 rfl ?_
              refine x_iload d_Mo_cut_100 rfl ?_
              refine x_if_eq (tgt := 110) d_Mo_cut_102 (by decide) (fun c102 => ?_) (fun c102 => ?_)
              · refine x_iload_n d_Mo_cut_110 rfl ?_
                refine x_iload d_Mo_cut_111 rfl ?_
                refine x_v3i d_Mo_cut_113 ml_Mo_61 v_Mo_rest rfl ⟨rfl, rfl⟩ hM.io (Nat.le_of_ble_eq_true rfl) (ct_Mo_rest hM n1 a2 hO1 hr (by omega) (by omega)) (fun r113 mem113 h113 => ?_)
                refine x_if_eq (tgt := 123) d_Mo_cut_116 (by decide) (fun c116 => ?_) (fun c116 => ?_)
                · obtain ⟨f113, ⟨q2, rfl⟩ | ⟨R2, q2, rfl, n2⟩⟩ := h113
                  · rw [q2, Option.bind_none]
                    refine x_iconst (v := nI 0) d_Mo_cut_123 (by decide) ?_
                    refine x_istore d_Mo_cut_124 (by decide) ?_
                    refine x_iload d_Mo_cut_126 rfl ?_
                    refine x_if_eq (tgt := 144) d_Mo_cut_128 (by decide) (fun c128 => ?_) (fun c128 => ?_)
                    · refine x_iconst (v := nI 0) d_Mo_cut_144 (by decide) ?_
                      refine x_iret rfl (by decide) d_Mo_cut_145 (Nat.zero_le _) (Nat.zero_le _) ?_
                      exact ⟨_, rfl, rfl, rfl, f88.tr f113, Or.inl ⟨rfl, rfl⟩⟩
                    · exact absurd rfl c128
                  · exact absurd c116 (by decide)
                · obtain ⟨f113, ⟨q2, rfl⟩ | ⟨R2, q2, rfl, n2⟩⟩ := h113
                  · exact absurd rfl c116
                  · obtain ⟨b1, b2⟩ := restM_nK hr a2 q2
                    rw [q2, Option.bind_some]
                    have hO2 : OffOk R2 ∧ R2 0 = R 0 := by
                      have g1 := restM_off hO hr hr0 (by omega) (by first | omega | (split <;> omega)) q1
                      have g2 := restM_off g1.1 hr (by omega) (by first | omega | (split <;> omega)) (by omega) q2
                      exact ⟨g2.1, by omega⟩
                    have hroc : ∀ j, j < R2 1 → oc R2 j 0 < 2 ^ 31 := fun j hj => by
                      by_cases h : kp R2 j = true
                      · have := (hO2.1.2 j hj h).1; omega
                      · have : ¬ 0 < oc R2 j 0 := fun z => h (decide_eq_true z)
                        omega
                    have hnk : nK R2 ≤ 300 := by rw [nK_cnt]; exact Nat.le_trans (cnt_le _ _) b2
                    refine x_iconst (v := nI 1) d_Mo_cut_119 (by decide) ?_
                    refine x_goto (tgt := 124) d_Mo_cut_120 (by decide) ?_
                    refine x_istore d_Mo_cut_124 (by decide) ?_
                    refine x_iload d_Mo_cut_126 rfl ?_
                    refine x_if_eq (tgt := 144) d_Mo_cut_128 (by decide) (fun c128 => ?_) (fun c128 => ?_)
                    · exact absurd c128 (by decide)
                    · refine x_aload_n d_Mo_cut_131 rfl ?_
                      refine x_v0p d_Mo_cut_132 ml_Mo_64 v_Mo_keptOnes rfl ⟨rfl, rfl⟩ hM.io (Nat.le_of_ble_eq_true rfl) (ct_Mo_keptOnes hM n2 b2 hroc) ?_
                      refine x_bipush (v := nI 60) d_Mo_cut_135 (by decide) ?_
                      refine x_icmp_gt (tgt := 144) d_Mo_cut_137 (by decide) (fun c137 => ?_) (fun c137 => ?_)
                      · have c137 := nI_lt' (by omega) (by omega) c137
                        rw [if_neg (by omega)]
                        refine x_iconst (v := nI 0) d_Mo_cut_144 (by decide) ?_
                        refine x_iret rfl (by decide) d_Mo_cut_145 (Nat.zero_le _) (Nat.zero_le _) ?_
                        exact ⟨_, rfl, rfl, rfl, f88.tr f113, Or.inl ⟨rfl, rfl⟩⟩
                      · have c137 := nI_nlt' (by omega) (by omega) c137
                        rw [if_pos c137]
                        refine x_iconst (v := nI 1) d_Mo_cut_140 (by decide) ?_
                        refine x_goto (tgt := 145) d_Mo_cut_141 (by decide) ?_
                        refine x_iret rfl (by decide) d_Mo_cut_145 (Nat.zero_le _) (Nat.zero_le _) ?_
                        exact ⟨_, rfl, rfl, rfl, f88.tr f113, Or.inr ⟨_, rfl, rfl, n2⟩⟩
              · exact absurd rfl c102
        · exact absurd rfl c79
      · have c63 := nI_nlt' (by omega) (by omega) c63
        have hb : lngB R PW PL w k = true := by unfold lngB; rw [if_pos c56]; exact decide_eq_true c63
        rw [hb]
        refine x_iconst (v := nI 1) d_Mo_cut_66 (by decide) ?_
        refine x_goto (tgt := 71) d_Mo_cut_67 (by decide) ?_
        refine x_istore d_Mo_cut_71 (by decide) ?_
        refine x_aload_n d_Mo_cut_73 rfl ?_
        refine x_iload_n d_Mo_cut_74 rfl ?_
        refine x_iload d_Mo_cut_75 rfl ?_
        refine x_iload d_Mo_cut_77 rfl ?_
        refine x_if_eq (tgt := 86) d_Mo_cut_79 (by decide) (fun c79 => ?_) (fun c79 => ?_)
        · exact absurd c79 (by decide)
        · refine x_iload_n d_Mo_cut_82 rfl ?_
          refine x_goto (tgt := 88) d_Mo_cut_83 (by decide) ?_
          refine x_v3i d_Mo_cut_88 ml_Mo_61 v_Mo_rest rfl ⟨rfl, rfl⟩ hM.io (Nat.le_of_ble_eq_true rfl) (ct_Mo_rest hM hn h300 hR5 hr (by omega) (by omega)) (fun r88 mem88 h88 => ?_)
          obtain ⟨f88, ⟨q1, rfl⟩ | ⟨R1, q1, rfl, n1⟩⟩ := h88
          · simp only [Bool.false_eq_true, if_true, if_false, q1, Option.bind_none]
            refine x_istore d_Mo_cut_91 (by decide) ?_
            refine x_iload d_Mo_cut_93 rfl ?_
            refine x_if_eq (tgt := 123) d_Mo_cut_95 (by decide) (fun c95 => ?_) (fun c95 => ?_)
            · refine x_iconst (v := nI 0) d_Mo_cut_123 (by decide) ?_
              refine x_istore d_Mo_cut_124 (by decide) ?_
              refine x_iload d_Mo_cut_126 rfl ?_
              refine x_if_eq (tgt := 144) d_Mo_cut_128 (by decide) (fun c128 => ?_) (fun c128 => ?_)
              · refine x_iconst (v := nI 0) d_Mo_cut_144 (by decide) ?_
                refine x_iret rfl (by decide) d_Mo_cut_145 (Nat.zero_le _) (Nat.zero_le _) ?_
                exact ⟨_, rfl, rfl, rfl, f88, Or.inl ⟨trivial, rfl⟩⟩
              · exact absurd rfl c128
            · exact absurd rfl c95
          · obtain ⟨a1, a2⟩ := restM_nK hr h300 q1
            have hO1 : R1 5 ≤ 20 := by
              unfold restM at q1
              split at q1
              · cases q1; unfold wasteR; rw [un_ne _ _ (by omega)]; exact hR5
              · split at q1
                · cases q1
                · cases q1; rw [addR_ne (by omega) (by omega) (by omega)]; exact hR5
            simp only [Bool.false_eq_true, if_true, if_false, q1, Option.bind_some]
            refine x_istore d_Mo_cut_91 (by decide) ?_
            refine x_iload d_Mo_cut_93 rfl ?_
            refine x_if_eq (tgt := 123) d_Mo_cut_95 (by decide) (fun c95 => ?_) (fun c95 => ?_)
            · exact absurd c95 (by decide)
            · refine x_aload_n d_Mo_cut_98 rfl ?_
              refine x_iload_n d_Mo_cut_99 rfl ?_
              refine x_iload d_Mo_cut_100 rfl ?_
              refine x_if_eq (tgt := 110) d_Mo_cut_102 (by decide) (fun c102 => ?_) (fun c102 => ?_)
              · exact absurd c102 (by decide)
              · refine x_iload d_Mo_cut_105 rfl ?_
                refine x_goto (tgt := 111) d_Mo_cut_107 (by decide) ?_
                refine x_iload d_Mo_cut_111 rfl ?_
                refine x_v3i d_Mo_cut_113 ml_Mo_61 v_Mo_rest rfl ⟨rfl, rfl⟩ hM.io (Nat.le_of_ble_eq_true rfl) (ct_Mo_rest hM n1 a2 hO1 hr (by omega) (by omega)) (fun r113 mem113 h113 => ?_)
                refine x_if_eq (tgt := 123) d_Mo_cut_116 (by decide) (fun c116 => ?_) (fun c116 => ?_)
                · obtain ⟨f113, ⟨q2, rfl⟩ | ⟨R2, q2, rfl, n2⟩⟩ := h113
                  · rw [q2, Option.bind_none]
                    refine x_iconst (v := nI 0) d_Mo_cut_123 (by decide) ?_
                    refine x_istore d_Mo_cut_124 (by decide) ?_
                    refine x_iload d_Mo_cut_126 rfl ?_
                    refine x_if_eq (tgt := 144) d_Mo_cut_128 (by decide) (fun c128 => ?_) (fun c128 => ?_)
                    · refine x_iconst (v := nI 0) d_Mo_cut_144 (by decide) ?_
                      refine x_iret rfl (by decide) d_Mo_cut_145 (Nat.zero_le _) (Nat.zero_le _) ?_
                      exact ⟨_, rfl, rfl, rfl, f88.tr f113, Or.inl ⟨rfl, rfl⟩⟩
                    · exact absurd rfl c128
                  · exact absurd c116 (by decide)
                · obtain ⟨f113, ⟨q2, rfl⟩ | ⟨R2, q2, rfl, n2⟩⟩ := h113
                  · exact absurd rfl c116
                  · obtain ⟨b1, b2⟩ := restM_nK hr a2 q2
                    rw [q2, Option.bind_some]
                    have hO2 : OffOk R2 ∧ R2 0 = R 0 := by
                      have g1 := restM_off hO hr hr0 (by omega) (by first | omega | (split <;> omega)) q1
                      have g2 := restM_off g1.1 hr (by omega) (by first | omega | (split <;> omega)) (by omega) q2
                      exact ⟨g2.1, by omega⟩
                    have hroc : ∀ j, j < R2 1 → oc R2 j 0 < 2 ^ 31 := fun j hj => by
                      by_cases h : kp R2 j = true
                      · have := (hO2.1.2 j hj h).1; omega
                      · have : ¬ 0 < oc R2 j 0 := fun z => h (decide_eq_true z)
                        omega
                    have hnk : nK R2 ≤ 300 := by rw [nK_cnt]; exact Nat.le_trans (cnt_le _ _) b2
                    refine x_iconst (v := nI 1) d_Mo_cut_119 (by decide) ?_
                    refine x_goto (tgt := 124) d_Mo_cut_120 (by decide) ?_
                    refine x_istore d_Mo_cut_124 (by decide) ?_
                    refine x_iload d_Mo_cut_126 rfl ?_
                    refine x_if_eq (tgt := 144) d_Mo_cut_128 (by decide) (fun c128 => ?_) (fun c128 => ?_)
                    · exact absurd c128 (by decide)
                    · refine x_aload_n d_Mo_cut_131 rfl ?_
                      refine x_v0p d_Mo_cut_132 ml_Mo_64 v_Mo_keptOnes rfl ⟨rfl, rfl⟩ hM.io (Nat.le_of_ble_eq_true rfl) (ct_Mo_keptOnes hM n2 b2 hroc) ?_
                      refine x_bipush (v := nI 60) d_Mo_cut_135 (by decide) ?_
                      refine x_icmp_gt (tgt := 144) d_Mo_cut_137 (by decide) (fun c137 => ?_) (fun c137 => ?_)
                      · have c137 := nI_lt' (by omega) (by omega) c137
                        rw [if_neg (by omega)]
                        refine x_iconst (v := nI 0) d_Mo_cut_144 (by decide) ?_
                        refine x_iret rfl (by decide) d_Mo_cut_145 (Nat.zero_le _) (Nat.zero_le _) ?_
                        exact ⟨_, rfl, rfl, rfl, f88.tr f113, Or.inl ⟨rfl, rfl⟩⟩
                      · have c137 := nI_nlt' (by omega) (by omega) c137
                        rw [if_pos c137]
                        refine x_iconst (v := nI 1) d_Mo_cut_140 (by decide) ?_
                        refine x_goto (tgt := 145) d_Mo_cut_141 (by decide) ?_
                        refine x_iret rfl (by decide) d_Mo_cut_145 (Nat.zero_le _) (Nat.zero_le _) ?_
                        exact ⟨_, rfl, rfl, rfl, f88.tr f113, Or.inr ⟨_, rfl, rfl, n2⟩⟩
end
