/-! the reference: a strip by its rank, what lies of a roll, small offcuts -/
section
variable {l : Launch} {g : XG} {sh : Nat → Sh} {mem : Mem} {μ : Nat} {R : RS}
theorem mny_in {q : Nat → Nat} {k y W a : Nat} (hW : 5 ≤ W) (h : a < mny q k y W) : a * W < wdt q k y := by
  have h1 : mny q k y W * W ≤ wdt q k y + W - 1 := Nat.div_mul_le_self _ _
  have h2 : (a + 1) * W ≤ mny q k y W * W := Nat.mul_le_mul_right _ h
  rw [Nat.succ_mul] at h2
  omega
theorem ct_Mo_widthOfStrip (hM : LayMo sh μ) (hI : Inv R) (hn : NowR mem (μ + 1) R) {i s : Nat} (hi : i < R 2) (h8 : rq R i 8 = 1) (hs : s < stripsN (rq R i) (rq R i 10) (ro R (rq R i 9) 1)) : Ct l g M_Mo_widthOfStrip [rf g μ, .int (nI i), .int (nI s)] none sh mem (Pq (.int (nI (sw (SL (rq R i) (rq R i 10) (ro R (rq R i 9) 1)) s))) none sh mem) := by
  obtain ⟨k, a, g2, g3, g4, ct⟩ := ct_Mo_rankOf (l := l) (g := g) (sh := sh) hM hI hn hi h8 hs
  obtain ⟨k1, k2, k3⟩ := hI.2.2.2.2.1 i hi
  obtain ⟨k4, k5⟩ := k3 h8
  obtain ⟨v1, v2, v3, v4, v5⟩ := hI.2.2.1 _ k4
  have h12 := hI.1.1
  have h20 := hI.1.2.2
  have hq3 := k1.1.2.1
  have hwd := k1.w g2 k5
  have hmn := mny_le k1 g2 k5 v2.1
  have haW := mny_in v2.1 g3
  have hv : sw (SL (rq R i) (rq R i 10) (ro R (rq R i 9) 1)) s = min (ro R (rq R i 9) 1) (wdt (rq R i) k (rq R i 10) - a * ro R (rq R i 9) 1) := by rw [sw, g4]; rfl
  rw [hv]
  refine x_begin rfl rfl rfl (by decide) rfl ?_
  refine x_aload_n d_Mo_widthOfStrip_0 rfl ?_
  refine x_iload_n d_Mo_widthOfStrip_1 rfl ?_
  refine x_iload_n d_Mo_widthOfStrip_2 rfl ?_
  refine x_v2p d_Mo_widthOfStrip_3 ml_Mo_157 v_Mo_rankOf rfl ⟨rfl, rfl⟩ hM.io (Nat.le_of_ble_eq_true rfl) (ct) ?_
  refine x_istore_n d_Mo_widthOfStrip_6 (by decide) ?_
  refine x_aload_n d_Mo_widthOfStrip_7 rfl ?_
  refine x_iload_n d_Mo_widthOfStrip_8 rfl ?_
  refine x_iload_n d_Mo_widthOfStrip_9 rfl ?_
  refine x_bipush (v := nI 100) d_Mo_widthOfStrip_10 (by decide) ?_
  refine x_idiv d_Mo_widthOfStrip_12 (by decide) ?_
  rw [pk_div (by omega) (by omega) (by omega), show (100 * k + a) / 100 = k by omega]
  refine x_aload_n d_Mo_widthOfStrip_13 rfl ?_
  refine x_iload_n d_Mo_widthOfStrip_14 rfl ?_
  refine x_bipush (v := nI 10) d_Mo_widthOfStrip_15 (by decide) ?_
  refine x_v2p d_Mo_widthOfStrip_17 ml_Mo_74 v_Mo_at rfl ⟨rfl, rfl⟩ hM.io (Nat.le_of_ble_eq_true rfl) (ct_Mo_at hM hn (by omega) (by omega)) ?_
  refine x_v3p d_Mo_widthOfStrip_20 ml_Mo_93 v_Mo_wide rfl ⟨rfl, rfl⟩ hM.io (Nat.le_of_ble_eq_true rfl) (ct_Mo_wide hM hn (by omega) (by omega) k5) ?_
  refine x_aload_n d_Mo_widthOfStrip_23 rfl ?_
  refine x_aload_n d_Mo_widthOfStrip_24 rfl ?_
  refine x_iload_n d_Mo_widthOfStrip_25 rfl ?_
  refine x_bipush (v := nI 9) d_Mo_widthOfStrip_26 (by decide) ?_
  refine x_v2p d_Mo_widthOfStrip_28 ml_Mo_74 v_Mo_at rfl ⟨rfl, rfl⟩ hM.io (Nat.le_of_ble_eq_true rfl) (ct_Mo_at hM hn (by omega) (by omega)) ?_
  refine x_iconst (v := nI 1) d_Mo_widthOfStrip_31 (by decide) ?_
  refine x_v2p d_Mo_widthOfStrip_32 ml_Mo_90 v_Mo_of rfl ⟨rfl, rfl⟩ hM.io (Nat.le_of_ble_eq_true rfl) (ct_Mo_of hM hn (by omega) (by omega)) ?_
  refine x_iload_n d_Mo_widthOfStrip_35 rfl ?_
  refine x_bipush (v := nI 100) d_Mo_widthOfStrip_36 (by decide) ?_
  refine x_irem d_Mo_widthOfStrip_38 (by decide) ?_
  rw [pk_rem (by omega) (by omega) (by omega), show (100 * k + a) % 100 = a by omega]
  refine x_s3p d_Mo_widthOfStrip_39 ml_Mo_103 v_Mo_stripWidth rfl ⟨rfl, rfl⟩ rfl (Nat.le_of_ble_eq_true rfl) (ct_Mo_stripWidth  (by omega) v2 haW) ?_
  refine x_iret rfl rfl d_Mo_widthOfStrip_42 (Nat.zero_le _) (Nat.zero_le _) ?_
  exact ⟨rfl, rfl, rfl, rfl⟩
theorem ct_Mo_lengthOfStrip (hM : LayMo sh μ) (hI : Inv R) (hn : NowR mem (μ + 1) R) {i s : Nat} (hi : i < R 2) (h8 : rq R i 8 = 1) (hs : s < stripsN (rq R i) (rq R i 10) (ro R (rq R i 9) 1)) : Ct l g M_Mo_lengthOfStrip [rf g μ, .int (nI i), .int (nI s)] none sh mem (Pq (.int (nI (sl (SL (rq R i) (rq R i 10) (ro R (rq R i 9) 1)) s))) none sh mem) := by
  obtain ⟨k, a, g2, g3, g4, ct⟩ := ct_Mo_rankOf (l := l) (g := g) (sh := sh) hM hI hn hi h8 hs
  obtain ⟨k1, k2, k3⟩ := hI.2.2.2.2.1 i hi
  obtain ⟨k4, k5⟩ := k3 h8
  obtain ⟨v1, v2, v3, v4, v5⟩ := hI.2.2.1 _ k4
  have h12 := hI.1.1
  have h20 := hI.1.2.2
  have hq3 := k1.1.2.1
  have hmn := mny_le k1 g2 k5 v2.1
  have hv : sl (SL (rq R i) (rq R i 10) (ro R (rq R i 9) 1)) s = lng (rq R i) k (rq R i 10) := by rw [sl, g4]; rfl
  rw [hv]
  refine x_begin rfl rfl rfl (by decide) rfl ?_
  refine x_aload_n d_Mo_lengthOfStrip_0 rfl ?_
  refine x_iload_n d_Mo_lengthOfStrip_1 rfl ?_
  refine x_aload_n d_Mo_lengthOfStrip_2 rfl ?_
  refine x_iload_n d_Mo_lengthOfStrip_3 rfl ?_
  refine x_iload_n d_Mo_lengthOfStrip_4 rfl ?_
  refine x_v2p d_Mo_lengthOfStrip_5 ml_Mo_157 v_Mo_rankOf rfl ⟨rfl, rfl⟩ hM.io (Nat.le_of_ble_eq_true rfl) (ct) ?_
  refine x_bipush (v := nI 100) d_Mo_lengthOfStrip_8 (by decide) ?_
  refine x_idiv d_Mo_lengthOfStrip_10 (by decide) ?_
  rw [pk_div (by omega) (by omega) (by omega), show (100 * k + a) / 100 = k by omega]
  refine x_aload_n d_Mo_lengthOfStrip_11 rfl ?_
  refine x_iload_n d_Mo_lengthOfStrip_12 rfl ?_
  refine x_bipush (v := nI 10) d_Mo_lengthOfStrip_13 (by decide) ?_
  refine x_v2p d_Mo_lengthOfStrip_15 ml_Mo_74 v_Mo_at rfl ⟨rfl, rfl⟩ hM.io (Nat.le_of_ble_eq_true rfl) (ct_Mo_at hM hn (by omega) (by omega)) ?_
  refine x_v3p d_Mo_lengthOfStrip_18 ml_Mo_97 v_Mo_longs rfl ⟨rfl, rfl⟩ hM.io (Nat.le_of_ble_eq_true rfl) (ct_Mo_longs hM hn (by omega) (by omega) k5) ?_
  refine x_iret rfl rfl d_Mo_lengthOfStrip_21 (Nat.zero_le _) (Nat.zero_le _) ?_
  exact ⟨rfl, rfl, rfl, rfl⟩
theorem ct_Mo_isBelow (hM : LayMo sh μ) (hn : NowR mem (μ + 1) R) (hO : OffOk R) (h12 : R 0 ≤ 12) {k r A : Nat} (hk : k < R 1) (hr : r < 12) (hA : A ≤ 9999) : Ct l g M_Mo_isBelow [rf g μ, .int (nI k), .int (nI r), .int (nI A)] none sh mem (Pq (.int (bI (smK R r A k = true))) none sh mem) := by
  have h300 := hO.1
  have hroc : ∀ j, j < R 1 → oc R j 0 < 2 ^ 31 := fun j hj => by
    by_cases h : kp R j = true
    · have := (hO.2 j hj h).1; omega
    · have : ¬ 0 < oc R j 0 := fun z => h (decide_eq_true z)
      omega
  refine x_begin rfl rfl rfl (by decide) rfl ?_
  refine x_aload_n d_Mo_isBelow_0 rfl ?_
  refine x_iload_n d_Mo_isBelow_1 rfl ?_
  refine x_v1p d_Mo_isBelow_2 ml_Mo_46 v_Mo_isKept rfl ⟨rfl, rfl⟩ hM.io (Nat.le_of_ble_eq_true rfl) (ct_Mo_isKept hM hn h300 hroc) ?_
  refine x_if_eq (tgt := 30) d_Mo_isBelow_5 (by decide) (fun c5 => ?_) (fun c5 => ?_)
  · have hkp : ¬ kp R k = true := fun z => bI_0.mp c5 ⟨hasI_nI (by omega) hk, by rw [tN_nI (by omega)]; exact z⟩
    rw [bI_f (show ¬ smK R r A k = true by simp [smK, hkp])]
    refine x_iconst (v := nI 0) d_Mo_isBelow_30 (by decide) ?_
    refine x_iret rfl (by decide) d_Mo_isBelow_31 (Nat.zero_le _) (Nat.zero_le _) ?_
    exact ⟨rfl, rfl, rfl, rfl⟩
  · have hkp : kp R k = true := by
      have h := (bI_n.mp c5).2
      rw [tN_nI (by omega)] at h
      exact h
    obtain ⟨o1, o2, o3⟩ := hO.2 k hk hkp
    have hA2 : oA R k ≤ 60 * 60 := mul_b o2 o3
    have hs : smK R r A k = (decide (oc R k 0 - 1 = r) && decide (oA R k < A)) := by
      unfold smK
      rw [hkp, Bool.true_and]
      rfl
    rw [hs]
    refine x_aload_n d_Mo_isBelow_8 rfl ?_
    refine x_iload_n d_Mo_isBelow_9 rfl ?_
    refine x_v1p d_Mo_isBelow_10 ml_Mo_68 v_Mo_rollOfOffcut rfl ⟨rfl, rfl⟩ hM.io (Nat.le_of_ble_eq_true rfl) (ct_Mo_rollOfOffcut hM hn (by omega) hkp) ?_
    refine x_iload_n d_Mo_isBelow_13 rfl ?_
    refine x_icmp_ne (tgt := 30) d_Mo_isBelow_14 (by decide) (fun c14 => ?_) (fun c14 => ?_)
    · have c14 := nI_ne' c14
      rw [bI_f (show ¬ (decide (oc R k 0 - 1 = r) && decide (oA R k < A)) = true by simp [c14])]
      refine x_iconst (v := nI 0) d_Mo_isBelow_30 (by decide) ?_
      refine x_iret rfl (by decide) d_Mo_isBelow_31 (Nat.zero_le _) (Nat.zero_le _) ?_
      exact ⟨rfl, rfl, rfl, rfl⟩
    · have c14 := nI_eq' (by omega) (by omega) c14
      refine x_aload_n d_Mo_isBelow_17 rfl ?_
      refine x_iload_n d_Mo_isBelow_18 rfl ?_
      refine x_v1p d_Mo_isBelow_19 ml_Mo_71 v_Mo_areaOf rfl ⟨rfl, rfl⟩ hM.io (Nat.le_of_ble_eq_true rfl) (ct_Mo_areaOf hM hn (by omega)) ?_
      refine x_iload_n d_Mo_isBelow_22 rfl ?_
      refine x_icmp_ge (tgt := 30) d_Mo_isBelow_23 (by decide) (fun c23 => ?_) (fun c23 => ?_)
      · have c23 := nI_le' (by omega) (by omega) c23
        rw [bI_f (show ¬ (decide (oc R k 0 - 1 = r) && decide (oA R k < A)) = true by simp [c23])]
        refine x_iconst (v := nI 0) d_Mo_isBelow_30 (by decide) ?_
        refine x_iret rfl (by decide) d_Mo_isBelow_31 (Nat.zero_le _) (Nat.zero_le _) ?_
        exact ⟨rfl, rfl, rfl, rfl⟩
      · have c23 := nI_nle' (by omega) (by omega) c23
        rw [bI_t (show (decide (oc R k 0 - 1 = r) && decide (oA R k < A)) = true by simp [c14, c23])]
        refine x_iconst (v := nI 1) d_Mo_isBelow_26 (by decide) ?_
        refine x_goto (tgt := 31) d_Mo_isBelow_27 (by decide) ?_
        refine x_iret rfl (by decide) d_Mo_isBelow_31 (Nat.zero_le _) (Nat.zero_le _) ?_
        exact ⟨rfl, rfl, rfl, rfl⟩
end
