/-! the reference: the share that is wasted -/
section
variable {l : Launch} {g : XG} {sh : Nat → Sh} {mem : Mem} {μ : Nat} {G : GS}
theorem ct_Mo_wasted (hM : LayMo sh μ) (hC : MR mem μ G) {r : Int32} : Ct l g M_Mo_wasted [rf g μ, .int r] none sh mem (Pq (.double (vWasted G.1 r)) none sh mem) := by
  obtain ⟨hI, hn, hh, ht, hs⟩ := id hC
  have h12 := hI.1.1
  refine x_begin rfl rfl rfl (by decide) rfl ?_
  refine x_aload_n d_Mo_wasted_0 rfl ?_
  refine x_iload_n d_Mo_wasted_1 rfl ?_
  refine x_v1p d_Mo_wasted_2 ml_Mo_142 v_Mo_isRoll rfl ⟨rfl, rfl⟩ hM.io (Nat.le_of_ble_eq_true rfl) (ct_Mo_isRoll hM hn h12) ?_
  refine x_if_eq (tgt := 33) d_Mo_wasted_5 (by decide) (fun c5 => ?_) (fun c5 => ?_)
  · rw [show vWasted G.1 r = MD1 from if_neg (bI_0.mp c5)]
    refine x_ldc2d cd_Mo_200 d_Mo_wasted_33 ?_
    refine x_dret rfl d_Mo_wasted_36 (Nat.zero_le _) (Nat.zero_le _) ?_
    exact ⟨rfl, rfl, rfl, rfl⟩
  · have hr0 := bI_n.mp c5
    rw [show vWasted G.1 r = FP.ddiv (FP.i2d (nI (ro G.1 (tN r) 5))) (FP.i2d (nI (ro G.1 (tN r) 1 * ro G.1 (tN r) 4))) from if_pos hr0]
    obtain ⟨r, hr, rfl⟩ := hasI_of (by omega) hr0
    rw [tN_nI (by omega)]
    obtain ⟨v1, v2, v3, v4, v5, v6⟩ := hI.2.2.1 r hr
    have hp1 : ro G.1 r 1 * ro G.1 r 4 ≤ 60 * 999 := mul_b v2.2 v6
    have hp2 : 0 < ro G.1 r 1 * ro G.1 r 4 := Nat.mul_pos (by omega) (by omega)
    refine x_aload_n d_Mo_wasted_8 rfl ?_
    refine x_iload_n d_Mo_wasted_9 rfl ?_
    refine x_iconst (v := nI 5) d_Mo_wasted_10 (by decide) ?_
    refine x_v2p d_Mo_wasted_11 ml_Mo_90 v_Mo_of rfl ⟨rfl, rfl⟩ hM.io (Nat.le_of_ble_eq_true rfl) (ct_Mo_of hM hn (by omega) (by omega)) ?_
    refine x_i2d d_Mo_wasted_14 ?_
    refine x_aload_n d_Mo_wasted_15 rfl ?_
    refine x_iload_n d_Mo_wasted_16 rfl ?_
    refine x_iconst (v := nI 1) d_Mo_wasted_17 (by decide) ?_
    refine x_v2p d_Mo_wasted_18 ml_Mo_90 v_Mo_of rfl ⟨rfl, rfl⟩ hM.io (Nat.le_of_ble_eq_true rfl) (ct_Mo_of hM hn (by omega) (by omega)) ?_
    refine x_aload_n d_Mo_wasted_21 rfl ?_
    refine x_iload_n d_Mo_wasted_22 rfl ?_
    refine x_iconst (v := nI 4) d_Mo_wasted_23 (by decide) ?_
    refine x_v2p d_Mo_wasted_24 ml_Mo_90 v_Mo_of rfl ⟨rfl, rfl⟩ hM.io (Nat.le_of_ble_eq_true rfl) (ct_Mo_of hM hn (by omega) (by omega)) ?_
    refine x_imul d_Mo_wasted_27 ?_
    rw [pk_mul]
    refine x_i2d d_Mo_wasted_28 ?_
    refine x_ddiv d_Mo_wasted_29 (ddiv_n64 _ hp2 (by omega)) ?_
    refine x_goto (tgt := 36) d_Mo_wasted_30 (by decide) ?_
    refine x_dret rfl d_Mo_wasted_36 (Nat.zero_le _) (Nat.zero_le _) ?_
    exact ⟨rfl, rfl, rfl, rfl⟩
end
