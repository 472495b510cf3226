/-! the reference: what lies of a roll, the waste of all, an offcut -/
section
variable {l : Launch} {g : XG} {sh : Nat → Sh} {mem : Mem} {μ : Nat} {R : RS}
theorem ct_Mo_wasteOfAll (hM : LayMo sh μ) (hn : NowR mem (μ + 1) R) (h12 : R 0 ≤ 12) : Ct l g M_Mo_wasteOfAll [rf g μ] none sh mem (Pq (.int (nI (sN (fun r => ro R r 5) (R 0)))) none sh mem) := by
  refine x_begin rfl rfl rfl (by decide) rfl ?_
  refine x_iconst (v := nI 0) d_Mo_wasteOfAll_0 (by decide) ?_
  refine x_istore_n d_Mo_wasteOfAll_1 (by decide) ?_
  refine x_iconst (v := nI 0) d_Mo_wasteOfAll_2 (by decide) ?_
  refine x_istore_n d_Mo_wasteOfAll_3 (by decide) ?_
  refine up_ind (R 0) (P := fun k => X l g M_Mo_wasteOfAll (XF g (Pq (.int (nI (sN (fun r => ro R r 5) (R 0)))) none sh mem) M_Mo_wasteOfAll) 4 [some (rf g μ), some (.int (nI (sN (fun r => ro R r 5) k))), some (.int (nI k))] [] none sh mem 0 0) (fun k hk ih => ?_) 0 (Nat.zero_le _)
  refine x_iload_n d_Mo_wasteOfAll_4 rfl ?_
  refine x_aload_n d_Mo_wasteOfAll_5 rfl ?_
  refine x_getR hM.f0 rfl fs_Mo_7 d_Mo_wasteOfAll_6 ?_
  refine x_iconst (v := nI 0) d_Mo_wasteOfAll_9 (by decide) ?_
  refine x_iald hM.f1 (vp_in_nI (by omega) (by omega)) d_Mo_wasteOfAll_10 ?_
  rw [nI_clamp (by omega), hn _ (by omega)]
  refine x_icmp_ge (tgt := 29) d_Mo_wasteOfAll_11 (by decide) (fun c11 => ?_) (fun c11 => ?_)
  · have hk2 : k = R 0 := by have := nI_le' (by omega) (by omega) c11; omega
    rw [hk2]
    refine x_iload_n d_Mo_wasteOfAll_29 rfl ?_
    refine x_iret rfl rfl d_Mo_wasteOfAll_30 (Nat.zero_le _) (Nat.zero_le _) ?_
    exact ⟨rfl, rfl, rfl, rfl⟩
  · have hk2 := nI_nle' (by omega) (by omega) c11
    refine x_iload_n d_Mo_wasteOfAll_14 rfl ?_
    refine x_aload_n d_Mo_wasteOfAll_15 rfl ?_
    refine x_iload_n d_Mo_wasteOfAll_16 rfl ?_
    refine x_iconst (v := nI 5) d_Mo_wasteOfAll_17 (by decide) ?_
    refine x_v2p d_Mo_wasteOfAll_18 ml_Mo_90 v_Mo_of rfl ⟨rfl, rfl⟩ hM.io (Nat.le_of_ble_eq_true rfl) (ct_Mo_of hM hn (by omega) (by omega)) ?_
    refine x_iadd d_Mo_wasteOfAll_21 ?_
    rw [nI_add]
    refine x_istore_n d_Mo_wasteOfAll_22 (by decide) ?_
    refine x_iinc d_Mo_wasteOfAll_23 rfl (by first | exact inc1 _ | rfl) (by decide) ?_
    refine x_goto (tgt := 4) d_Mo_wasteOfAll_26 (by decide) ?_
    exact ih hk2
theorem ct_Mo_laid (hM : LayMo sh μ) (hI : Inv R) (hn : NowR mem (μ + 1) R) {r : Nat} (hr : r < 12) : Ct l g M_Mo_laid [rf g μ, .int (nI r)] none sh mem (Pq (.int (nI (laidN R r))) none sh mem) := by
  have h12 := hI.1.1
  have h20 := hI.1.2.2
  refine x_begin rfl rfl rfl (by decide) rfl ?_
  refine x_iconst (v := nI 0) d_Mo_laid_0 (by decide) ?_
  refine x_istore_n d_Mo_laid_1 (by decide) ?_
  refine x_iconst (v := nI 0) d_Mo_laid_2 (by decide) ?_
  refine x_istore_n d_Mo_laid_3 (by decide) ?_
  refine up_ind (R 2) (P := fun k => X l g M_Mo_laid (XF g (Pq (.int (nI (laidN R r))) none sh mem) M_Mo_laid) 4 [some (rf g μ), some (.int (nI r)), some (.int (nI (sN (fun i => if rq R i 8 = 1 ∧ rq R i 9 = r then areaN (rq R i) else 0) k))), some (.int (nI k))] [] none sh mem 0 0) (fun k hk ih => ?_) 0 (Nat.zero_le _)
  refine x_iload_n d_Mo_laid_4 rfl ?_
  refine x_aload_n d_Mo_laid_5 rfl ?_
  refine x_getR hM.f0 rfl fs_Mo_7 d_Mo_laid_6 ?_
  refine x_iconst (v := nI 2) d_Mo_laid_9 (by decide) ?_
  refine x_iald hM.f1 (vp_in_nI (by omega) (by omega)) d_Mo_laid_10 ?_
  rw [nI_clamp (by omega), hn _ (by omega)]
  refine x_icmp_ge (tgt := 54) d_Mo_laid_11 (by decide) (fun c11 => ?_) (fun c11 => ?_)
  · have hk2 : k = R 2 := by have := nI_le' (by omega) (by omega) c11; omega
    rw [hk2]
    refine x_iload_n d_Mo_laid_54 rfl ?_
    refine x_iret rfl rfl d_Mo_laid_55 (Nat.zero_le _) (Nat.zero_le _) ?_
    exact ⟨rfl, rfl, rfl, rfl⟩
  · have hk2 := nI_nle' (by omega) (by omega) c11
    obtain ⟨k1, k2, k3⟩ := hI.2.2.2.2.1 k hk2
    have h9 := ih hk2
    rw [sN] at h9
    refine x_iload_n d_Mo_laid_14 rfl ?_
    refine x_aload_n d_Mo_laid_15 rfl ?_
    refine x_iload_n d_Mo_laid_16 rfl ?_
    refine x_bipush (v := nI 8) d_Mo_laid_17 (by decide) ?_
    refine x_v2p d_Mo_laid_19 ml_Mo_74 v_Mo_at rfl ⟨rfl, rfl⟩ hM.io (Nat.le_of_ble_eq_true rfl) (ct_Mo_at hM hn (by omega) (by omega)) ?_
    refine x_iconst (v := nI 1) d_Mo_laid_22 (by decide) ?_
    refine x_icmp_ne (tgt := 45) d_Mo_laid_23 (by decide) (fun c23 => ?_) (fun c23 => ?_)
    · have c23 := nI_ne' c23
      rw [if_neg (fun z => c23 z.1)] at h9
      refine x_iconst (v := nI 0) d_Mo_laid_45 (by decide) ?_
      refine x_iadd d_Mo_laid_46 ?_
      rw [nI_add]
      refine x_istore_n d_Mo_laid_47 (by decide) ?_
      refine x_iinc d_Mo_laid_48 rfl (by first | exact inc1 _ | rfl) (by decide) ?_
      refine x_goto (tgt := 4) d_Mo_laid_51 (by decide) ?_
      exact h9
    · have c23 := nI_eq' (by omega) (by omega) c23
      have hby := (k3 c23).1
      refine x_aload_n d_Mo_laid_26 rfl ?_
      refine x_iload_n d_Mo_laid_27 rfl ?_
      refine x_bipush (v := nI 9) d_Mo_laid_28 (by decide) ?_
      refine x_v2p d_Mo_laid_30 ml_Mo_74 v_Mo_at rfl ⟨rfl, rfl⟩ hM.io (Nat.le_of_ble_eq_true rfl) (ct_Mo_at hM hn (by omega) (by omega)) ?_
      refine x_iload_n d_Mo_laid_33 rfl ?_
      refine x_icmp_ne (tgt := 45) d_Mo_laid_34 (by decide) (fun c34 => ?_) (fun c34 => ?_)
      · have c34 := nI_ne' c34
        rw [if_neg (fun z => c34 z.2)] at h9
        refine x_iconst (v := nI 0) d_Mo_laid_45 (by decide) ?_
        refine x_iadd d_Mo_laid_46 ?_
        rw [nI_add]
        refine x_istore_n d_Mo_laid_47 (by decide) ?_
        refine x_iinc d_Mo_laid_48 rfl (by first | exact inc1 _ | rfl) (by decide) ?_
        refine x_goto (tgt := 4) d_Mo_laid_51 (by decide) ?_
        exact h9
      · have c34 := nI_eq' (by omega) (by omega) c34
        rw [if_pos ⟨c23, c34⟩] at h9
        refine x_aload_n d_Mo_laid_37 rfl ?_
        refine x_iload_n d_Mo_laid_38 rfl ?_
        refine x_v1p d_Mo_laid_39 ml_Mo_117 v_Mo_area rfl ⟨rfl, rfl⟩ hM.io (Nat.le_of_ble_eq_true rfl) (ct_Mo_area hM hn (by omega) k1) ?_
        refine x_goto (tgt := 46) d_Mo_laid_42 (by decide) ?_
        refine x_iadd d_Mo_laid_46 ?_
        rw [nI_add]
        refine x_istore_n d_Mo_laid_47 (by decide) ?_
        refine x_iinc d_Mo_laid_48 rfl (by first | exact inc1 _ | rfl) (by decide) ?_
        refine x_goto (tgt := 4) d_Mo_laid_51 (by decide) ?_
        exact h9
end
