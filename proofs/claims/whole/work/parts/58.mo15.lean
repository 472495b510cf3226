/-! the reference: an offcut is told -/
theorem Inv.roc {R : RS} (hI : Inv R) : ∀ j, j < R 1 → oc R j 0 < 2 ^ 31 := fun j hj => by
  have h12 := hI.1.1
  by_cases h : kp R j = true
  · have := (hI.off.2 j hj h).1; omega
  · have : ¬ 0 < oc R j 0 := fun z => h (decide_eq_true z)
    omega
section
variable {l : Launch} {g : XG} {sh : Nat → Sh} {mem : Mem} {μ : Nat} {G : GS}
theorem ct_Mo_offcut (hM : LayMo sh μ) (hC : MR mem μ G) {x w : Int32} : Ct l g M_Mo_offcut [rf g μ, .int x, .int w] none sh mem (Ri none sh (MP μ mem (vOffcut G.1 x w, G))) := by
  obtain ⟨hI, hn, hh, ht, hs⟩ := id hC
  have h300 := hI.1.2.1
  refine x_begin rfl rfl rfl (by decide) rfl ?_
  refine x_aload_n d_Mo_offcut_0 rfl ?_
  refine x_iload_n d_Mo_offcut_1 rfl ?_
  refine x_v1p d_Mo_offcut_2 ml_Mo_46 v_Mo_isKept rfl ⟨rfl, rfl⟩ hM.io (Nat.le_of_ble_eq_true rfl) (ct_Mo_isKept hM hn h300 hI.roc) ?_
  refine x_if_ne (tgt := 10) d_Mo_offcut_5 (by decide) (fun c5 => ?_) (fun c5 => ?_)
  · have hk := bI_n.mp c5
    rw [show vOffcut G.1 x w = if inI w 0 2 then nI (offN G.1 (tN x) (tN w)) else -2 from if_pos hk]
    obtain ⟨hk0, hk2⟩ := hk
    obtain ⟨k, hk1, rfl⟩ := hasI_of (by omega) hk0
    rw [tN_nI (by omega)] at hk2 ⊢
    refine x_iload_n d_Mo_offcut_10 rfl ?_
    refine x_iconst (v := nI 0) d_Mo_offcut_11 (by decide) ?_
    refine x_iconst (v := nI 2) d_Mo_offcut_12 (by decide) ?_
    refine x_s3p d_Mo_offcut_13 ml_Mo_35 v_Mo_in rfl ⟨rfl, rfl⟩ rfl (Nat.le_of_ble_eq_true rfl) (ct_Mo_in) ?_
    refine x_if_ne (tgt := 22) d_Mo_offcut_16 (by decide) (fun c16 => ?_) (fun c16 => ?_)
    · have hw0 := bI_n.mp c16
      rw [if_pos hw0]
      obtain ⟨w, hw, rfl⟩ := inI_of (by omega) (by omega) hw0
      rw [tN_nI (by omega)]
      refine x_iload_n d_Mo_offcut_22 rfl ?_
      refine x_if_ne (tgt := 34) d_Mo_offcut_23 (by decide) (fun c23 => ?_) (fun c23 => ?_)
      · have c23 : w ≠ 0 := fun z => c23 (by rw [z]; rfl)
        rw [show offN G.1 k w = oc G.1 k w from if_neg c23]
        refine x_aload_n d_Mo_offcut_34 rfl ?_
        refine x_getR hM.f0 rfl fs_Mo_7 d_Mo_offcut_35 ?_
        refine x_bipush (v := nI 93) d_Mo_offcut_38 (by decide) ?_
        refine x_iconst (v := nI 3) d_Mo_offcut_40 (by decide) ?_
        refine x_iload_n d_Mo_offcut_41 rfl ?_
        refine x_imul d_Mo_offcut_42 ?_
        rw [pk_mul]
        refine x_iadd d_Mo_offcut_43 ?_
        rw [nI_add]
        refine x_iload_n d_Mo_offcut_44 rfl ?_
        refine x_iadd d_Mo_offcut_45 ?_
        rw [nI_add]
        refine x_iald hM.f1 (vp_in_nI (by omega) (by omega)) d_Mo_offcut_46 ?_
        rw [nI_clamp (by omega), hn _ (by omega)]
        refine x_iret rfl rfl d_Mo_offcut_47 (Nat.zero_le _) (Nat.zero_le _) ?_
        exact ⟨_, rfl, rfl, rfl, rfl, hC, Fr.rf⟩
      · have c23 := nI_eq' (b := 0) (by omega) (by omega) c23
        rw [show offN G.1 k w = oc G.1 k 0 - 1 from if_pos c23]
        refine x_aload_n d_Mo_offcut_26 rfl ?_
        refine x_iload_n d_Mo_offcut_27 rfl ?_
        refine x_v1p d_Mo_offcut_28 ml_Mo_68 v_Mo_rollOfOffcut rfl ⟨rfl, rfl⟩ hM.io (Nat.le_of_ble_eq_true rfl) (ct_Mo_rollOfOffcut hM hn (by omega) hk2) ?_
        refine x_goto (tgt := 47) d_Mo_offcut_31 (by decide) ?_
        refine x_iret rfl rfl d_Mo_offcut_47 (Nat.zero_le _) (Nat.zero_le _) ?_
        exact ⟨_, rfl, rfl, rfl, rfl, hC, Fr.rf⟩
    · rw [if_neg (bI_0.mp c16)]
      refine x_bipush (v := -2) d_Mo_offcut_19 (by decide) ?_
      refine x_iret rfl rfl d_Mo_offcut_21 (Nat.zero_le _) (Nat.zero_le _) ?_
      exact ⟨_, rfl, rfl, rfl, rfl, hC, Fr.rf⟩
  · rw [show vOffcut G.1 x w = -1 from if_neg (bI_0.mp c5)]
    refine x_iconst (v := -1) d_Mo_offcut_8 (by decide) ?_
    refine x_iret rfl rfl d_Mo_offcut_9 (Nat.zero_le _) (Nat.zero_le _) ?_
    exact ⟨_, rfl, rfl, rfl, rfl, hC, Fr.rf⟩
end
