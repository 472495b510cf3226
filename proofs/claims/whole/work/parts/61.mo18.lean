/-! the reference: a strip is told -/
section
variable {l : Launch} {g : XG} {sh : Nat → Sh} {mem : Mem} {μ : Nat} {G : GS}
theorem ct_Mo_strip (hM : LayMo sh μ) (hC : MR mem μ G) {i s w : Int32} : Ct l g M_Mo_strip [rf g μ, .int i, .int s, .int w] none sh mem (Ri none sh (MP μ mem (vStrip G.1 i s w, G))) := by
  obtain ⟨hI, hn, hh, ht, hs⟩ := id hC
  have h20 := hI.1.2.2
  refine x_begin rfl rfl rfl (by decide) rfl ?_
  refine x_aload_n d_Mo_strip_0 rfl ?_
  refine x_iload_n d_Mo_strip_1 rfl ?_
  refine x_v1p d_Mo_strip_2 ml_Mo_139 v_Mo_isRoom rfl ⟨rfl, rfl⟩ hM.io (Nat.le_of_ble_eq_true rfl) (ct_Mo_isRoom hM hn h20) ?_
  refine x_if_ne (tgt := 10) d_Mo_strip_5 (by decide) (fun c5 => ?_) (fun c5 => ?_)
  · have hi0 := bI_n.mp c5
    rw [show vStrip G.1 i s w = if ¬ s < 0 ∧ inI w 0 2 then (if rq G.1 (tN i) 8 = 1 ∧ s < nI (covN G.1 (tN i) 6) then nI (stripN G.1 (tN i) (tN s) (tN w)) else -5) else -2 from if_pos hi0]
    obtain ⟨i, hi, rfl⟩ := hasI_of (by omega) hi0
    rw [tN_nI (by omega)]
    obtain ⟨k1, k2, k3⟩ := hI.2.2.2.2.1 i hi
    refine x_iload_n d_Mo_strip_10 rfl ?_
    refine x_if_lt (tgt := 23) d_Mo_strip_11 (by decide) (fun c11 => ?_) (fun c11 => ?_)
    · rw [if_neg (fun z => z.1 c11)]
      refine x_bipush (v := -2) d_Mo_strip_23 (by decide) ?_
      refine x_iret rfl rfl d_Mo_strip_25 (Nat.zero_le _) (Nat.zero_le _) ?_
      exact ⟨_, rfl, rfl, rfl, rfl, hC, Fr.rf⟩
    · refine x_iload_n d_Mo_strip_14 rfl ?_
      refine x_iconst (v := nI 0) d_Mo_strip_15 (by decide) ?_
      refine x_iconst (v := nI 2) d_Mo_strip_16 (by decide) ?_
      refine x_s3p d_Mo_strip_17 ml_Mo_35 v_Mo_in rfl ⟨rfl, rfl⟩ rfl (Nat.le_of_ble_eq_true rfl) (ct_Mo_in) ?_
      refine x_if_ne (tgt := 26) d_Mo_strip_20 (by decide) (fun c20 => ?_) (fun c20 => ?_)
      · have hw0 := bI_n.mp c20
        rw [if_pos ⟨c11, hw0⟩]
        obtain ⟨w, hw, rfl⟩ := inI_of (by omega) (by omega) hw0
        obtain ⟨s, hs0, rfl⟩ := nI_of c11
        rw [tN_nI (n := w) (by omega), tN_nI hs0]
        refine x_aload_n d_Mo_strip_26 rfl ?_
        refine x_iload_n d_Mo_strip_27 rfl ?_
        refine x_bipush (v := nI 8) d_Mo_strip_28 (by decide) ?_
        refine x_v2p d_Mo_strip_30 ml_Mo_74 v_Mo_at rfl ⟨rfl, rfl⟩ hM.io (Nat.le_of_ble_eq_true rfl) (ct_Mo_at hM hn (by omega) (by omega)) ?_
        refine x_if_eq (tgt := 45) d_Mo_strip_33 (by decide) (fun c33 => ?_) (fun c33 => ?_)
        · have c33 := nI_eq' (b := 0) (by omega) (by omega) c33
          rw [if_neg (fun z => by have := z.1; omega)]
          refine x_bipush (v := -5) d_Mo_strip_45 (by decide) ?_
          refine x_iret rfl rfl d_Mo_strip_47 (Nat.zero_le _) (Nat.zero_le _) ?_
          exact ⟨_, rfl, rfl, rfl, rfl, hC, Fr.rf⟩
        · have h8 : rq G.1 i 8 = 1 := by
            have : rq G.1 i 8 ≠ 0 := fun z => c33 (by rw [z]; rfl)
            omega
          obtain ⟨k4, k5⟩ := k3 h8
          have hst := stripsN_le k1 k5 (hI.2.2.1 _ k4).2.1.1
          rw [show covN G.1 i 6 = stripsN (rq G.1 i) (rq G.1 i 10) (ro G.1 (rq G.1 i 9) 1) from rfl]
          refine x_iload_n d_Mo_strip_36 rfl ?_
          refine x_aload_n d_Mo_strip_37 rfl ?_
          refine x_iload_n d_Mo_strip_38 rfl ?_
          refine x_v1p d_Mo_strip_39 ml_Mo_160 v_Mo_stripsOf rfl ⟨rfl, rfl⟩ hM.io (Nat.le_of_ble_eq_true rfl) (ct_Mo_stripsOf hM hI hn hi h8) ?_
          refine x_icmp_lt (tgt := 48) d_Mo_strip_42 (by decide) (fun c42 => ?_) (fun c42 => ?_)
          · have hsl := nI_lt' hs0 (by omega) c42
            rw [if_pos ⟨h8, c42⟩]
            refine x_iload_n d_Mo_strip_48 rfl ?_
            refine x_if_ne (tgt := 61) d_Mo_strip_49 (by decide) (fun c49 => ?_) (fun c49 => ?_)
            · have c49 : w ≠ 0 := fun z => c49 (by rw [z]; rfl)
              refine x_iload_n d_Mo_strip_61 rfl ?_
              refine x_iconst (v := nI 1) d_Mo_strip_62 (by decide) ?_
              refine x_icmp_ne (tgt := 75) d_Mo_strip_63 (by decide) (fun c63 => ?_) (fun c63 => ?_)
              · have c63 := nI_ne' c63
                rw [show stripN G.1 i s w = sc G.1 i s by unfold stripN; rw [if_neg c49, if_neg c63]]
                refine x_aload_n d_Mo_strip_75 rfl ?_
                refine x_getR hM.f0 rfl fs_Mo_7 d_Mo_strip_76 ?_
                refine x_sipush (v := nI 1233) d_Mo_strip_79 (by decide) ?_
                refine x_bipush (v := nI 36) d_Mo_strip_82 (by decide) ?_
                refine x_iload_n d_Mo_strip_84 rfl ?_
                refine x_imul d_Mo_strip_85 ?_
                rw [pk_mul]
                refine x_iadd d_Mo_strip_86 ?_
                rw [nI_add]
                refine x_iload_n d_Mo_strip_87 rfl ?_
                refine x_iadd d_Mo_strip_88 ?_
                rw [nI_add]
                refine x_iald hM.f1 (vp_in_nI (by omega) (by omega)) d_Mo_strip_89 ?_
                rw [nI_clamp (by omega), hn _ (by omega)]
                refine x_iret rfl rfl d_Mo_strip_90 (Nat.zero_le _) (Nat.zero_le _) ?_
                exact ⟨_, rfl, rfl, rfl, rfl, hC, Fr.rf⟩
              · have c63 := nI_eq' (by omega) (by omega) c63
                subst c63
                refine x_aload_n d_Mo_strip_66 rfl ?_
                refine x_iload_n d_Mo_strip_67 rfl ?_
                refine x_iload_n d_Mo_strip_68 rfl ?_
                refine x_v2p d_Mo_strip_69 ml_Mo_166 v_Mo_lengthOfStrip rfl ⟨rfl, rfl⟩ hM.io (Nat.le_of_ble_eq_true rfl) (ct_Mo_lengthOfStrip hM hI hn hi h8 hsl) ?_
                refine x_goto (tgt := 90) d_Mo_strip_72 (by decide) ?_
                refine x_iret rfl rfl d_Mo_strip_90 (Nat.zero_le _) (Nat.zero_le _) ?_
                exact ⟨_, rfl, rfl, rfl, rfl, hC, Fr.rf⟩
            · have c49 := nI_eq' (b := 0) (by omega) (by omega) c49
              subst c49
              refine x_aload_n d_Mo_strip_52 rfl ?_
              refine x_iload_n d_Mo_strip_53 rfl ?_
              refine x_iload_n d_Mo_strip_54 rfl ?_
              refine x_v2p d_Mo_strip_55 ml_Mo_163 v_Mo_widthOfStrip rfl ⟨rfl, rfl⟩ hM.io (Nat.le_of_ble_eq_true rfl) (ct_Mo_widthOfStrip hM hI hn hi h8 hsl) ?_
              refine x_goto (tgt := 90) d_Mo_strip_58 (by decide) ?_
              refine x_iret rfl rfl d_Mo_strip_90 (Nat.zero_le _) (Nat.zero_le _) ?_
              exact ⟨_, rfl, rfl, rfl, rfl, hC, Fr.rf⟩
          · rw [if_neg (fun z => c42 z.2)]
            refine x_bipush (v := -5) d_Mo_strip_45 (by decide) ?_
            refine x_iret rfl rfl d_Mo_strip_47 (Nat.zero_le _) (Nat.zero_le _) ?_
            exact ⟨_, rfl, rfl, rfl, rfl, hC, Fr.rf⟩
      · rw [if_neg (fun z => bI_0.mp c20 z.2)]
        refine x_bipush (v := -2) d_Mo_strip_23 (by decide) ?_
        refine x_iret rfl rfl d_Mo_strip_25 (Nat.zero_le _) (Nat.zero_le _) ?_
        exact ⟨_, rfl, rfl, rfl, rfl, hC, Fr.rf⟩
  · rw [show vStrip G.1 i s w = -1 from if_neg (bI_0.mp c5)]
    refine x_iconst (v := -1) d_Mo_strip_8 (by decide) ?_
    refine x_iret rfl rfl d_Mo_strip_9 (Nat.zero_le _) (Nat.zero_le _) ?_
    exact ⟨_, rfl, rfl, rfl, rfl, hC, Fr.rf⟩
end
