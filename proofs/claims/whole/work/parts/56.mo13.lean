/-! the reference: throwing small offcuts away -/
theorem smK_far {R : RS} {r A n : Nat} (hr : r < 12) : smK (clearN R r A n) r A n = smK R r A n := by
  have e : ∀ x, x < 3 → oc (clearN R r A n) n x = oc R n x := fun x hx => clearN_ne n _ (by omega) (by omega)
  unfold smK kp oe smB
  rw [e 0 (by omega), e 1 (by omega), e 2 (by omega)]
section
variable {l : Launch} {g : XG} {sh : Nat → Sh} {mem : Mem} {μ : Nat} {G : GS}
theorem ct_Mo_clear (hM : LayMo sh μ) (hC : MR mem μ G) {r A : Int32} : Ct l g M_Mo_clear [rf g μ, .int r, .int A] none sh mem (Ri none sh (MP μ mem (spClear G r A))) := by
  obtain ⟨hI, hn, hh, ht, hs⟩ := id hC
  have h12 := hI.1.1
  have h300 := hI.1.2.1
  refine x_begin rfl rfl rfl (by decide) rfl ?_
  refine x_aload_n d_Mo_clear_0 rfl ?_
  refine x_iload_n d_Mo_clear_1 rfl ?_
  refine x_v1p d_Mo_clear_2 ml_Mo_142 v_Mo_isRoll rfl ⟨rfl, rfl⟩ hM.io (Nat.le_of_ble_eq_true rfl) (ct_Mo_isRoll hM hn h12) ?_
  refine x_if_ne (tgt := 10) d_Mo_clear_5 (by decide) (fun c5 => ?_) (fun c5 => ?_)
  · have hr0 := bI_n.mp c5
    rw [show spClear G r A = if inI A 1 9999 then (if cnt (smK G.1 (tN r) (tN A)) (G.1 1) = 0 then (-5, G) else (nI (cnt (smK G.1 (tN r) (tN A)) (G.1 1)), actG G (clearS G.1 (tN r) (tN A)))) else (-2, G) from if_pos hr0]
    obtain ⟨r, hr, rfl⟩ := hasI_of (by omega) hr0
    rw [tN_nI (by omega)]
    refine x_iload_n d_Mo_clear_10 rfl ?_
    refine x_iconst (v := nI 1) d_Mo_clear_11 (by decide) ?_
    refine x_sipush (v := nI 9999) d_Mo_clear_12 (by decide) ?_
    refine x_s3p d_Mo_clear_15 ml_Mo_35 v_Mo_in rfl ⟨rfl, rfl⟩ rfl (Nat.le_of_ble_eq_true rfl) (ct_Mo_in) ?_
    refine x_if_ne (tgt := 24) d_Mo_clear_18 (by decide) (fun c18 => ?_) (fun c18 => ?_)
    · have hA0 := bI_n.mp c18
      rw [if_pos hA0]
      obtain ⟨A, hA, rfl⟩ := inI_of (by omega) (by omega) hA0
      rw [tN_nI (by omega)]
      have hcl := cnt_le (smK G.1 r A) (G.1 1)
      refine x_iconst (v := nI 0) d_Mo_clear_24 (by decide) ?_
      refine x_istore_n d_Mo_clear_25 (by decide) ?_
      refine x_iconst (v := nI 0) d_Mo_clear_26 (by decide) ?_
      refine x_istore d_Mo_clear_27 (by decide) ?_
      refine up_ind (G.1 1) (P := fun j => X l g M_Mo_clear (XF g (Ri none sh (MP μ mem (if cnt (smK G.1 r A) (G.1 1) = 0 then (-5, G) else (nI (cnt (smK G.1 r A) (G.1 1)), actG G (clearS G.1 r A))))) M_Mo_clear) 29 [some (rf g μ), some (.int (nI r)), some (.int (nI A)), some (.int (nI (cnt (smK G.1 r A) j))), some (.int (nI j))] [] none sh mem 0 0) (fun j hj ih => ?_) 0 (Nat.zero_le _)
      refine x_iload d_Mo_clear_29 rfl ?_
      refine x_aload_n d_Mo_clear_31 rfl ?_
      refine x_getR hM.f0 rfl fs_Mo_7 d_Mo_clear_32 ?_
      refine x_iconst (v := nI 1) d_Mo_clear_35 (by decide) ?_
      refine x_iald hM.f1 (vp_in_nI (by omega) (by omega)) d_Mo_clear_36 ?_
      rw [nI_clamp (by omega), hn _ (by omega)]
      refine x_icmp_ge (tgt := 65) d_Mo_clear_37 (by decide) (fun c37 => ?_) (fun c37 => ?_)
      · have hj2 : j = G.1 1 := by have := nI_le' (by omega) (by omega) c37; omega
        rw [hj2]
        refine x_iload_n d_Mo_clear_65 rfl ?_
        refine x_if_ne (tgt := 72) d_Mo_clear_66 (by decide) (fun c66 => ?_) (fun c66 => ?_)
        · have c66 : cnt (smK G.1 r A) (G.1 1) ≠ 0 := fun z => c66 (by rw [z]; rfl)
          rw [if_neg c66]
          refine x_aload_n d_Mo_clear_72 rfl ?_
          refine x_v0v d_Mo_clear_73 ml_Mo_126 v_Mo_record rfl ⟨rfl, rfl⟩ hM.io (Nat.le_of_ble_eq_true rfl) (ct_Mo_record hM hn hI hh) (fun mem73 h73 => ?_)
          obtain ⟨f73, g73, hh73⟩ := h73
          have n73 : NowR mem73 (μ + 1) G.1 := hn.mv (f73 _ (by omega) (by omega))
          refine x_iconst (v := nI 0) d_Mo_clear_76 (by decide) ?_
          refine x_istore d_Mo_clear_77 (by decide) ?_
          refine up_ind (G.1 1) (P := fun j => ∀ (m : Mem), NowR m (μ + 1) (clearN G.1 r A j) → F1 μ mem73 m → X l g M_Mo_clear (XF g (Ri none sh (MP μ mem (nI (cnt (smK G.1 r A) (G.1 1)), actG G (clearS G.1 r A)))) M_Mo_clear) 79 [some (rf g μ), some (.int (nI r)), some (.int (nI A)), some (.int (nI (cnt (smK G.1 r A) (G.1 1)))), some (.int (nI j))] [] none sh m 0 0) (fun j hj ih m hnm hF => ?_) 0 (Nat.zero_le _) mem73 n73 F1.rf
          have e1 : clearN G.1 r A j 1 = G.1 1 := clearN_ne j 1 (by omega) (by omega)
          have e0 : clearN G.1 r A j 0 = G.1 0 := clearN_ne j 0 (by omega) (by omega)
          have hO := clearN_off (A := A) (show r < 12 by omega) hI.off j hj
          refine x_iload d_Mo_clear_79 rfl ?_
          refine x_aload_n d_Mo_clear_81 rfl ?_
          refine x_getR hM.f0 rfl fs_Mo_7 d_Mo_clear_82 ?_
          refine x_iconst (v := nI 1) d_Mo_clear_85 (by decide) ?_
          refine x_iald hM.f1 (vp_in_nI (by omega) (by omega)) d_Mo_clear_86 ?_
          rw [nI_clamp (by omega), hnm _ (by omega), e1]
          refine x_icmp_ge (tgt := 125) d_Mo_clear_87 (by decide) (fun c87 => ?_) (fun c87 => ?_)
          · have hj2 : j = G.1 1 := by have := nI_le' (by omega) (by omega) c87; omega
            rw [hj2] at hnm
            refine x_iload_n d_Mo_clear_125 rfl ?_
            refine x_iret rfl rfl d_Mo_clear_126 (Nat.zero_le _) (Nat.zero_le _) ?_
            exact ⟨_, rfl, rfl, rfl, rfl, hC.acted f73 g73 hh73 hF.fn (clearS_inv hI hr) hnm⟩
          · have hj2 := nI_nle' (by omega) (by omega) c87
            refine x_aload_n d_Mo_clear_90 rfl ?_
            refine x_iload d_Mo_clear_91 rfl ?_
            refine x_iload_n d_Mo_clear_93 rfl ?_
            refine x_iload_n d_Mo_clear_94 rfl ?_
            refine x_v3p d_Mo_clear_95 ml_Mo_169 v_Mo_isBelow rfl ⟨rfl, rfl⟩ hM.io (Nat.le_of_ble_eq_true rfl) (ct_Mo_isBelow hM hnm hO (by omega) (by omega) (by omega) (by omega)) ?_
            rw [smK_far (by omega)]
            refine x_if_eq (tgt := 119) d_Mo_clear_98 (by decide) (fun c98 => ?_) (fun c98 => ?_)
            · have hk : ¬ smK G.1 r A j = true := bI_0.mp c98
              refine x_iinc d_Mo_clear_119 rfl (by first | exact inc1 _ | rfl) (by decide) ?_
              refine x_goto (tgt := 79) d_Mo_clear_122 (by decide) ?_
              exact ih hj2 _ (by rw [clearN, if_neg hk]; exact hnm) hF
            · have hk := bI_n.mp c98
              have eA : oA (clearN G.1 r A j) j = oc G.1 j 1 * oc G.1 j 2 := by
                have e : ∀ x, x < 3 → oc (clearN G.1 r A j) j x = oc G.1 j x := fun x hx => clearN_ne j _ (by omega) (by omega)
                unfold oA
                rw [e 1 (by omega), e 2 (by omega)]
              refine x_aload_n d_Mo_clear_101 rfl ?_
              refine x_iload_n d_Mo_clear_102 rfl ?_
              refine x_iconst (v := nI 5) d_Mo_clear_103 (by decide) ?_
              refine x_aload_n d_Mo_clear_104 rfl ?_
              refine x_iload d_Mo_clear_105 rfl ?_
              refine x_v1p d_Mo_clear_107 ml_Mo_71 v_Mo_areaOf rfl ⟨rfl, rfl⟩ hM.io (Nat.le_of_ble_eq_true rfl) (ct_Mo_areaOf hM hnm (by omega)) ?_
              rw [eA]
              refine x_v3v d_Mo_clear_110 ml_Mo_50 v_Mo_add rfl ⟨rfl, rfl⟩ hM.io (Nat.le_of_ble_eq_true rfl) (ct_Mo_add hM hnm (by omega) (by omega)) (fun _ hE => ?_)
              subst hE
              rw [nI_add]
              refine x_aload_n d_Mo_clear_113 rfl ?_
              refine x_iload d_Mo_clear_114 rfl ?_
              refine x_v1v d_Mo_clear_116 ml_Mo_109 v_Mo_drop rfl ⟨rfl, rfl⟩ hM.io (Nat.le_of_ble_eq_true rfl) (ct_Mo_drop hM (by omega)) (fun _ hE => ?_)
              subst hE
              refine x_iinc d_Mo_clear_119 rfl (by first | exact inc1 _ | rfl) (by decide) ?_
              refine x_goto (tgt := 79) d_Mo_clear_122 (by decide) ?_
              exact ih hj2 _ (by rw [clearN, if_pos hk]; exact (hnm.up rfl).up rfl) (hF.tr (F1.um.tr F1.um))
        · have c66 := nI_eq' (b := 0) (by omega) (by omega) c66
          rw [if_pos c66]
          refine x_bipush (v := -5) d_Mo_clear_69 (by decide) ?_
          refine x_iret rfl rfl d_Mo_clear_71 (Nat.zero_le _) (Nat.zero_le _) ?_
          exact ⟨_, rfl, rfl, rfl, rfl, hC, Fr.rf⟩
      · have hj2 := nI_nle' (by omega) (by omega) c37
        have h9 := ih hj2
        refine x_iload_n d_Mo_clear_40 rfl ?_
        refine x_aload_n d_Mo_clear_41 rfl ?_
        refine x_iload d_Mo_clear_42 rfl ?_
        refine x_iload_n d_Mo_clear_44 rfl ?_
        refine x_iload_n d_Mo_clear_45 rfl ?_
        refine x_v3p d_Mo_clear_46 ml_Mo_169 v_Mo_isBelow rfl ⟨rfl, rfl⟩ hM.io (Nat.le_of_ble_eq_true rfl) (ct_Mo_isBelow hM hn hI.off h12 hj2 (by omega) (by omega)) ?_
        refine x_if_eq (tgt := 56) d_Mo_clear_49 (by decide) (fun c49 => ?_) (fun c49 => ?_)
        · have hk : smK G.1 r A j = false := by simpa using bI_0.mp c49
          rw [cnt_f hk] at h9
          refine x_iconst (v := nI 0) d_Mo_clear_56 (by decide) ?_
          refine x_iadd d_Mo_clear_57 ?_
          rw [nI_add]
          refine x_istore_n d_Mo_clear_58 (by decide) ?_
          refine x_iinc d_Mo_clear_59 rfl (by first | exact inc1 _ | rfl) (by decide) ?_
          refine x_goto (tgt := 29) d_Mo_clear_62 (by decide) ?_
          exact h9
        · rw [cnt_t (bI_n.mp c49)] at h9
          refine x_iconst (v := nI 1) d_Mo_clear_52 (by decide) ?_
          refine x_goto (tgt := 57) d_Mo_clear_53 (by decide) ?_
          refine x_iadd d_Mo_clear_57 ?_
          rw [nI_add]
          refine x_istore_n d_Mo_clear_58 (by decide) ?_
          refine x_iinc d_Mo_clear_59 rfl (by first | exact inc1 _ | rfl) (by decide) ?_
          refine x_goto (tgt := 29) d_Mo_clear_62 (by decide) ?_
          exact h9
    · rw [if_neg (bI_0.mp c18)]
      refine x_bipush (v := -2) d_Mo_clear_21 (by decide) ?_
      refine x_iret rfl rfl d_Mo_clear_23 (Nat.zero_le _) (Nat.zero_le _) ?_
      exact ⟨_, rfl, rfl, rfl, rfl, hC, Fr.rf⟩
  · rw [show spClear G r A = (-1, G) from if_neg (bI_0.mp c5)]
    refine x_iconst (v := -1) d_Mo_clear_8 (by decide) ?_
    refine x_iret rfl rfl d_Mo_clear_9 (Nat.zero_le _) (Nat.zero_le _) ?_
    exact ⟨_, rfl, rfl, rfl, rfl, hC, Fr.rf⟩
end
