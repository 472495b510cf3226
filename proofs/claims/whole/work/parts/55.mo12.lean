/-! the reference: taking up -/
section
variable {l : Launch} {g : XG} {sh : Nat → Sh} {mem : Mem} {μ : Nat} {G : GS}
theorem ct_Mo_takeUp (hM : LayMo sh μ) (hC : MR mem μ G) {i : Int32} : Ct l g M_Mo_takeUp [rf g μ, .int i] none sh mem (Ri none sh (MP μ mem (spTakeUp G i))) := by
  obtain ⟨hI, hn, hh, ht, hs⟩ := id hC
  have h12 := hI.1.1
  have h20 := hI.1.2.2
  refine x_begin rfl rfl rfl (by decide) rfl ?_
  refine x_aload_n d_Mo_takeUp_0 rfl ?_
  refine x_iload_n d_Mo_takeUp_1 rfl ?_
  refine x_v1p d_Mo_takeUp_2 ml_Mo_139 v_Mo_isRoom rfl ⟨rfl, rfl⟩ hM.io (Nat.le_of_ble_eq_true rfl) (ct_Mo_isRoom hM hn h20) ?_
  refine x_if_ne (tgt := 10) d_Mo_takeUp_5 (by decide) (fun c5 => ?_) (fun c5 => ?_)
  · have hi0 := bI_n.mp c5
    rw [show spTakeUp G i = if rq G.1 (tN i) 8 = 1 then (nI (liftS G.1 (tN i)).2, actG G (liftS G.1 (tN i)).1) else (-5, G) from if_pos hi0]
    obtain ⟨i, hi, rfl⟩ := hasI_of (by omega) hi0
    rw [tN_nI (by omega)]
    obtain ⟨k1, k2, k3⟩ := hI.2.2.2.2.1 i hi
    refine x_aload_n d_Mo_takeUp_10 rfl ?_
    refine x_iload_n d_Mo_takeUp_11 rfl ?_
    refine x_bipush (v := nI 8) d_Mo_takeUp_12 (by decide) ?_
    refine x_v2p d_Mo_takeUp_14 ml_Mo_74 v_Mo_at rfl ⟨rfl, rfl⟩ hM.io (Nat.le_of_ble_eq_true rfl) (ct_Mo_at hM hn (by omega) (by omega)) ?_
    refine x_if_ne (tgt := 23) d_Mo_takeUp_17 (by decide) (fun c17 => ?_) (fun c17 => ?_)
    · have h8 : rq G.1 i 8 = 1 := by
        have : rq G.1 i 8 ≠ 0 := fun z => c17 (by rw [z]; rfl)
        omega
      rw [if_pos h8]
      obtain ⟨k4, k5⟩ := k3 h8
      obtain ⟨v1, v2, v3, v4, v5⟩ := hI.2.2.1 _ k4
      have h36 := stripsN_le k1 k5 v2.1
      refine x_aload_n d_Mo_takeUp_23 rfl ?_
      refine x_v0v d_Mo_takeUp_24 ml_Mo_126 v_Mo_record rfl ⟨rfl, rfl⟩ hM.io (Nat.le_of_ble_eq_true rfl) (ct_Mo_record hM hn hI hh) (fun mem24 h24 => ?_)
      obtain ⟨f24, g24, hh24⟩ := h24
      have n24 : NowR mem24 (μ + 1) G.1 := hn.mv (f24 _ (by omega) (by omega))
      refine x_iconst (v := nI 0) d_Mo_takeUp_27 (by decide) ?_
      refine x_istore_n d_Mo_takeUp_28 (by decide) ?_
      refine x_aload_n d_Mo_takeUp_29 rfl ?_
      refine x_iload_n d_Mo_takeUp_30 rfl ?_
      refine x_v1p d_Mo_takeUp_31 ml_Mo_160 v_Mo_stripsOf rfl ⟨rfl, rfl⟩ hM.io (Nat.le_of_ble_eq_true rfl) (ct_Mo_stripsOf hM hI n24 hi h8) ?_
      refine x_istore_n d_Mo_takeUp_34 (by decide) ?_
      refine x_aload_n d_Mo_takeUp_35 rfl ?_
      refine x_iload_n d_Mo_takeUp_36 rfl ?_
      refine x_bipush (v := nI 9) d_Mo_takeUp_37 (by decide) ?_
      refine x_v2p d_Mo_takeUp_39 ml_Mo_74 v_Mo_at rfl ⟨rfl, rfl⟩ hM.io (Nat.le_of_ble_eq_true rfl) (ct_Mo_at hM n24 (by omega) (by omega)) ?_
      refine x_istore d_Mo_takeUp_42 (by decide) ?_
      refine x_iconst (v := nI 0) d_Mo_takeUp_44 (by decide) ?_
      refine x_istore d_Mo_takeUp_45 (by decide) ?_
      generalize hr : rq G.1 i 9 = r at *
      have hr12 : r < 12 := by omega
      have hInv : ∀ R' : RS, OffOk R' → (∀ x, x ≠ 1 → x ≠ 9 + 7 * r + 5 → (x < 93 ∨ 993 ≤ x) → R' x = G.1 x) → Inv R' := fun R' hO hx => hI.of hO (hx 0 (by omega) (by omega) (by omega)) (hx 2 (by omega) (by omega) (by omega)) (fun j h1 h2 => hx j (by omega) (by omega) (by omega)) (fun r' f h1 h2 h3 h4 h5 => hx _ (by omega) (by omega) (by omega)) (fun r' h => Nat.le_of_eq (hx _ (by omega) (by omega) (by omega))) (fun r' f h1 h2 h3 => hx _ (by omega) (by omega) (by omega)) (fun i' hi' => Or.inl (rq_cong (fun w hw => hx _ (by omega) (by omega) (by omega))))
      refine up_ind (stripsN (rq G.1 i) (rq G.1 i 10) (ro G.1 r 1)) (P := fun j => ∀ (m : Mem) (R' : RS) (n : Nat), NowR m (μ + 1) R' → F1 μ mem24 m → OffOk R' → (∀ x, x ≠ 1 → x ≠ 9 + 7 * r + 5 → (x < 93 ∨ 993 ≤ x) → R' x = G.1 x) → liftL r ((SL (rq G.1 i) (rq G.1 i 10) (ro G.1 r 1)).drop j) R' n = liftL r (SL (rq G.1 i) (rq G.1 i 10) (ro G.1 r 1)) G.1 0 → X l g M_Mo_takeUp (XF g (Ri none sh (MP μ mem (nI (liftS G.1 i).2, actG G (liftS G.1 i).1))) M_Mo_takeUp) 47 [some (rf g μ), some (.int (nI i)), some (.int (nI n)), some (.int (nI (stripsN (rq G.1 i) (rq G.1 i 10) (ro G.1 r 1)))), some (.int (nI r)), some (.int (nI j))] [] none sh m 0 0) (fun j hj ih m R' n hnm hF hO hx hL => ?_) 0 (Nat.zero_le _) mem24 G.1 0 n24 F1.rf hI.off (fun _ _ _ _ => rfl) rfl
      have hIj := hInv R' hO hx
      have hrq : rq R' i = rq G.1 i := rq_cong (fun w hw => hx _ (by omega) (by omega) (by omega))
      have hro : ro R' r 1 = ro G.1 r 1 := hx _ (by omega) (by omega) (by omega)
      have h2R : R' 2 = G.1 2 := hx 2 (by omega) (by omega) (by omega)
      have hroc : ∀ j, j < R' 1 → oc R' j 0 < 2 ^ 31 := fun j hj => by
        have h0 : R' 0 = G.1 0 := hx 0 (by omega) (by omega) (by omega)
        by_cases h : kp R' j = true
        · have := (hO.2 j hj h).1; omega
        · have : ¬ 0 < oc R' j 0 := fun z => h (decide_eq_true z)
          omega
      have h300 := hO.1
      have hnk : nK R' ≤ 300 := by rw [nK_cnt]; exact Nat.le_trans (cnt_le _ _) h300
      refine x_iload d_Mo_takeUp_47 rfl ?_
      refine x_iload_n d_Mo_takeUp_49 rfl ?_
      refine x_icmp_ge (tgt := 128) d_Mo_takeUp_50 (by decide) (fun c50 => ?_) (fun c50 => ?_)
      · have hj2 : j = stripsN (rq G.1 i) (rq G.1 i 10) (ro G.1 r 1) := by have := nI_le' (by omega) (by omega) c50; omega
        rw [hj2, ← SL_len, List.drop_length] at hL
        refine x_aload_n d_Mo_takeUp_128 rfl ?_
        refine x_iload_n d_Mo_takeUp_129 rfl ?_
        refine x_bipush (v := nI 8) d_Mo_takeUp_130 (by decide) ?_
        refine x_iconst (v := nI 0) d_Mo_takeUp_132 (by decide) ?_
        refine x_v3v d_Mo_takeUp_133 ml_Mo_123 v_Mo_put rfl ⟨rfl, rfl⟩ hM.io (Nat.le_of_ble_eq_true rfl) (ct_Mo_put hM (by omega) (by omega)) (fun _ hE => ?_)
        subst hE
        refine x_iload_n d_Mo_takeUp_136 rfl ?_
        refine x_iret rfl rfl d_Mo_takeUp_137 (Nat.zero_le _) (Nat.zero_le _) ?_
        have hlS : liftS G.1 i = (bareR R' i, n) := by
          unfold liftS
          rw [hr, ← hL]
          rfl
        have hI2 := liftS_inv hI hi h8
        rw [hlS] at hI2 ⊢
        exact ⟨_, rfl, rfl, rfl, rfl, hC.acted f24 g24 hh24 (hF.tr F1.um).fn hI2 (hnm.up rfl)⟩
      · have hj2 := nI_nle' (by omega) (by omega) c50
        have hj3 : j < (SL (rq G.1 i) (rq G.1 i 10) (ro G.1 r 1)).length := by rw [SL_len]; exact hj2
        obtain ⟨⟨o1, o2⟩, o3, o4⟩ := SL_ok k1 k5 v2.1 hj3
        have hsj : j < stripsN (rq R' i) (rq R' i 10) (ro R' (rq R' i 9) 1) := by rw [hrq, hr, hro]; exact hj2
        rw [drop_at hj3, liftL] at hL
        refine x_aload_n d_Mo_takeUp_53 rfl ?_
        refine x_v0p d_Mo_takeUp_54 ml_Mo_64 v_Mo_keptOnes rfl ⟨rfl, rfl⟩ hM.io (Nat.le_of_ble_eq_true rfl) (ct_Mo_keptOnes hM hnm h300 hroc) ?_
        refine x_bipush (v := nI 60) d_Mo_takeUp_57 (by decide) ?_
        refine x_icmp_ge (tgt := 100) d_Mo_takeUp_59 (by decide) (fun c59 => ?_) (fun c59 => ?_)
        · have c59 := nI_le' (by omega) (by omega) c59
          rw [if_pos (Or.inl c59)] at hL
          refine x_aload_n d_Mo_takeUp_100 rfl ?_
          refine x_iload d_Mo_takeUp_101 rfl ?_
          refine x_iconst (v := nI 5) d_Mo_takeUp_103 (by decide) ?_
          refine x_aload_n d_Mo_takeUp_104 rfl ?_
          refine x_iload_n d_Mo_takeUp_105 rfl ?_
          refine x_iload d_Mo_takeUp_106 rfl ?_
          refine x_v2p d_Mo_takeUp_108 ml_Mo_163 v_Mo_widthOfStrip rfl ⟨rfl, rfl⟩ hM.io (Nat.le_of_ble_eq_true rfl) (ct_Mo_widthOfStrip hM hIj hnm (by omega) (by rw [hrq]; exact h8) hsj) ?_
          rw [hrq, hr, hro]
          refine x_aload_n d_Mo_takeUp_111 rfl ?_
          refine x_iload_n d_Mo_takeUp_112 rfl ?_
          refine x_iload d_Mo_takeUp_113 rfl ?_
          refine x_v2p d_Mo_takeUp_115 ml_Mo_166 v_Mo_lengthOfStrip rfl ⟨rfl, rfl⟩ hM.io (Nat.le_of_ble_eq_true rfl) (ct_Mo_lengthOfStrip hM hIj hnm (by omega) (by rw [hrq]; exact h8) hsj) ?_
          rw [hrq, hr, hro]
          refine x_imul d_Mo_takeUp_118 ?_
          rw [pk_mul]
          refine x_v3v d_Mo_takeUp_119 ml_Mo_50 v_Mo_add rfl ⟨rfl, rfl⟩ hM.io (Nat.le_of_ble_eq_true rfl) (ct_Mo_add hM hnm hr12 (by omega)) (fun _ hE => ?_)
          subst hE
          rw [nI_add]
          refine x_iinc d_Mo_takeUp_122 rfl (by first | exact inc1 _ | rfl) (by decide) ?_
          refine x_goto (tgt := 47) d_Mo_takeUp_125 (by decide) ?_
          exact ih hj2 _ _ _ (hnm.up rfl) (hF.tr F1.um) (hO.far (by omega) (by omega) (by omega)) (fun x h1 h2 h3 => (un_ne _ _ h2).trans (hx x h1 h2 h3)) hL
        · have c59 : nK R' < 60 := nI_nle' (by omega) (by omega) c59
          refine x_aload_n d_Mo_takeUp_62 rfl ?_
          refine x_getR hM.f0 rfl fs_Mo_7 d_Mo_takeUp_63 ?_
          refine x_iconst (v := nI 1) d_Mo_takeUp_66 (by decide) ?_
          refine x_iald hM.f1 (vp_in_nI (by omega) (by omega)) d_Mo_takeUp_67 ?_
          rw [nI_clamp (by omega), hnm _ (by omega)]
          refine x_sipush (v := nI 300) d_Mo_takeUp_68 (by decide) ?_
          refine x_icmp_ge (tgt := 100) d_Mo_takeUp_71 (by decide) (fun c71 => ?_) (fun c71 => ?_)
          · have c71 := nI_le' (by omega) (by omega) c71
            rw [if_pos (Or.inr c71)] at hL
            refine x_aload_n d_Mo_takeUp_100 rfl ?_
            refine x_iload d_Mo_takeUp_101 rfl ?_
            refine x_iconst (v := nI 5) d_Mo_takeUp_103 (by decide) ?_
            refine x_aload_n d_Mo_takeUp_104 rfl ?_
            refine x_iload_n d_Mo_takeUp_105 rfl ?_
            refine x_iload d_Mo_takeUp_106 rfl ?_
            refine x_v2p d_Mo_takeUp_108 ml_Mo_163 v_Mo_widthOfStrip rfl ⟨rfl, rfl⟩ hM.io (Nat.le_of_ble_eq_true rfl) (ct_Mo_widthOfStrip hM hIj hnm (by omega) (by rw [hrq]; exact h8) hsj) ?_
            rw [hrq, hr, hro]
            refine x_aload_n d_Mo_takeUp_111 rfl ?_
            refine x_iload_n d_Mo_takeUp_112 rfl ?_
            refine x_iload d_Mo_takeUp_113 rfl ?_
            refine x_v2p d_Mo_takeUp_115 ml_Mo_166 v_Mo_lengthOfStrip rfl ⟨rfl, rfl⟩ hM.io (Nat.le_of_ble_eq_true rfl) (ct_Mo_lengthOfStrip hM hIj hnm (by omega) (by rw [hrq]; exact h8) hsj) ?_
            rw [hrq, hr, hro]
            refine x_imul d_Mo_takeUp_118 ?_
            rw [pk_mul]
            refine x_v3v d_Mo_takeUp_119 ml_Mo_50 v_Mo_add rfl ⟨rfl, rfl⟩ hM.io (Nat.le_of_ble_eq_true rfl) (ct_Mo_add hM hnm hr12 (by omega)) (fun _ hE => ?_)
            subst hE
            rw [nI_add]
            refine x_iinc d_Mo_takeUp_122 rfl (by first | exact inc1 _ | rfl) (by decide) ?_
            refine x_goto (tgt := 47) d_Mo_takeUp_125 (by decide) ?_
            exact ih hj2 _ _ _ (hnm.up rfl) (hF.tr F1.um) (hO.far (by omega) (by omega) (by omega)) (fun x h1 h2 h3 => (un_ne _ _ h2).trans (hx x h1 h2 h3)) hL
          · have c71 : R' 1 < 300 := nI_nle' (by omega) (by omega) c71
            rw [if_neg (by omega)] at hL
            refine x_aload_n d_Mo_takeUp_74 rfl ?_
            refine x_iload d_Mo_takeUp_75 rfl ?_
            refine x_aload_n d_Mo_takeUp_77 rfl ?_
            refine x_iload_n d_Mo_takeUp_78 rfl ?_
            refine x_iload d_Mo_takeUp_79 rfl ?_
            refine x_v2p d_Mo_takeUp_81 ml_Mo_163 v_Mo_widthOfStrip rfl ⟨rfl, rfl⟩ hM.io (Nat.le_of_ble_eq_true rfl) (ct_Mo_widthOfStrip hM hIj hnm (by omega) (by rw [hrq]; exact h8) hsj) ?_
            rw [hrq, hr, hro]
            refine x_aload_n d_Mo_takeUp_84 rfl ?_
            refine x_iload_n d_Mo_takeUp_85 rfl ?_
            refine x_iload d_Mo_takeUp_86 rfl ?_
            refine x_v2p d_Mo_takeUp_88 ml_Mo_166 v_Mo_lengthOfStrip rfl ⟨rfl, rfl⟩ hM.io (Nat.le_of_ble_eq_true rfl) (ct_Mo_lengthOfStrip hM hIj hnm (by omega) (by rw [hrq]; exact h8) hsj) ?_
            rw [hrq, hr, hro]
            refine x_v3v d_Mo_takeUp_91 ml_Mo_54 v_Mo_addOffcut rfl ⟨rfl, rfl⟩ hM.io (Nat.le_of_ble_eq_true rfl) (ct_Mo_addOffcut hM hnm c71) (fun mem91 h91 => ?_)
            refine x_iinc d_Mo_takeUp_94 rfl (by first | exact inc1 _ | rfl) (by decide) ?_
            refine x_goto (tgt := 122) d_Mo_takeUp_97 (by decide) ?_
            refine x_iinc d_Mo_takeUp_122 rfl (by first | exact inc1 _ | rfl) (by decide) ?_
            refine x_goto (tgt := 47) d_Mo_takeUp_125 (by decide) ?_
            exact ih hj2 _ _ _ h91.1 (hF.tr h91.2) (hO.add c71 (by rw [hx 0 (by omega) (by omega) (by omega)]; exact k4) (by omega) o4) (fun x h1 h2 h3 => (addR_ne c71 h1 h3).trans (hx x h1 h2 h3)) hL
    · have c17 := nI_eq' (b := 0) (by omega) (by omega) c17
      rw [if_neg (by omega)]
      refine x_bipush (v := -5) d_Mo_takeUp_20 (by decide) ?_
      refine x_iret rfl rfl d_Mo_takeUp_22 (Nat.zero_le _) (Nat.zero_le _) ?_
      exact ⟨_, rfl, rfl, rfl, rfl, hC, Fr.rf⟩
  · rw [show spTakeUp G i = (-1, G) from if_neg (bI_0.mp c5)]
    refine x_iconst (v := -1) d_Mo_takeUp_8 (by decide) ?_
    refine x_iret rfl rfl d_Mo_takeUp_9 (Nat.zero_le _) (Nat.zero_le _) ?_
    exact ⟨_, rfl, rfl, rfl, rfl, hC, Fr.rf⟩
end
