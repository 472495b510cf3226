/-! what is told of a room and a strip; counts -/
theorem sm_nI {f : Nat → Int32} {F : Nat → Nat} : ∀ n, (∀ r, r < n → f r = nI (F r)) → sm f n = nI (sN F n)
  | 0, _ => rfl
  | n + 1, h => by rw [sm, sm_nI n (fun r hr => h r (by omega)), h n (by omega), nI_add]; rfl
theorem sN_ext {F : Nat → Nat} {n m : Nat} (hnm : n ≤ m) (h : ∀ r, n ≤ r → r < m → F r = 0) : sN F m = sN F n := by
  induction m with
  | zero => rw [show n = 0 by omega]
  | succ m ih =>
    by_cases hn : n = m + 1
    · rw [hn]
    · rw [sN, ih (by omega) (fun r h1 h2 => h r h1 (by omega)), h m (by omega) (by omega), Nat.add_zero]
theorem sN_zero {F : Nat → Nat} : ∀ n, (∀ k, k < n → F k = 0) → sN F n = 0
  | 0, _ => rfl
  | n + 1, h => by rw [sN, sN_zero n (fun k hk => h k (by omega)), h n (by omega)]
theorem laidN_far {R : RS} (hI : Inv R) {r : Nat} (hr : R 0 ≤ r) : laidN R r = 0 := sN_zero _ (fun i hi => if_neg (fun z => by
  have := ((hI.2.2.2.2.1 i hi).2.2 z.1).1
  omega))
section
variable {l : Launch} {g : XG} {sh : Nat → Sh} {mem : Mem} {κ : Nat} {G : GS}
theorem ct_Cc_covering (hL : LayCc sh κ) (hC : CR mem κ G) {i j : Nat} (hi : i < G.1 2) (h8 : rq G.1 i 8 = 1) (hj : 4 ≤ j) (hj8 : j ≤ 8) : Ct l g M_Cc_covering [rf g κ, .int (nI i), .int (nI j)] none sh mem (Pq (.int (nI (covN G.1 i j))) none sh mem) := by
  obtain ⟨hI, hb, hh, ht, hs⟩ := id hC
  have h20 := hI.1.2.2
  obtain ⟨r1, r2, r3⟩ := hb.2.2.2.2.2 i hi
  obtain ⟨k1, k2, k3, k4⟩ := r3 h8
  refine x_begin rfl rfl rfl (by decide) rfl ?_
  refine x_iload_n d_Cc_covering_0 rfl ?_
  rcases (show j = 4 ∨ j = 5 ∨ j = 6 ∨ j = 7 ∨ j = 8 by omega) with rfl | rfl | rfl | rfl | rfl
  · refine x_tableIn (off := 31) (tgt := 32) d_Cc_covering_1 (by decide) (by decide) (by decide) (by decide) ?_
    refine x_aload_n d_Cc_covering_32 rfl ?_
    refine x_getR hL.f0 rfl fs_Cc_10 d_Cc_covering_33 ?_
    refine x_getR hL.s1.f0 rfl fs_Cc_79 d_Cc_covering_36 ?_
    refine x_getR hL.s1.s29.f0 rfl fs_Cc_211 d_Cc_covering_39 ?_
    refine x_iload_n d_Cc_covering_42 rfl ?_
    refine x_v1p d_Cc_covering_43 ml_Cc_134 v_Rw_at rfl ⟨rfl, rfl⟩ (row_io hL.s1.s29.f9) (Nat.le_of_ble_eq_true rfl) (ct_Rw_at hL.s1.s29.f9 hL.s1.s29.f10 (by omega)) ?_
    rw [k2]
    refine x_iret rfl rfl d_Cc_covering_46 (Nat.zero_le _) (Nat.zero_le _) ?_
    exact ⟨rfl, rfl, rfl, rfl⟩
  · refine x_tableIn (off := 46) (tgt := 47) d_Cc_covering_1 (by decide) (by decide) (by decide) (by decide) ?_
    refine x_aload_n d_Cc_covering_47 rfl ?_
    refine x_getR hL.f0 rfl fs_Cc_10 d_Cc_covering_48 ?_
    refine x_getR hL.s1.f0 rfl fs_Cc_79 d_Cc_covering_51 ?_
    refine x_getR hL.s1.s29.f0 rfl fs_Cc_212 d_Cc_covering_54 ?_
    refine x_iload_n d_Cc_covering_57 rfl ?_
    refine x_v1p d_Cc_covering_58 ml_Cc_134 v_Rw_at rfl ⟨rfl, rfl⟩ (row_io hL.s1.s29.f13) (Nat.le_of_ble_eq_true rfl) (ct_Rw_at hL.s1.s29.f13 hL.s1.s29.f14 (by omega)) ?_
    rw [k1.2.1]
    refine x_iret rfl rfl d_Cc_covering_61 (Nat.zero_le _) (Nat.zero_le _) ?_
    exact ⟨rfl, rfl, rfl, rfl⟩
  · refine x_tableIn (off := 61) (tgt := 62) d_Cc_covering_1 (by decide) (by decide) (by decide) (by decide) ?_
    refine x_aload_n d_Cc_covering_62 rfl ?_
    refine x_getR hL.f0 rfl fs_Cc_10 d_Cc_covering_63 ?_
    refine x_getR hL.s1.f0 rfl fs_Cc_79 d_Cc_covering_66 ?_
    refine x_iload_n d_Cc_covering_69 rfl ?_
    refine x_v1p d_Cc_covering_70 ml_Cc_215 v_Rm_strips rfl ⟨rfl, rfl⟩ hL.s1.s29.io (Nat.le_of_ble_eq_true rfl) (ct_Rm_strips hL.s1.s29 r1 k1) ?_
    refine x_iret rfl rfl d_Cc_covering_73 (Nat.zero_le _) (Nat.zero_le _) ?_
    exact ⟨rfl, rfl, rfl, rfl⟩
  · refine x_tableIn (off := 73) (tgt := 74) d_Cc_covering_1 (by decide) (by decide) (by decide) (by decide) ?_
    refine x_aload_n d_Cc_covering_74 rfl ?_
    refine x_getR hL.f0 rfl fs_Cc_10 d_Cc_covering_75 ?_
    refine x_getR hL.s1.f0 rfl fs_Cc_79 d_Cc_covering_78 ?_
    refine x_iload_n d_Cc_covering_81 rfl ?_
    refine x_v1p d_Cc_covering_82 ml_Cc_218 v_Rm_seams rfl ⟨rfl, rfl⟩ hL.s1.s29.io (Nat.le_of_ble_eq_true rfl) (ct_Rm_seams hL.s1.s29 r1 k1) ?_
    refine x_iret rfl rfl d_Cc_covering_85 (Nat.zero_le _) (Nat.zero_le _) ?_
    exact ⟨rfl, rfl, rfl, rfl⟩
  · refine x_tableOut (tgt := 86) d_Cc_covering_1 (by decide) (by decide) ?_
    refine x_aload_n d_Cc_covering_86 rfl ?_
    refine x_getR hL.f0 rfl fs_Cc_10 d_Cc_covering_87 ?_
    refine x_getR hL.s1.f0 rfl fs_Cc_79 d_Cc_covering_90 ?_
    refine x_getR hL.s1.s29.f0 rfl fs_Cc_221 d_Cc_covering_93 ?_
    refine x_iload_n d_Cc_covering_96 rfl ?_
    refine x_v1p d_Cc_covering_97 ml_Cc_134 v_Rw_at rfl ⟨rfl, rfl⟩ (row_io hL.s1.s29.f15) (Nat.le_of_ble_eq_true rfl) (ct_Rw_at hL.s1.s29.f15 hL.s1.s29.f16 (by omega)) ?_
    rw [k3]
    refine x_iret rfl rfl d_Cc_covering_100 (Nat.zero_le _) (Nat.zero_le _) ?_
    exact ⟨rfl, rfl, rfl, rfl⟩
theorem ct_Cc_room (hL : LayCc sh κ) (hC : CR mem κ G) {i w : Int32} : Ct l g M_Cc_room [rf g κ, .int i, .int w] none sh mem (Ri none sh (CP κ mem (vRoom G.1 i w, G))) := by
  obtain ⟨hI, hb, hh, ht, hs⟩ := id hC
  have h20 := hI.1.2.2
  refine x_begin rfl rfl rfl (by decide) rfl ?_
  refine x_aload_n d_Cc_room_0 rfl ?_
  refine x_getR hL.f0 rfl fs_Cc_10 d_Cc_room_1 ?_
  refine x_getR hL.s1.f0 rfl fs_Cc_79 d_Cc_room_4 ?_
  refine x_iload_n d_Cc_room_7 rfl ?_
  refine x_v1p d_Cc_room_8 ml_Cc_86 v_Rm_has rfl ⟨rfl, rfl⟩ hL.s1.s29.io (Nat.le_of_ble_eq_true rfl) (ct_Rm_has hL.s1.s29 hb.2.2.2.2.1 h20) ?_
  refine x_if_ne (tgt := 16) d_Cc_room_11 (by decide) (fun c11 => ?_) (fun c11 => ?_)
  · have hi0 := bI_n.mp c11
    rw [show vRoom G.1 i w = if inI w 0 8 then roomV G.1 (tN i) (tN w) else -2 from if_pos hi0]
    obtain ⟨i, hi, rfl⟩ := hasI_of (by omega) hi0
    rw [tN_nI (by omega)]
    obtain ⟨w1, w2, w3⟩ := (hb.2.2.2.2.2 i hi).w8 hI hi
    have hR := hb.2.2.2.2.2 i hi
    have h81 := (hI.2.2.2.2.1 i hi).2.1
    refine x_iload_n d_Cc_room_16 rfl ?_
    refine x_if_lt (tgt := 26) d_Cc_room_17 (by decide) (fun c17 => ?_) (fun c17 => ?_)
    · rw [if_neg (rng_no (Or.inl c17))]
      refine x_bipush (v := -2) d_Cc_room_26 (by decide) ?_
      refine x_iret rfl rfl d_Cc_room_28 (Nat.zero_le _) (Nat.zero_le _) ?_
      exact ⟨_, rfl, rfl, rfl, rfl, hC, Fr.rf⟩
    · refine x_iload_n d_Cc_room_20 rfl ?_
      refine x_bipush (v := nI 8) d_Cc_room_21 (by decide) ?_
      refine x_icmp_le (tgt := 29) d_Cc_room_23 (by decide) (fun c23 => ?_) (fun c23 => ?_)
      · have hw0 : inI w 0 8 := ⟨i_nlt.mp c17, c23⟩
        rw [if_pos hw0]
        obtain ⟨w, hw, rfl⟩ := inI_of (by omega) (by omega) hw0
        rw [tN_nI (by omega)]
        refine x_aload_n d_Cc_room_29 rfl ?_
        refine x_getR hL.f0 rfl fs_Cc_10 d_Cc_room_30 ?_
        refine x_getR hL.s1.f0 rfl fs_Cc_79 d_Cc_room_33 ?_
        refine x_iload_n d_Cc_room_36 rfl ?_
        refine x_v1p d_Cc_room_37 ml_Cc_100 v_Rm_isCovered rfl ⟨rfl, rfl⟩ hL.s1.s29.io (Nat.le_of_ble_eq_true rfl) (ct_Rm_isCovered hL.s1.s29 (by omega) w1 w2) ?_
        refine x_istore_n d_Cc_room_40 (by decide) ?_
        refine x_iload_n d_Cc_room_41 rfl ?_
        rcases (show w = 0 ∨ w = 1 ∨ w = 2 ∨ w = 3 ∨ 4 ≤ w by omega) with rfl | rfl | rfl | rfl | hw4
        · refine x_tableIn (off := 30) (tgt := 72) d_Cc_room_42 (by decide) (by decide) (by decide) (by decide) ?_
          refine x_aload_n d_Cc_room_72 rfl ?_
          refine x_getR hL.f0 rfl fs_Cc_10 d_Cc_room_73 ?_
          refine x_getR hL.s1.f0 rfl fs_Cc_79 d_Cc_room_76 ?_
          refine x_getR hL.s1.s29.f0 rfl fs_Cc_199 d_Cc_room_79 ?_
          refine x_iload_n d_Cc_room_82 rfl ?_
          refine x_v1p d_Cc_room_83 ml_Cc_134 v_Rw_at rfl ⟨rfl, rfl⟩ (row_io hL.s1.s29.f1) (Nat.le_of_ble_eq_true rfl) (ct_Rw_at hL.s1.s29.f1 hL.s1.s29.f2 (by omega)) ?_
          rw [hR.1.2.2.1]
          refine x_iret rfl rfl d_Cc_room_86 (Nat.zero_le _) (Nat.zero_le _) ?_
          exact ⟨_, rfl, rfl, rfl, rfl, hC, Fr.rf⟩
        · refine x_tableIn (off := 45) (tgt := 87) d_Cc_room_42 (by decide) (by decide) (by decide) (by decide) ?_
          refine x_aload_n d_Cc_room_87 rfl ?_
          refine x_getR hL.f0 rfl fs_Cc_10 d_Cc_room_88 ?_
          refine x_getR hL.s1.f0 rfl fs_Cc_79 d_Cc_room_91 ?_
          refine x_iload_n d_Cc_room_94 rfl ?_
          refine x_v1p d_Cc_room_95 ml_Cc_202 v_Rm_area rfl ⟨rfl, rfl⟩ hL.s1.s29.io (Nat.le_of_ble_eq_true rfl) (ct_Rm_area hL.s1.s29 hR.1) ?_
          refine x_iret rfl rfl d_Cc_room_98 (Nat.zero_le _) (Nat.zero_le _) ?_
          exact ⟨_, rfl, rfl, rfl, rfl, hC, Fr.rf⟩
        · refine x_tableIn (off := 57) (tgt := 99) d_Cc_room_42 (by decide) (by decide) (by decide) (by decide) ?_
          refine x_aload_n d_Cc_room_99 rfl ?_
          refine x_getR hL.f0 rfl fs_Cc_10 d_Cc_room_100 ?_
          refine x_getR hL.s1.f0 rfl fs_Cc_79 d_Cc_room_103 ?_
          refine x_getR hL.s1.s29.f0 rfl fs_Cc_205 d_Cc_room_106 ?_
          refine x_iload_n d_Cc_room_109 rfl ?_
          refine x_v1p d_Cc_room_110 ml_Cc_134 v_Rw_at rfl ⟨rfl, rfl⟩ (row_io hL.s1.s29.f7) (Nat.le_of_ble_eq_true rfl) (ct_Rw_at hL.s1.s29.f7 hL.s1.s29.f8 (by omega)) ?_
          rw [hR.1.2.2.2.2]
          refine x_iret rfl rfl d_Cc_room_113 (Nat.zero_le _) (Nat.zero_le _) ?_
          exact ⟨_, rfl, rfl, rfl, rfl, hC, Fr.rf⟩
        · refine x_tableIn (off := 72) (tgt := 114) d_Cc_room_42 (by decide) (by decide) (by decide) (by decide) ?_
          refine x_iload_n d_Cc_room_114 rfl ?_
          refine x_if_eq (tgt := 122) d_Cc_room_115 (by decide) (fun c115 => ?_) (fun c115 => ?_)
          · have h8 : rq G.1 i 8 = 0 := by
              have h0 : ¬ rq G.1 i 8 = 1 := fun z => bI_0.mp c115 (w3.mpr z)
              omega
            rw [show roomV G.1 i 3 = nI (rq G.1 i 8) from rfl, h8]
            refine x_iconst (v := nI 0) d_Cc_room_122 (by decide) ?_
            refine x_iret rfl rfl d_Cc_room_123 (Nat.zero_le _) (Nat.zero_le _) ?_
            exact ⟨_, rfl, rfl, rfl, rfl, hC, Fr.rf⟩
          · rw [show roomV G.1 i 3 = nI (rq G.1 i 8) from rfl, w3.mp (bI_n.mp c115)]
            refine x_iconst (v := nI 1) d_Cc_room_118 (by decide) ?_
            refine x_goto (tgt := 123) d_Cc_room_119 (by decide) ?_
            refine x_iret rfl rfl d_Cc_room_123 (Nat.zero_le _) (Nat.zero_le _) ?_
            exact ⟨_, rfl, rfl, rfl, rfl, hC, Fr.rf⟩
        · refine x_tableOut (tgt := 124) d_Cc_room_42 (Or.inr (by rw [nI_toInt (by omega)]; omega)) (by decide) ?_
          rw [show roomV G.1 i w = if rq G.1 i 8 = 1 then nI (covN G.1 i w) else -5 by unfold roomV; rw [if_neg (by omega), if_neg (by omega), if_neg (by omega), if_neg (by omega)]]
          refine x_iload_n d_Cc_room_124 rfl ?_
          refine x_if_eq (tgt := 137) d_Cc_room_125 (by decide) (fun c125 => ?_) (fun c125 => ?_)
          · rw [if_neg (fun z => bI_0.mp c125 (w3.mpr z))]
            refine x_bipush (v := -5) d_Cc_room_137 (by decide) ?_
            refine x_iret rfl rfl d_Cc_room_139 (Nat.zero_le _) (Nat.zero_le _) ?_
            exact ⟨_, rfl, rfl, rfl, rfl, hC, Fr.rf⟩
          · have h8 := w3.mp (bI_n.mp c125)
            rw [if_pos h8]
            refine x_aload_n d_Cc_room_128 rfl ?_
            refine x_iload_n d_Cc_room_129 rfl ?_
            refine x_iload_n d_Cc_room_130 rfl ?_
            refine x_v2p d_Cc_room_131 ml_Cc_208 v_Cc_covering rfl ⟨rfl, rfl⟩ hL.io (Nat.le_of_ble_eq_true rfl) (ct_Cc_covering hL hC hi h8 hw4 hw.2) ?_
            refine x_goto (tgt := 139) d_Cc_room_134 (by decide) ?_
            refine x_iret rfl rfl d_Cc_room_139 (Nat.zero_le _) (Nat.zero_le _) ?_
            exact ⟨_, rfl, rfl, rfl, rfl, hC, Fr.rf⟩
      · rw [if_neg (fun z => c23 z.2)]
        refine x_bipush (v := -2) d_Cc_room_26 (by decide) ?_
        refine x_iret rfl rfl d_Cc_room_28 (Nat.zero_le _) (Nat.zero_le _) ?_
        exact ⟨_, rfl, rfl, rfl, rfl, hC, Fr.rf⟩
  · rw [show vRoom G.1 i w = -1 from if_neg (bI_0.mp c11)]
    refine x_iconst (v := -1) d_Cc_room_14 (by decide) ?_
    refine x_iret rfl rfl d_Cc_room_15 (Nat.zero_le _) (Nat.zero_le _) ?_
    exact ⟨_, rfl, rfl, rfl, rfl, hC, Fr.rf⟩
theorem ct_Cc_strip (hL : LayCc sh κ) (hC : CR mem κ G) {i s w : Int32} : Ct l g M_Cc_strip [rf g κ, .int i, .int s, .int w] none sh mem (Ri none sh (CP κ mem (vStrip G.1 i s w, G))) := by
  obtain ⟨hI, hb, hh, ht, hs⟩ := id hC
  have h20 := hI.1.2.2
  refine x_begin rfl rfl rfl (by decide) rfl ?_
  refine x_aload_n d_Cc_strip_0 rfl ?_
  refine x_getR hL.f0 rfl fs_Cc_10 d_Cc_strip_1 ?_
  refine x_getR hL.s1.f0 rfl fs_Cc_79 d_Cc_strip_4 ?_
  refine x_iload_n d_Cc_strip_7 rfl ?_
  refine x_v1p d_Cc_strip_8 ml_Cc_86 v_Rm_has rfl ⟨rfl, rfl⟩ hL.s1.s29.io (Nat.le_of_ble_eq_true rfl) (ct_Rm_has hL.s1.s29 hb.2.2.2.2.1 h20) ?_
  refine x_if_ne (tgt := 16) d_Cc_strip_11 (by decide) (fun c11 => ?_) (fun c11 => ?_)
  · have hi0 := bI_n.mp c11
    rw [show vStrip G.1 i s w = if ¬ s < 0 ∧ inI w 0 2 then (if rq G.1 (tN i) 8 = 1 ∧ s < nI (covN G.1 (tN i) 6) then nI (stripN G.1 (tN i) (tN s) (tN w)) else -5) else -2 from if_pos hi0]
    obtain ⟨i, hi, rfl⟩ := hasI_of (by omega) hi0
    rw [tN_nI (by omega)]
    have hR := hb.2.2.2.2.2 i hi
    have h81 := (hI.2.2.2.2.1 i hi).2.1
    refine x_iload_n d_Cc_strip_16 rfl ?_
    refine x_if_lt (tgt := 29) d_Cc_strip_17 (by decide) (fun c17 => ?_) (fun c17 => ?_)
    · rw [if_neg (fun z => z.1 c17)]
      refine x_bipush (v := -2) d_Cc_strip_29 (by decide) ?_
      refine x_iret rfl rfl d_Cc_strip_31 (Nat.zero_le _) (Nat.zero_le _) ?_
      exact ⟨_, rfl, rfl, rfl, rfl, hC, Fr.rf⟩
    · refine x_iload_n d_Cc_strip_20 rfl ?_
      refine x_if_lt (tgt := 29) d_Cc_strip_21 (by decide) (fun c21 => ?_) (fun c21 => ?_)
      · rw [if_neg (fun z => rng_no (Or.inl c21) z.2)]
        refine x_bipush (v := -2) d_Cc_strip_29 (by decide) ?_
        refine x_iret rfl rfl d_Cc_strip_31 (Nat.zero_le _) (Nat.zero_le _) ?_
        exact ⟨_, rfl, rfl, rfl, rfl, hC, Fr.rf⟩
      · refine x_iload_n d_Cc_strip_24 rfl ?_
        refine x_iconst (v := nI 2) d_Cc_strip_25 (by decide) ?_
        refine x_icmp_le (tgt := 32) d_Cc_strip_26 (by decide) (fun c26 => ?_) (fun c26 => ?_)
        · have hw : inI w 0 2 := ⟨i_nlt.mp c21, c26⟩
          rw [if_pos ⟨c17, hw⟩]
          obtain ⟨w, hw, rfl⟩ := inI_of (by omega) (by omega) hw
          obtain ⟨s, hs0, rfl⟩ := nI_of c17
          rw [tN_nI (n := w) (by omega), tN_nI hs0]
          by_cases h8 : rq G.1 i 8 = 1
          · have hcv := hR.2.2 h8
            have hst := stripsN_le hR.1.2.1 ((hI.2.2.2.2.1 i hi).2.2 h8).2 hcv.1.2.2.2.1
            rw [show covN G.1 i 6 = stripsN (rq G.1 i) (rq G.1 i 10) (ro G.1 (rq G.1 i 9) 1) from rfl]
            refine x_iload_n d_Cc_strip_32 rfl ?_
            refine x_aload_n d_Cc_strip_33 rfl ?_
            refine x_getR hL.f0 rfl fs_Cc_10 d_Cc_strip_34 ?_
            refine x_getR hL.s1.f0 rfl fs_Cc_79 d_Cc_strip_37 ?_
            refine x_iload_n d_Cc_strip_40 rfl ?_
            refine x_v1p d_Cc_strip_41 ml_Cc_215 v_Rm_strips rfl ⟨rfl, rfl⟩ hL.s1.s29.io (Nat.le_of_ble_eq_true rfl) (ct_Rm_strips hL.s1.s29 hR.1 hcv.1) ?_
            refine x_icmp_lt (tgt := 50) d_Cc_strip_44 (by decide) (fun c44 => ?_) (fun c44 => ?_)
            · have c44 := nI_lt' (by omega) (by omega) c44
              rw [if_pos ⟨h8, nI_lt c44 (by omega)⟩]
              refine x_iload_n d_Cc_strip_50 rfl ?_
              rcases (show w = 0 ∨ w = 1 ∨ w = 2 by omega) with rfl | rfl | rfl
              · refine x_lookup (off := 25) (tgt := 76) d_Cc_strip_51 (by decide) (by decide) (by decide) ?_
                refine x_aload_n d_Cc_strip_76 rfl ?_
                refine x_getR hL.f0 rfl fs_Cc_10 d_Cc_strip_77 ?_
                refine x_getR hL.s1.f0 rfl fs_Cc_79 d_Cc_strip_80 ?_
                refine x_iload_n d_Cc_strip_83 rfl ?_
                refine x_iload_n d_Cc_strip_84 rfl ?_
                refine x_v2p d_Cc_strip_85 ml_Cc_222 v_Rm_stripWidth rfl ⟨rfl, rfl⟩ hL.s1.s29.io (Nat.le_of_ble_eq_true rfl) (ct_Rm_stripWidth hL.s1.s29 hR.1 hcv.1 (by omega)) ?_
                refine x_iret rfl rfl d_Cc_strip_88 (Nat.zero_le _) (Nat.zero_le _) ?_
                exact ⟨_, rfl, rfl, rfl, rfl, hC, Fr.rf⟩
              · refine x_lookup (off := 38) (tgt := 89) d_Cc_strip_51 (by decide) (by decide) (by decide) ?_
                refine x_aload_n d_Cc_strip_89 rfl ?_
                refine x_getR hL.f0 rfl fs_Cc_10 d_Cc_strip_90 ?_
                refine x_getR hL.s1.f0 rfl fs_Cc_79 d_Cc_strip_93 ?_
                refine x_iload_n d_Cc_strip_96 rfl ?_
                refine x_iload_n d_Cc_strip_97 rfl ?_
                refine x_v2p d_Cc_strip_98 ml_Cc_225 v_Rm_stripLength rfl ⟨rfl, rfl⟩ hL.s1.s29.io (Nat.le_of_ble_eq_true rfl) (ct_Rm_stripLength hL.s1.s29 hR.1 hcv.1 (by omega)) ?_
                refine x_iret rfl rfl d_Cc_strip_101 (Nat.zero_le _) (Nat.zero_le _) ?_
                exact ⟨_, rfl, rfl, rfl, rfl, hC, Fr.rf⟩
              · refine x_lookup (off := 51) (tgt := 102) d_Cc_strip_51 (by decide) (by decide) (by decide) ?_
                refine x_aload_n d_Cc_strip_102 rfl ?_
                refine x_getR hL.f0 rfl fs_Cc_10 d_Cc_strip_103 ?_
                refine x_getR hL.s1.f0 rfl fs_Cc_79 d_Cc_strip_106 ?_
                refine x_iload_n d_Cc_strip_109 rfl ?_
                refine x_iload_n d_Cc_strip_110 rfl ?_
                refine x_v2p d_Cc_strip_111 ml_Cc_228 v_Rm_source rfl ⟨rfl, rfl⟩ hL.s1.s29.io (Nat.le_of_ble_eq_true rfl) (ct_Rm_source hL.s1.s29 (by omega) (by omega)) ?_
                rw [hcv.2.2.2 s c44]
                refine x_iret rfl rfl d_Cc_strip_114 (Nat.zero_le _) (Nat.zero_le _) ?_
                exact ⟨_, rfl, rfl, rfl, rfl, hC, Fr.rf⟩
            · rw [if_neg (fun z => c44 z.2)]
              refine x_bipush (v := -5) d_Cc_strip_47 (by decide) ?_
              refine x_iret rfl rfl d_Cc_strip_49 (Nat.zero_le _) (Nat.zero_le _) ?_
              exact ⟨_, rfl, rfl, rfl, rfl, hC, Fr.rf⟩
          · rw [if_neg (fun z => h8 z.1)]
            refine x_iload_n d_Cc_strip_32 rfl ?_
            refine x_aload_n d_Cc_strip_33 rfl ?_
            refine x_getR hL.f0 rfl fs_Cc_10 d_Cc_strip_34 ?_
            refine x_getR hL.s1.f0 rfl fs_Cc_79 d_Cc_strip_37 ?_
            refine x_iload_n d_Cc_strip_40 rfl ?_
            refine x_v1p d_Cc_strip_41 ml_Cc_215 v_Rm_strips rfl ⟨rfl, rfl⟩ hL.s1.s29.io (Nat.le_of_ble_eq_true rfl) (ct_Rm_strips0 hL.s1.s29 hR.1 (hR.2.1 (by omega))) ?_
            refine x_icmp_lt (tgt := 50) d_Cc_strip_44 (by decide) (fun c44 => ?_) (fun c44 => ?_)
            · exact absurd c44 (nI_nlt (Nat.zero_le _) (by omega))
            · refine x_bipush (v := -5) d_Cc_strip_47 (by decide) ?_
              refine x_iret rfl rfl d_Cc_strip_49 (Nat.zero_le _) (Nat.zero_le _) ?_
              exact ⟨_, rfl, rfl, rfl, rfl, hC, Fr.rf⟩
        · rw [if_neg (fun z => c26 z.2.2)]
          refine x_bipush (v := -2) d_Cc_strip_29 (by decide) ?_
          refine x_iret rfl rfl d_Cc_strip_31 (Nat.zero_le _) (Nat.zero_le _) ?_
          exact ⟨_, rfl, rfl, rfl, rfl, hC, Fr.rf⟩
  · rw [show vStrip G.1 i s w = -1 from if_neg (bI_0.mp c11)]
    refine x_iconst (v := -1) d_Cc_strip_14 (by decide) ?_
    refine x_iret rfl rfl d_Cc_strip_15 (Nat.zero_le _) (Nat.zero_le _) ?_
    exact ⟨_, rfl, rfl, rfl, rfl, hC, Fr.rf⟩
theorem ct_Cc_setting (hL : LayCc sh κ) (hC : CR mem κ G) {x : Int32} : Ct l g M_Cc_setting [rf g κ, .int x] none sh mem (Pq (.int (if hasI x 5 then nI (G.1 (4 + tN x)) else -2)) none sh mem) := by
  obtain ⟨hI, hb, hh, ht, hs⟩ := id hC
  refine x_begin rfl rfl rfl (by decide) rfl ?_
  refine x_iload_n d_Cc_setting_0 rfl ?_
  refine x_if_lt (tgt := 9) d_Cc_setting_1 (by decide) (fun c1 => ?_) (fun c1 => ?_)
  · rw [if_neg (fun z => z.1 c1)]
    refine x_bipush (v := -2) d_Cc_setting_9 (by decide) ?_
    refine x_goto (tgt := 25) d_Cc_setting_11 (by decide) ?_
    refine x_iret rfl rfl d_Cc_setting_25 (Nat.zero_le _) (Nat.zero_le _) ?_
    exact ⟨rfl, rfl, rfl, rfl⟩
  · refine x_iload_n d_Cc_setting_4 rfl ?_
    refine x_iconst (v := nI 5) d_Cc_setting_5 (by decide) ?_
    refine x_icmp_lt (tgt := 14) d_Cc_setting_6 (by decide) (fun c6 => ?_) (fun c6 => ?_)
    · rw [if_pos ⟨c1, c6⟩]
      obtain ⟨j, hj, rfl⟩ := hasI_of (by omega) (⟨c1, c6⟩ : hasI x 5)
      rw [tN_nI (by omega)]
      refine x_aload_n d_Cc_setting_14 rfl ?_
      refine x_getR hL.f0 rfl fs_Cc_10 d_Cc_setting_15 ?_
      refine x_getR hL.s1.f0 rfl fs_Cc_130 d_Cc_setting_18 ?_
      refine x_iload_n d_Cc_setting_21 rfl ?_
      refine x_v1p d_Cc_setting_22 ml_Cc_134 v_Rw_at rfl ⟨rfl, rfl⟩ (row_io hL.s1.f1) (Nat.le_of_ble_eq_true rfl) (ct_Rw_at hL.s1.f1 hL.s1.f2 (by omega)) ?_
      rw [hb.1 j hj]
      refine x_iret rfl rfl d_Cc_setting_25 (Nat.zero_le _) (Nat.zero_le _) ?_
      exact ⟨rfl, rfl, rfl, rfl⟩
    · rw [if_neg (fun z => c6 z.2)]
      refine x_bipush (v := -2) d_Cc_setting_9 (by decide) ?_
      refine x_goto (tgt := 25) d_Cc_setting_11 (by decide) ?_
      refine x_iret rfl rfl d_Cc_setting_25 (Nat.zero_le _) (Nat.zero_le _) ?_
      exact ⟨rfl, rfl, rfl, rfl⟩
theorem ct_Cc_count (hL : LayCc sh κ) (hC : CR mem κ G) {w : Int32} : Ct l g M_Cc_count [rf g κ, .int w] none sh mem (Ri none sh (CP κ mem (vCount G w, G))) := by
  obtain ⟨hI, hb, hh, ht, hs⟩ := id hC
  have h20 := hI.1.2.2
  have h12 := hI.1.1
  refine x_begin rfl rfl rfl (by decide) rfl ?_
  have hin : ∀ i, i ≤ 15 → vCount G (nI i) = nI (countN G i) := fun i hi => by
    unfold vCount
    rw [if_pos ⟨nI_le (Nat.zero_le _) (by omega), nI_le hi (by omega)⟩, tN_nI (by omega)]
  have hcov : cnt (fun i => decide (0 < rw8 G.1 i)) (G.1 2) = countN G 2 := cnt_cong _ (fun i hi => decide_eq_decide.mpr ((hb.2.2.2.2.2 i hi).w8 hI hi).2.2)
  have hare : sN (fun i => if 0 < rw8 G.1 i then areaN (rq G.1 i) else 0) (G.1 2) = countN G 7 := sN_cong _ (fun i hi => by
    have := ((hb.2.2.2.2.2 i hi).w8 hI hi).2.2
    by_cases h : 0 < rw8 G.1 i
    · rw [if_pos h, if_pos (this.mp h)]
    · rw [if_neg h, if_neg (fun z => h (this.mpr z))])
  have hwst : sm (mem (κ + 1 + 3 + 14)) 12 = nI (countN G 5) := by
    rw [sm_nI (F := fun r => ro G.1 r 5) 12 (fun r hr => (hb.2.2.1.2 r hr).2.2.2.2.2.2.1), sN_ext h12 (fun r h1 h2 => hI.2.2.2.1 r 5 h1 h2 (by omega))]
    rfl
  have hld : sm (mem (κ + 1 + 3 + 12)) 12 = nI (countN G 6) := by
    rw [sm_nI (F := laidN G.1) 12 (fun r hr => (hb.2.2.1.2 r hr).2.2.2.2.2.1), sN_ext h12 (fun r h1 h2 => laidN_far hI h1)]
    rfl
  refine x_iload_n d_Cc_count_0 rfl ?_
  rcases sw_cases w (n := 10) (by omega) with ⟨i, hi, rfl⟩ | ⟨ho, hn⟩
  · rw [hin i (by omega)]
    rcases (show i = 0 ∨ i = 1 ∨ i = 2 ∨ i = 3 ∨ i = 4 ∨ i = 5 ∨ i = 6 ∨ i = 7 ∨ i = 8 ∨ i = 9 ∨ i = 10 by omega) with rfl | rfl | rfl | rfl | rfl | rfl | rfl | rfl | rfl | rfl | rfl
    · refine x_tableIn (off := 59) (tgt := 60) d_Cc_count_1 (by decide) (by decide) (by decide) (by decide) ?_
      refine x_aload_n d_Cc_count_60 rfl ?_
      refine x_getR hL.f0 rfl fs_Cc_10 d_Cc_count_61 ?_
      refine x_getR hL.s1.f0 rfl fs_Cc_50 d_Cc_count_64 ?_
      refine x_getI hL.s1.s3.f0 rfl fs_Cc_54 d_Cc_count_67 ?_
      rw [hb.2.2.1.1]
      refine x_iret rfl rfl d_Cc_count_70 (Nat.zero_le _) (Nat.zero_le _) ?_
      exact ⟨_, rfl, rfl, rfl, rfl, hC, Fr.rf⟩
    · refine x_tableIn (off := 70) (tgt := 71) d_Cc_count_1 (by decide) (by decide) (by decide) (by decide) ?_
      refine x_aload_n d_Cc_count_71 rfl ?_
      refine x_getR hL.f0 rfl fs_Cc_10 d_Cc_count_72 ?_
      refine x_getR hL.s1.f0 rfl fs_Cc_79 d_Cc_count_75 ?_
      refine x_getI hL.s1.s29.f0 rfl fs_Cc_76 d_Cc_count_78 ?_
      rw [hb.2.2.2.2.1]
      refine x_iret rfl rfl d_Cc_count_81 (Nat.zero_le _) (Nat.zero_le _) ?_
      exact ⟨_, rfl, rfl, rfl, rfl, hC, Fr.rf⟩
    · refine x_tableIn (off := 81) (tgt := 82) d_Cc_count_1 (by decide) (by decide) (by decide) (by decide) ?_
      refine x_aload_n d_Cc_count_82 rfl ?_
      refine x_getR hL.f0 rfl fs_Cc_10 d_Cc_count_83 ?_
      refine x_getR hL.s1.f0 rfl fs_Cc_79 d_Cc_count_86 ?_
      refine x_v0p d_Cc_count_89 ml_Cc_231 v_Rm_covered rfl ⟨rfl, rfl⟩ hL.s1.s29.io (Nat.le_of_ble_eq_true rfl) (ct_Rm_covered hL.s1.s29 hb.2.2.2.2.1 h20 (fun i hi => ⟨((hb.2.2.2.2.2 i hi).w8 hI hi).1, ((hb.2.2.2.2.2 i hi).w8 hI hi).2.1⟩)) ?_
      rw [hcov]
      refine x_iret rfl rfl d_Cc_count_92 (Nat.zero_le _) (Nat.zero_le _) ?_
      exact ⟨_, rfl, rfl, rfl, rfl, hC, Fr.rf⟩
    · refine x_tableIn (off := 92) (tgt := 93) d_Cc_count_1 (by decide) (by decide) (by decide) (by decide) ?_
      refine x_aload_n d_Cc_count_93 rfl ?_
      refine x_getR hL.f0 rfl fs_Cc_10 d_Cc_count_94 ?_
      refine x_getR hL.s1.f0 rfl fs_Cc_107 d_Cc_count_97 ?_
      refine x_getI hL.s1.s20.f0 rfl fs_Cc_234 d_Cc_count_100 ?_
      rw [hb.2.2.2.1.2.2.1]
      refine x_iret rfl rfl d_Cc_count_103 (Nat.zero_le _) (Nat.zero_le _) ?_
      exact ⟨_, rfl, rfl, rfl, rfl, hC, Fr.rf⟩
    · refine x_tableIn (off := 103) (tgt := 104) d_Cc_count_1 (by decide) (by decide) (by decide) (by decide) ?_
      refine x_aload_n d_Cc_count_104 rfl ?_
      refine x_getR hL.f0 rfl fs_Cc_10 d_Cc_count_105 ?_
      refine x_getR hL.s1.f0 rfl fs_Cc_107 d_Cc_count_108 ?_
      refine x_getI hL.s1.s20.f0 rfl fs_Cc_237 d_Cc_count_111 ?_
      rw [hb.2.2.2.1.2.2.2.1]
      refine x_iret rfl rfl d_Cc_count_114 (Nat.zero_le _) (Nat.zero_le _) ?_
      exact ⟨_, rfl, rfl, rfl, rfl, hC, Fr.rf⟩
    · refine x_tableIn (off := 114) (tgt := 115) d_Cc_count_1 (by decide) (by decide) (by decide) (by decide) ?_
      refine x_aload_n d_Cc_count_115 rfl ?_
      refine x_getR hL.f0 rfl fs_Cc_10 d_Cc_count_116 ?_
      refine x_getR hL.s1.f0 rfl fs_Cc_50 d_Cc_count_119 ?_
      refine x_getR hL.s1.s3.f0 rfl fs_Cc_178 d_Cc_count_122 ?_
      refine x_v0p d_Cc_count_125 ml_Cc_238 v_Rw_sum rfl ⟨rfl, rfl⟩ (row_io hL.s1.s3.f13) (Nat.le_of_ble_eq_true rfl) (ct_Rw_sum hL.s1.s3.f13 hL.s1.s3.f14 (by omega)) ?_
      rw [hwst]
      refine x_iret rfl rfl d_Cc_count_128 (Nat.zero_le _) (Nat.zero_le _) ?_
      exact ⟨_, rfl, rfl, rfl, rfl, hC, Fr.rf⟩
    · refine x_tableIn (off := 128) (tgt := 129) d_Cc_count_1 (by decide) (by decide) (by decide) (by decide) ?_
      refine x_aload_n d_Cc_count_129 rfl ?_
      refine x_getR hL.f0 rfl fs_Cc_10 d_Cc_count_130 ?_
      refine x_getR hL.s1.f0 rfl fs_Cc_50 d_Cc_count_133 ?_
      refine x_getR hL.s1.s3.f0 rfl fs_Cc_175 d_Cc_count_136 ?_
      refine x_v0p d_Cc_count_139 ml_Cc_238 v_Rw_sum rfl ⟨rfl, rfl⟩ (row_io hL.s1.s3.f11) (Nat.le_of_ble_eq_true rfl) (ct_Rw_sum hL.s1.s3.f11 hL.s1.s3.f12 (by omega)) ?_
      rw [hld]
      refine x_iret rfl rfl d_Cc_count_142 (Nat.zero_le _) (Nat.zero_le _) ?_
      exact ⟨_, rfl, rfl, rfl, rfl, hC, Fr.rf⟩
    · refine x_tableIn (off := 142) (tgt := 143) d_Cc_count_1 (by decide) (by decide) (by decide) (by decide) ?_
      refine x_aload_n d_Cc_count_143 rfl ?_
      refine x_getR hL.f0 rfl fs_Cc_10 d_Cc_count_144 ?_
      refine x_getR hL.s1.f0 rfl fs_Cc_79 d_Cc_count_147 ?_
      refine x_v0p d_Cc_count_150 ml_Cc_241 v_Rm_coveredArea rfl ⟨rfl, rfl⟩ hL.s1.s29.io (Nat.le_of_ble_eq_true rfl) (ct_Rm_coveredArea hL.s1.s29 hb.2.2.2.2.1 h20 (fun i hi => ⟨((hb.2.2.2.2.2 i hi).w8 hI hi).1, ((hb.2.2.2.2.2 i hi).w8 hI hi).2.1⟩) (fun i hi => (hb.2.2.2.2.2 i hi).1)) ?_
      rw [hare]
      refine x_iret rfl rfl d_Cc_count_153 (Nat.zero_le _) (Nat.zero_le _) ?_
      exact ⟨_, rfl, rfl, rfl, rfl, hC, Fr.rf⟩
    · refine x_tableIn (off := 153) (tgt := 154) d_Cc_count_1 (by decide) (by decide) (by decide) (by decide) ?_
      refine x_aload_n d_Cc_count_154 rfl ?_
      refine x_getR hL.f0 rfl fs_Cc_10 d_Cc_count_155 ?_
      refine x_getI hL.s1.f0 rfl fs_Cc_244 d_Cc_count_158 ?_
      rw [hb.2.1]
      refine x_iret rfl rfl d_Cc_count_161 (Nat.zero_le _) (Nat.zero_le _) ?_
      exact ⟨_, rfl, rfl, rfl, rfl, hC, Fr.rf⟩
    · refine x_tableIn (off := 161) (tgt := 162) d_Cc_count_1 (by decide) (by decide) (by decide) (by decide) ?_
      refine x_aload_n d_Cc_count_162 rfl ?_
      refine x_getR hL.f0 rfl fs_Cc_28 d_Cc_count_163 ?_
      refine x_getI hL.s193.f0 rfl fs_Cc_149 d_Cc_count_166 ?_
      rw [show mem (κ + 193) 2 = nI G.2.1.length from hh.2.elim (fun _ z => z.2.2.1)]
      refine x_iret rfl rfl d_Cc_count_169 (Nat.zero_le _) (Nat.zero_le _) ?_
      exact ⟨_, rfl, rfl, rfl, rfl, hC, Fr.rf⟩
    · refine x_tableIn (off := 169) (tgt := 170) d_Cc_count_1 (by decide) (by decide) (by decide) (by decide) ?_
      refine x_aload_n d_Cc_count_170 rfl ?_
      refine x_getR hL.f0 rfl fs_Cc_35 d_Cc_count_171 ?_
      refine x_getI hL.s387.f0 rfl fs_Cc_146 d_Cc_count_174 ?_
      rw [ht.2.1]
      refine x_iret rfl rfl d_Cc_count_177 (Nat.zero_le _) (Nat.zero_le _) ?_
      exact ⟨_, rfl, rfl, rfl, rfl, hC, Fr.rf⟩
  · refine x_tableOut (tgt := 178) d_Cc_count_1 ho (by decide) ?_
    refine x_aload_n d_Cc_count_178 rfl ?_
    refine x_iload_n d_Cc_count_179 rfl ?_
    refine x_bipush (v := nI 11) d_Cc_count_180 (by decide) ?_
    refine x_isub d_Cc_count_182 ?_
    refine x_v1p d_Cc_count_183 ml_Cc_247 v_Cc_setting rfl ⟨rfl, rfl⟩ hL.io (Nat.le_of_ble_eq_true rfl) (ct_Cc_setting hL hC) ?_
    have e : (if hasI (w - nI 11) 5 then nI (G.1 (4 + tN (w - nI 11))) else -2) = vCount G w := by
      by_cases hw : inI w 0 15
      · obtain ⟨i, hi, rfl⟩ := inI_of (by omega) (by omega) hw
        have h11 : 11 ≤ i := by
          by_cases h : i ≤ 10
          · exact absurd ⟨nI_le (Nat.zero_le _) (by omega), nI_le h (by omega)⟩ hn
          · omega
        rw [hin i hi.2, pk_sub h11, if_pos (hasI_nI (by omega) (by omega)), tN_nI (by omega)]
        unfold countN
        rw [if_neg (by omega), if_neg (by omega), if_neg (by omega), if_neg (by omega), if_neg (by omega), if_neg (by omega), if_neg (by omega), if_neg (by omega), if_neg (by omega), if_neg (by omega), if_neg (by omega)]
      · rw [show vCount G w = -2 from if_neg hw, if_neg (fun z => ?_)]
        obtain ⟨j, hj, e⟩ := hasI_of (by omega) z
        have : w = nI (j + 11) := by rw [← nI_add, ← e, Int32.sub_add_cancel]
        rw [this] at hw
        exact hw ⟨nI_le (Nat.zero_le _) (by omega), nI_le (by omega) (by omega)⟩
    rw [e]
    refine x_iret rfl rfl d_Cc_count_186 (Nat.zero_le _) (Nat.zero_le _) ?_
    exact ⟨_, rfl, rfl, rfl, rfl, hC, Fr.rf⟩
end
