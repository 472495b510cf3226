/-! the reference: a room is told; counts -/
section
variable {l : Launch} {g : XG} {sh : Nat → Sh} {mem : Mem} {μ : Nat} {G : GS}
theorem ct_Mo_room (hM : LayMo sh μ) (hC : MR mem μ G) {i w : Int32} : Ct l g M_Mo_room [rf g μ, .int i, .int w] none sh mem (Ri none sh (MP μ mem (vRoom G.1 i w, G))) := by
  obtain ⟨hI, hn, hh, ht, hs⟩ := id hC
  have h20 := hI.1.2.2
  refine x_begin rfl rfl rfl (by decide) rfl ?_
  refine x_aload_n d_Mo_room_0 rfl ?_
  refine x_iload_n d_Mo_room_1 rfl ?_
  refine x_v1p d_Mo_room_2 ml_Mo_139 v_Mo_isRoom rfl ⟨rfl, rfl⟩ hM.io (Nat.le_of_ble_eq_true rfl) (ct_Mo_isRoom hM hn h20) ?_
  refine x_if_ne (tgt := 10) d_Mo_room_5 (by decide) (fun c5 => ?_) (fun c5 => ?_)
  · have hi0 := bI_n.mp c5
    rw [show vRoom G.1 i w = if inI w 0 8 then roomV G.1 (tN i) (tN w) else -2 from if_pos hi0]
    obtain ⟨i, hi, rfl⟩ := hasI_of (by omega) hi0
    rw [tN_nI (by omega)]
    obtain ⟨k1, k2, k3⟩ := hI.2.2.2.2.1 i hi
    refine x_iload_n d_Mo_room_10 rfl ?_
    refine x_iconst (v := nI 0) d_Mo_room_11 (by decide) ?_
    refine x_bipush (v := nI 8) d_Mo_room_12 (by decide) ?_
    refine x_s3p d_Mo_room_14 ml_Mo_35 v_Mo_in rfl ⟨rfl, rfl⟩ rfl (Nat.le_of_ble_eq_true rfl) (ct_Mo_in) ?_
    refine x_if_ne (tgt := 23) d_Mo_room_17 (by decide) (fun c17 => ?_) (fun c17 => ?_)
    · have hw0 := bI_n.mp c17
      rw [if_pos hw0]
      obtain ⟨w, hw, rfl⟩ := inI_of (by omega) (by omega) hw0
      rw [tN_nI (by omega)]
      refine x_aload_n d_Mo_room_23 rfl ?_
      refine x_iload_n d_Mo_room_24 rfl ?_
      refine x_bipush (v := nI 8) d_Mo_room_25 (by decide) ?_
      refine x_v2p d_Mo_room_27 ml_Mo_74 v_Mo_at rfl ⟨rfl, rfl⟩ hM.io (Nat.le_of_ble_eq_true rfl) (ct_Mo_at hM hn (by omega) (by omega)) ?_
      refine x_iconst (v := nI 1) d_Mo_room_30 (by decide) ?_
      refine x_icmp_ne (tgt := 38) d_Mo_room_31 (by decide) (fun c31 => ?_) (fun c31 => ?_)
      · have h8 : ¬ rq G.1 i 8 = 1 := nI_ne' c31
        refine x_iconst (v := nI 0) d_Mo_room_38 (by decide) ?_
        refine x_istore_n d_Mo_room_39 (by decide) ?_
        refine x_iload_n d_Mo_room_40 rfl ?_
        refine x_iconst (v := nI 3) d_Mo_room_41 (by decide) ?_
        refine x_icmp_le (tgt := 52) d_Mo_room_42 (by decide) (fun c42 => ?_) (fun c42 => ?_)
        · have c42 := nI_le' (by omega) (by omega) c42
          refine x_iload_n d_Mo_room_52 rfl ?_
          rcases (show w ≤ 3 ∨ (4 ≤ w ∧ rq G.1 i 8 = 1) by omega) with hw3 | ⟨hw4, h8⟩
          · rcases (show w = 0 ∨ w = 1 ∨ w = 2 ∨ w = 3 by omega) with rfl | rfl | rfl | rfl
            · refine x_tableIn (off := 47) (tgt := 100) d_Mo_room_53 (by decide) (by decide) (by decide) (by decide) ?_
              refine x_aload_n d_Mo_room_100 rfl ?_
              refine x_iload_n d_Mo_room_101 rfl ?_
              refine x_iconst (v := nI 0) d_Mo_room_102 (by decide) ?_
              refine x_v2p d_Mo_room_103 ml_Mo_74 v_Mo_at rfl ⟨rfl, rfl⟩ hM.io (Nat.le_of_ble_eq_true rfl) (ct_Mo_at hM hn (by omega) (by omega)) ?_
              refine x_iret rfl rfl d_Mo_room_106 (Nat.zero_le _) (Nat.zero_le _) ?_
              exact ⟨_, rfl, rfl, rfl, rfl, hC, Fr.rf⟩
            · refine x_tableIn (off := 54) (tgt := 107) d_Mo_room_53 (by decide) (by decide) (by decide) (by decide) ?_
              refine x_aload_n d_Mo_room_107 rfl ?_
              refine x_iload_n d_Mo_room_108 rfl ?_
              refine x_v1p d_Mo_room_109 ml_Mo_117 v_Mo_area rfl ⟨rfl, rfl⟩ hM.io (Nat.le_of_ble_eq_true rfl) (ct_Mo_area hM hn (by omega) k1) ?_
              refine x_iret rfl rfl d_Mo_room_112 (Nat.zero_le _) (Nat.zero_le _) ?_
              exact ⟨_, rfl, rfl, rfl, rfl, hC, Fr.rf⟩
            · refine x_tableIn (off := 60) (tgt := 113) d_Mo_room_53 (by decide) (by decide) (by decide) (by decide) ?_
              refine x_aload_n d_Mo_room_113 rfl ?_
              refine x_iload_n d_Mo_room_114 rfl ?_
              refine x_bipush (v := nI 7) d_Mo_room_115 (by decide) ?_
              refine x_v2p d_Mo_room_117 ml_Mo_74 v_Mo_at rfl ⟨rfl, rfl⟩ hM.io (Nat.le_of_ble_eq_true rfl) (ct_Mo_at hM hn (by omega) (by omega)) ?_
              refine x_iret rfl rfl d_Mo_room_120 (Nat.zero_le _) (Nat.zero_le _) ?_
              exact ⟨_, rfl, rfl, rfl, rfl, hC, Fr.rf⟩
            · refine x_tableIn (off := 68) (tgt := 121) d_Mo_room_53 (by decide) (by decide) (by decide) (by decide) ?_
              refine x_aload_n d_Mo_room_121 rfl ?_
              refine x_iload_n d_Mo_room_122 rfl ?_
              refine x_bipush (v := nI 8) d_Mo_room_123 (by decide) ?_
              refine x_v2p d_Mo_room_125 ml_Mo_74 v_Mo_at rfl ⟨rfl, rfl⟩ hM.io (Nat.le_of_ble_eq_true rfl) (ct_Mo_at hM hn (by omega) (by omega)) ?_
              refine x_iret rfl rfl d_Mo_room_128 (Nat.zero_le _) (Nat.zero_le _) ?_
              exact ⟨_, rfl, rfl, rfl, rfl, hC, Fr.rf⟩
          · rw [show roomV G.1 i w = nI (covN G.1 i w) by unfold roomV; rw [if_neg (by omega), if_neg (by omega), if_neg (by omega), if_neg (by omega), if_pos h8]]
            rcases (show w = 4 ∨ w = 5 ∨ w = 6 ∨ w = 7 ∨ w = 8 by omega) with rfl | rfl | rfl | rfl | rfl
            · refine x_tableIn (off := 76) (tgt := 129) d_Mo_room_53 (by decide) (by decide) (by decide) (by decide) ?_
              refine x_aload_n d_Mo_room_129 rfl ?_
              refine x_iload_n d_Mo_room_130 rfl ?_
              refine x_bipush (v := nI 9) d_Mo_room_131 (by decide) ?_
              refine x_v2p d_Mo_room_133 ml_Mo_74 v_Mo_at rfl ⟨rfl, rfl⟩ hM.io (Nat.le_of_ble_eq_true rfl) (ct_Mo_at hM hn (by omega) (by omega)) ?_
              refine x_iret rfl rfl d_Mo_room_136 (Nat.zero_le _) (Nat.zero_le _) ?_
              exact ⟨_, rfl, rfl, rfl, rfl, hC, Fr.rf⟩
            · refine x_tableIn (off := 84) (tgt := 137) d_Mo_room_53 (by decide) (by decide) (by decide) (by decide) ?_
              refine x_aload_n d_Mo_room_137 rfl ?_
              refine x_iload_n d_Mo_room_138 rfl ?_
              refine x_bipush (v := nI 10) d_Mo_room_139 (by decide) ?_
              refine x_v2p d_Mo_room_141 ml_Mo_74 v_Mo_at rfl ⟨rfl, rfl⟩ hM.io (Nat.le_of_ble_eq_true rfl) (ct_Mo_at hM hn (by omega) (by omega)) ?_
              refine x_iret rfl rfl d_Mo_room_144 (Nat.zero_le _) (Nat.zero_le _) ?_
              exact ⟨_, rfl, rfl, rfl, rfl, hC, Fr.rf⟩
            · refine x_tableIn (off := 92) (tgt := 145) d_Mo_room_53 (by decide) (by decide) (by decide) (by decide) ?_
              refine x_aload_n d_Mo_room_145 rfl ?_
              refine x_iload_n d_Mo_room_146 rfl ?_
              refine x_v1p d_Mo_room_147 ml_Mo_160 v_Mo_stripsOf rfl ⟨rfl, rfl⟩ hM.io (Nat.le_of_ble_eq_true rfl) (ct_Mo_stripsOf hM hI hn hi h8) ?_
              refine x_iret rfl rfl d_Mo_room_150 (Nat.zero_le _) (Nat.zero_le _) ?_
              exact ⟨_, rfl, rfl, rfl, rfl, hC, Fr.rf⟩
            · refine x_tableIn (off := 98) (tgt := 151) d_Mo_room_53 (by decide) (by decide) (by decide) (by decide) ?_
              refine x_aload_n d_Mo_room_151 rfl ?_
              refine x_iload_n d_Mo_room_152 rfl ?_
              refine x_v1p d_Mo_room_153 ml_Mo_194 v_Mo_seamsOf rfl ⟨rfl, rfl⟩ hM.io (Nat.le_of_ble_eq_true rfl) (ct_Mo_seamsOf hM hI hn hi h8) ?_
              refine x_iret rfl rfl d_Mo_room_156 (Nat.zero_le _) (Nat.zero_le _) ?_
              exact ⟨_, rfl, rfl, rfl, rfl, hC, Fr.rf⟩
            · refine x_tableOut (tgt := 157) d_Mo_room_53 (by decide) (by decide) ?_
              refine x_aload_n d_Mo_room_157 rfl ?_
              refine x_iload_n d_Mo_room_158 rfl ?_
              refine x_bipush (v := nI 11) d_Mo_room_159 (by decide) ?_
              refine x_v2p d_Mo_room_161 ml_Mo_74 v_Mo_at rfl ⟨rfl, rfl⟩ hM.io (Nat.le_of_ble_eq_true rfl) (ct_Mo_at hM hn (by omega) (by omega)) ?_
              refine x_iret rfl rfl d_Mo_room_164 (Nat.zero_le _) (Nat.zero_le _) ?_
              exact ⟨_, rfl, rfl, rfl, rfl, hC, Fr.rf⟩
        · have c42 : 3 < w := nI_nle' (by omega) (by omega) c42
          refine x_iload_n d_Mo_room_45 rfl ?_
          refine x_if_ne (tgt := 52) d_Mo_room_46 (by decide) (fun c46 => ?_) (fun c46 => ?_)
          · exact absurd rfl c46
          · refine x_bipush (v := -5) d_Mo_room_49 (by decide) ?_
            refine x_iret rfl rfl d_Mo_room_51 (Nat.zero_le _) (Nat.zero_le _) ?_
            exact ⟨_, rfl, rfl, rfl, (by show (-5 : Int32) = roomV G.1 i w; unfold roomV; rw [if_neg (by omega), if_neg (by omega), if_neg (by omega), if_neg (by omega), if_neg h8]), hC, Fr.rf⟩
      · have h8 : rq G.1 i 8 = 1 := nI_eq' (by omega) (by omega) c31
        refine x_iconst (v := nI 1) d_Mo_room_34 (by decide) ?_
        refine x_goto (tgt := 39) d_Mo_room_35 (by decide) ?_
        refine x_istore_n d_Mo_room_39 (by decide) ?_
        refine x_iload_n d_Mo_room_40 rfl ?_
        refine x_iconst (v := nI 3) d_Mo_room_41 (by decide) ?_
        refine x_icmp_le (tgt := 52) d_Mo_room_42 (by decide) (fun c42 => ?_) (fun c42 => ?_)
        · have c42 := nI_le' (by omega) (by omega) c42
          refine x_iload_n d_Mo_room_52 rfl ?_
          rcases (show w ≤ 3 ∨ (4 ≤ w ∧ rq G.1 i 8 = 1) by omega) with hw3 | ⟨hw4, h8⟩
          · rcases (show w = 0 ∨ w = 1 ∨ w = 2 ∨ w = 3 by omega) with rfl | rfl | rfl | rfl
            · refine x_tableIn (off := 47) (tgt := 100) d_Mo_room_53 (by decide) (by decide) (by decide) (by decide) ?_
              refine x_aload_n d_Mo_room_100 rfl ?_
              refine x_iload_n d_Mo_room_101 rfl ?_
              refine x_iconst (v := nI 0) d_Mo_room_102 (by decide) ?_
              refine x_v2p d_Mo_room_103 ml_Mo_74 v_Mo_at rfl ⟨rfl, rfl⟩ hM.io (Nat.le_of_ble_eq_true rfl) (ct_Mo_at hM hn (by omega) (by omega)) ?_
              refine x_iret rfl rfl d_Mo_room_106 (Nat.zero_le _) (Nat.zero_le _) ?_
              exact ⟨_, rfl, rfl, rfl, rfl, hC, Fr.rf⟩
            · refine x_tableIn (off := 54) (tgt := 107) d_Mo_room_53 (by decide) (by decide) (by decide) (by decide) ?_
              refine x_aload_n d_Mo_room_107 rfl ?_
              refine x_iload_n d_Mo_room_108 rfl ?_
              refine x_v1p d_Mo_room_109 ml_Mo_117 v_Mo_area rfl ⟨rfl, rfl⟩ hM.io (Nat.le_of_ble_eq_true rfl) (ct_Mo_area hM hn (by omega) k1) ?_
              refine x_iret rfl rfl d_Mo_room_112 (Nat.zero_le _) (Nat.zero_le _) ?_
              exact ⟨_, rfl, rfl, rfl, rfl, hC, Fr.rf⟩
            · refine x_tableIn (off := 60) (tgt := 113) d_Mo_room_53 (by decide) (by decide) (by decide) (by decide) ?_
              refine x_aload_n d_Mo_room_113 rfl ?_
              refine x_iload_n d_Mo_room_114 rfl ?_
              refine x_bipush (v := nI 7) d_Mo_room_115 (by decide) ?_
              refine x_v2p d_Mo_room_117 ml_Mo_74 v_Mo_at rfl ⟨rfl, rfl⟩ hM.io (Nat.le_of_ble_eq_true rfl) (ct_Mo_at hM hn (by omega) (by omega)) ?_
              refine x_iret rfl rfl d_Mo_room_120 (Nat.zero_le _) (Nat.zero_le _) ?_
              exact ⟨_, rfl, rfl, rfl, rfl, hC, Fr.rf⟩
            · refine x_tableIn (off := 68) (tgt := 121) d_Mo_room_53 (by decide) (by decide) (by decide) (by decide) ?_
              refine x_aload_n d_Mo_room_121 rfl ?_
              refine x_iload_n d_Mo_room_122 rfl ?_
              refine x_bipush (v := nI 8) d_Mo_room_123 (by decide) ?_
              refine x_v2p d_Mo_room_125 ml_Mo_74 v_Mo_at rfl ⟨rfl, rfl⟩ hM.io (Nat.le_of_ble_eq_true rfl) (ct_Mo_at hM hn (by omega) (by omega)) ?_
              refine x_iret rfl rfl d_Mo_room_128 (Nat.zero_le _) (Nat.zero_le _) ?_
              exact ⟨_, rfl, rfl, rfl, rfl, hC, Fr.rf⟩
          · rw [show roomV G.1 i w = nI (covN G.1 i w) by unfold roomV; rw [if_neg (by omega), if_neg (by omega), if_neg (by omega), if_neg (by omega), if_pos h8]]
            rcases (show w = 4 ∨ w = 5 ∨ w = 6 ∨ w = 7 ∨ w = 8 by omega) with rfl | rfl | rfl | rfl | rfl
            · refine x_tableIn (off := 76) (tgt := 129) d_Mo_room_53 (by decide) (by decide) (by decide) (by decide) ?_
              refine x_aload_n d_Mo_room_129 rfl ?_
              refine x_iload_n d_Mo_room_130 rfl ?_
              refine x_bipush (v := nI 9) d_Mo_room_131 (by decide) ?_
              refine x_v2p d_Mo_room_133 ml_Mo_74 v_Mo_at rfl ⟨rfl, rfl⟩ hM.io (Nat.le_of_ble_eq_true rfl) (ct_Mo_at hM hn (by omega) (by omega)) ?_
              refine x_iret rfl rfl d_Mo_room_136 (Nat.zero_le _) (Nat.zero_le _) ?_
              exact ⟨_, rfl, rfl, rfl, rfl, hC, Fr.rf⟩
            · refine x_tableIn (off := 84) (tgt := 137) d_Mo_room_53 (by decide) (by decide) (by decide) (by decide) ?_
              refine x_aload_n d_Mo_room_137 rfl ?_
              refine x_iload_n d_Mo_room_138 rfl ?_
              refine x_bipush (v := nI 10) d_Mo_room_139 (by decide) ?_
              refine x_v2p d_Mo_room_141 ml_Mo_74 v_Mo_at rfl ⟨rfl, rfl⟩ hM.io (Nat.le_of_ble_eq_true rfl) (ct_Mo_at hM hn (by omega) (by omega)) ?_
              refine x_iret rfl rfl d_Mo_room_144 (Nat.zero_le _) (Nat.zero_le _) ?_
              exact ⟨_, rfl, rfl, rfl, rfl, hC, Fr.rf⟩
            · refine x_tableIn (off := 92) (tgt := 145) d_Mo_room_53 (by decide) (by decide) (by decide) (by decide) ?_
              refine x_aload_n d_Mo_room_145 rfl ?_
              refine x_iload_n d_Mo_room_146 rfl ?_
              refine x_v1p d_Mo_room_147 ml_Mo_160 v_Mo_stripsOf rfl ⟨rfl, rfl⟩ hM.io (Nat.le_of_ble_eq_true rfl) (ct_Mo_stripsOf hM hI hn hi h8) ?_
              refine x_iret rfl rfl d_Mo_room_150 (Nat.zero_le _) (Nat.zero_le _) ?_
              exact ⟨_, rfl, rfl, rfl, rfl, hC, Fr.rf⟩
            · refine x_tableIn (off := 98) (tgt := 151) d_Mo_room_53 (by decide) (by decide) (by decide) (by decide) ?_
              refine x_aload_n d_Mo_room_151 rfl ?_
              refine x_iload_n d_Mo_room_152 rfl ?_
              refine x_v1p d_Mo_room_153 ml_Mo_194 v_Mo_seamsOf rfl ⟨rfl, rfl⟩ hM.io (Nat.le_of_ble_eq_true rfl) (ct_Mo_seamsOf hM hI hn hi h8) ?_
              refine x_iret rfl rfl d_Mo_room_156 (Nat.zero_le _) (Nat.zero_le _) ?_
              exact ⟨_, rfl, rfl, rfl, rfl, hC, Fr.rf⟩
            · refine x_tableOut (tgt := 157) d_Mo_room_53 (by decide) (by decide) ?_
              refine x_aload_n d_Mo_room_157 rfl ?_
              refine x_iload_n d_Mo_room_158 rfl ?_
              refine x_bipush (v := nI 11) d_Mo_room_159 (by decide) ?_
              refine x_v2p d_Mo_room_161 ml_Mo_74 v_Mo_at rfl ⟨rfl, rfl⟩ hM.io (Nat.le_of_ble_eq_true rfl) (ct_Mo_at hM hn (by omega) (by omega)) ?_
              refine x_iret rfl rfl d_Mo_room_164 (Nat.zero_le _) (Nat.zero_le _) ?_
              exact ⟨_, rfl, rfl, rfl, rfl, hC, Fr.rf⟩
        · have c42 : 3 < w := nI_nle' (by omega) (by omega) c42
          refine x_iload_n d_Mo_room_45 rfl ?_
          refine x_if_ne (tgt := 52) d_Mo_room_46 (by decide) (fun c46 => ?_) (fun c46 => ?_)
          · refine x_iload_n d_Mo_room_52 rfl ?_
            rcases (show w ≤ 3 ∨ (4 ≤ w ∧ rq G.1 i 8 = 1) by omega) with hw3 | ⟨hw4, h8⟩
            · rcases (show w = 0 ∨ w = 1 ∨ w = 2 ∨ w = 3 by omega) with rfl | rfl | rfl | rfl
              · refine x_tableIn (off := 47) (tgt := 100) d_Mo_room_53 (by decide) (by decide) (by decide) (by decide) ?_
                refine x_aload_n d_Mo_room_100 rfl ?_
                refine x_iload_n d_Mo_room_101 rfl ?_
                refine x_iconst (v := nI 0) d_Mo_room_102 (by decide) ?_
                refine x_v2p d_Mo_room_103 ml_Mo_74 v_Mo_at rfl ⟨rfl, rfl⟩ hM.io (Nat.le_of_ble_eq_true rfl) (ct_Mo_at hM hn (by omega) (by omega)) ?_
                refine x_iret rfl rfl d_Mo_room_106 (Nat.zero_le _) (Nat.zero_le _) ?_
                exact ⟨_, rfl, rfl, rfl, rfl, hC, Fr.rf⟩
              · refine x_tableIn (off := 54) (tgt := 107) d_Mo_room_53 (by decide) (by decide) (by decide) (by decide) ?_
                refine x_aload_n d_Mo_room_107 rfl ?_
                refine x_iload_n d_Mo_room_108 rfl ?_
                refine x_v1p d_Mo_room_109 ml_Mo_117 v_Mo_area rfl ⟨rfl, rfl⟩ hM.io (Nat.le_of_ble_eq_true rfl) (ct_Mo_area hM hn (by omega) k1) ?_
                refine x_iret rfl rfl d_Mo_room_112 (Nat.zero_le _) (Nat.zero_le _) ?_
                exact ⟨_, rfl, rfl, rfl, rfl, hC, Fr.rf⟩
              · refine x_tableIn (off := 60) (tgt := 113) d_Mo_room_53 (by decide) (by decide) (by decide) (by decide) ?_
                refine x_aload_n d_Mo_room_113 rfl ?_
                refine x_iload_n d_Mo_room_114 rfl ?_
                refine x_bipush (v := nI 7) d_Mo_room_115 (by decide) ?_
                refine x_v2p d_Mo_room_117 ml_Mo_74 v_Mo_at rfl ⟨rfl, rfl⟩ hM.io (Nat.le_of_ble_eq_true rfl) (ct_Mo_at hM hn (by omega) (by omega)) ?_
                refine x_iret rfl rfl d_Mo_room_120 (Nat.zero_le _) (Nat.zero_le _) ?_
                exact ⟨_, rfl, rfl, rfl, rfl, hC, Fr.rf⟩
              · refine x_tableIn (off := 68) (tgt := 121) d_Mo_room_53 (by decide) (by decide) (by decide) (by decide) ?_
                refine x_aload_n d_Mo_room_121 rfl ?_
                refine x_iload_n d_Mo_room_122 rfl ?_
                refine x_bipush (v := nI 8) d_Mo_room_123 (by decide) ?_
                refine x_v2p d_Mo_room_125 ml_Mo_74 v_Mo_at rfl ⟨rfl, rfl⟩ hM.io (Nat.le_of_ble_eq_true rfl) (ct_Mo_at hM hn (by omega) (by omega)) ?_
                refine x_iret rfl rfl d_Mo_room_128 (Nat.zero_le _) (Nat.zero_le _) ?_
                exact ⟨_, rfl, rfl, rfl, rfl, hC, Fr.rf⟩
            · rw [show roomV G.1 i w = nI (covN G.1 i w) by unfold roomV; rw [if_neg (by omega), if_neg (by omega), if_neg (by omega), if_neg (by omega), if_pos h8]]
              rcases (show w = 4 ∨ w = 5 ∨ w = 6 ∨ w = 7 ∨ w = 8 by omega) with rfl | rfl | rfl | rfl | rfl
              · refine x_tableIn (off := 76) (tgt := 129) d_Mo_room_53 (by decide) (by decide) (by decide) (by decide) ?_
                refine x_aload_n d_Mo_room_129 rfl ?_
                refine x_iload_n d_Mo_room_130 rfl ?_
                refine x_bipush (v := nI 9) d_Mo_room_131 (by decide) ?_
                refine x_v2p d_Mo_room_133 ml_Mo_74 v_Mo_at rfl ⟨rfl, rfl⟩ hM.io (Nat.le_of_ble_eq_true rfl) (ct_Mo_at hM hn (by omega) (by omega)) ?_
                refine x_iret rfl rfl d_Mo_room_136 (Nat.zero_le _) (Nat.zero_le _) ?_
                exact ⟨_, rfl, rfl, rfl, rfl, hC, Fr.rf⟩
              · refine x_tableIn (off := 84) (tgt := 137) d_Mo_room_53 (by decide) (by decide) (by decide) (by decide) ?_
                refine x_aload_n d_Mo_room_137 rfl ?_
                refine x_iload_n d_Mo_room_138 rfl ?_
                refine x_bipush (v := nI 10) d_Mo_room_139 (by decide) ?_
                refine x_v2p d_Mo_room_141 ml_Mo_74 v_Mo_at rfl ⟨rfl, rfl⟩ hM.io (Nat.le_of_ble_eq_true rfl) (ct_Mo_at hM hn (by omega) (by omega)) ?_
                refine x_iret rfl rfl d_Mo_room_144 (Nat.zero_le _) (Nat.zero_le _) ?_
                exact ⟨_, rfl, rfl, rfl, rfl, hC, Fr.rf⟩
              · refine x_tableIn (off := 92) (tgt := 145) d_Mo_room_53 (by decide) (by decide) (by decide) (by decide) ?_
                refine x_aload_n d_Mo_room_145 rfl ?_
                refine x_iload_n d_Mo_room_146 rfl ?_
                refine x_v1p d_Mo_room_147 ml_Mo_160 v_Mo_stripsOf rfl ⟨rfl, rfl⟩ hM.io (Nat.le_of_ble_eq_true rfl) (ct_Mo_stripsOf hM hI hn hi h8) ?_
                refine x_iret rfl rfl d_Mo_room_150 (Nat.zero_le _) (Nat.zero_le _) ?_
                exact ⟨_, rfl, rfl, rfl, rfl, hC, Fr.rf⟩
              · refine x_tableIn (off := 98) (tgt := 151) d_Mo_room_53 (by decide) (by decide) (by decide) (by decide) ?_
                refine x_aload_n d_Mo_room_151 rfl ?_
                refine x_iload_n d_Mo_room_152 rfl ?_
                refine x_v1p d_Mo_room_153 ml_Mo_194 v_Mo_seamsOf rfl ⟨rfl, rfl⟩ hM.io (Nat.le_of_ble_eq_true rfl) (ct_Mo_seamsOf hM hI hn hi h8) ?_
                refine x_iret rfl rfl d_Mo_room_156 (Nat.zero_le _) (Nat.zero_le _) ?_
                exact ⟨_, rfl, rfl, rfl, rfl, hC, Fr.rf⟩
              · refine x_tableOut (tgt := 157) d_Mo_room_53 (by decide) (by decide) ?_
                refine x_aload_n d_Mo_room_157 rfl ?_
                refine x_iload_n d_Mo_room_158 rfl ?_
                refine x_bipush (v := nI 11) d_Mo_room_159 (by decide) ?_
                refine x_v2p d_Mo_room_161 ml_Mo_74 v_Mo_at rfl ⟨rfl, rfl⟩ hM.io (Nat.le_of_ble_eq_true rfl) (ct_Mo_at hM hn (by omega) (by omega)) ?_
                refine x_iret rfl rfl d_Mo_room_164 (Nat.zero_le _) (Nat.zero_le _) ?_
                exact ⟨_, rfl, rfl, rfl, rfl, hC, Fr.rf⟩
          · exact absurd c46 (by decide)
    · rw [if_neg (bI_0.mp c17)]
      refine x_bipush (v := -2) d_Mo_room_20 (by decide) ?_
      refine x_iret rfl rfl d_Mo_room_22 (Nat.zero_le _) (Nat.zero_le _) ?_
      exact ⟨_, rfl, rfl, rfl, rfl, hC, Fr.rf⟩
  · rw [show vRoom G.1 i w = -1 from if_neg (bI_0.mp c5)]
    refine x_iconst (v := -1) d_Mo_room_8 (by decide) ?_
    refine x_iret rfl rfl d_Mo_room_9 (Nat.zero_le _) (Nat.zero_le _) ?_
    exact ⟨_, rfl, rfl, rfl, rfl, hC, Fr.rf⟩
theorem ct_Mo_count (hM : LayMo sh μ) (hC : MR mem μ G) {w : Int32} : Ct l g M_Mo_count [rf g μ, .int w] none sh mem (Ri none sh (MP μ mem (vCount G w, G))) := by
  obtain ⟨hI, hn, hh, ht, hs⟩ := id hC
  have h20 := hI.1.2.2
  have h12 := hI.1.1
  have h300 := hI.1.2.1
  have hin : ∀ i, i ≤ 15 → vCount G (nI i) = nI (countN G i) := fun i hi => by
    unfold vCount
    rw [if_pos ⟨nI_le (Nat.zero_le _) (by omega), nI_le hi (by omega)⟩, tN_nI (by omega)]
  refine x_begin rfl rfl rfl (by decide) rfl ?_
  refine x_iload_n d_Mo_count_0 rfl ?_
  refine x_bipush (v := nI 11) d_Mo_count_1 (by decide) ?_
  refine x_bipush (v := nI 15) d_Mo_count_3 (by decide) ?_
  refine x_s3p d_Mo_count_5 ml_Mo_35 v_Mo_in rfl ⟨rfl, rfl⟩ rfl (Nat.le_of_ble_eq_true rfl) (ct_Mo_in) ?_
  refine x_if_eq (tgt := 23) d_Mo_count_8 (by decide) (fun c8 => ?_) (fun c8 => ?_)
  · have h8 := bI_0.mp c8
    refine x_iconst (v := nI 0) d_Mo_count_23 (by decide) ?_
    refine x_istore_n d_Mo_count_24 (by decide) ?_
    refine x_iconst (v := nI 0) d_Mo_count_25 (by decide) ?_
    refine x_istore_n d_Mo_count_26 (by decide) ?_
    refine x_iconst (v := nI 0) d_Mo_count_27 (by decide) ?_
    refine x_istore d_Mo_count_28 (by decide) ?_
    refine x_iconst (v := nI 0) d_Mo_count_30 (by decide) ?_
    refine x_istore d_Mo_count_31 (by decide) ?_
    refine up_ind (G.1 2) (P := fun j => X l g M_Mo_count (XF g (Ri none sh (MP μ mem (vCount G w, G))) M_Mo_count) 33 [some (rf g μ), some (.int w), some (.int (nI (cnt (fun i => decide (rq G.1 i 8 = 1)) j))), some (.int (nI (sN (fun i => if rq G.1 i 8 = 1 then areaN (rq G.1 i) else 0) j))), some (.int (nI 0)), some (.int (nI j))] [] none sh mem 0 0) (fun j hj ih => ?_) 0 (Nat.zero_le _)
    refine x_iload d_Mo_count_33 rfl ?_
    refine x_aload_n d_Mo_count_35 rfl ?_
    refine x_getR hM.f0 rfl fs_Mo_7 d_Mo_count_36 ?_
    refine x_iconst (v := nI 2) d_Mo_count_39 (by decide) ?_
    refine x_iald hM.f1 (vp_in_nI (by omega) (by omega)) d_Mo_count_40 ?_
    rw [nI_clamp (by omega), hn _ (by omega)]
    refine x_icmp_ge (tgt := 86) d_Mo_count_41 (by decide) (fun c41 => ?_) (fun c41 => ?_)
    · have hj2 : j = G.1 2 := by have := nI_le' (by omega) (by omega) c41; omega
      rw [hj2]
      refine x_iconst (v := nI 0) d_Mo_count_86 (by decide) ?_
      refine x_istore d_Mo_count_87 (by decide) ?_
      refine up_ind (G.1 0) (P := fun j => X l g M_Mo_count (XF g (Ri none sh (MP μ mem (vCount G w, G))) M_Mo_count) 89 [some (rf g μ), some (.int w), some (.int (nI (cnt (fun i => decide (rq G.1 i 8 = 1)) (G.1 2)))), some (.int (nI (sN (fun i => if rq G.1 i 8 = 1 then areaN (rq G.1 i) else 0) (G.1 2)))), some (.int (nI (sN (laidN G.1) j))), some (.int (nI j))] [] none sh mem 0 0) (fun j hj ih => ?_) 0 (Nat.zero_le _)
      refine x_iload d_Mo_count_89 rfl ?_
      refine x_aload_n d_Mo_count_91 rfl ?_
      refine x_getR hM.f0 rfl fs_Mo_7 d_Mo_count_92 ?_
      refine x_iconst (v := nI 0) d_Mo_count_95 (by decide) ?_
      refine x_iald hM.f1 (vp_in_nI (by omega) (by omega)) d_Mo_count_96 ?_
      rw [nI_clamp (by omega), hn _ (by omega)]
      refine x_icmp_ge (tgt := 117) d_Mo_count_97 (by decide) (fun c97 => ?_) (fun c97 => ?_)
      · have hj3 : j = G.1 0 := by have := nI_le' (by omega) (by omega) c97; omega
        rw [hj3]
        refine x_iload_n d_Mo_count_117 rfl ?_
        rcases sw_cases w (n := 10) (by omega) with ⟨i, hi, rfl⟩ | ⟨ho, hno⟩
        · rw [hin i (by omega)]
          rcases (show i = 0 ∨ i = 1 ∨ i = 2 ∨ i = 3 ∨ i = 4 ∨ i = 5 ∨ i = 6 ∨ i = 7 ∨ i = 8 ∨ i = 9 ∨ i = 10 by omega) with rfl | rfl | rfl | rfl | rfl | rfl | rfl | rfl | rfl | rfl | rfl
          · refine x_tableIn (off := 58) (tgt := 176) d_Mo_count_118 (by decide) (by decide) (by decide) (by decide) ?_
            refine x_aload_n d_Mo_count_176 rfl ?_
            refine x_getR hM.f0 rfl fs_Mo_7 d_Mo_count_177 ?_
            refine x_iconst (v := nI 0) d_Mo_count_180 (by decide) ?_
            refine x_iald hM.f1 (vp_in_nI (by omega) (by omega)) d_Mo_count_181 ?_
            rw [nI_clamp (by omega), hn _ (by omega)]
            refine x_iret rfl rfl d_Mo_count_182 (Nat.zero_le _) (Nat.zero_le _) ?_
            exact ⟨_, rfl, rfl, rfl, rfl, hC, Fr.rf⟩
          · refine x_tableIn (off := 65) (tgt := 183) d_Mo_count_118 (by decide) (by decide) (by decide) (by decide) ?_
            refine x_aload_n d_Mo_count_183 rfl ?_
            refine x_getR hM.f0 rfl fs_Mo_7 d_Mo_count_184 ?_
            refine x_iconst (v := nI 2) d_Mo_count_187 (by decide) ?_
            refine x_iald hM.f1 (vp_in_nI (by omega) (by omega)) d_Mo_count_188 ?_
            rw [nI_clamp (by omega), hn _ (by omega)]
            refine x_iret rfl rfl d_Mo_count_189 (Nat.zero_le _) (Nat.zero_le _) ?_
            exact ⟨_, rfl, rfl, rfl, rfl, hC, Fr.rf⟩
          · refine x_tableIn (off := 72) (tgt := 190) d_Mo_count_118 (by decide) (by decide) (by decide) (by decide) ?_
            refine x_iload_n d_Mo_count_190 rfl ?_
            refine x_iret rfl rfl d_Mo_count_191 (Nat.zero_le _) (Nat.zero_le _) ?_
            exact ⟨_, rfl, rfl, rfl, rfl, hC, Fr.rf⟩
          · refine x_tableIn (off := 74) (tgt := 192) d_Mo_count_118 (by decide) (by decide) (by decide) (by decide) ?_
            refine x_aload_n d_Mo_count_192 rfl ?_
            refine x_v0p d_Mo_count_193 ml_Mo_64 v_Mo_keptOnes rfl ⟨rfl, rfl⟩ hM.io (Nat.le_of_ble_eq_true rfl) (ct_Mo_keptOnes hM hn h300 hI.roc) ?_
            refine x_iret rfl rfl d_Mo_count_196 (Nat.zero_le _) (Nat.zero_le _) ?_
            exact ⟨_, rfl, rfl, rfl, rfl, hC, Fr.rf⟩
          · refine x_tableIn (off := 79) (tgt := 197) d_Mo_count_118 (by decide) (by decide) (by decide) (by decide) ?_
            refine x_aload_n d_Mo_count_197 rfl ?_
            refine x_getR hM.f0 rfl fs_Mo_7 d_Mo_count_198 ?_
            refine x_iconst (v := nI 1) d_Mo_count_201 (by decide) ?_
            refine x_iald hM.f1 (vp_in_nI (by omega) (by omega)) d_Mo_count_202 ?_
            rw [nI_clamp (by omega), hn _ (by omega)]
            refine x_iret rfl rfl d_Mo_count_203 (Nat.zero_le _) (Nat.zero_le _) ?_
            exact ⟨_, rfl, rfl, rfl, rfl, hC, Fr.rf⟩
          · refine x_tableIn (off := 86) (tgt := 204) d_Mo_count_118 (by decide) (by decide) (by decide) (by decide) ?_
            refine x_aload_n d_Mo_count_204 rfl ?_
            refine x_v0p d_Mo_count_205 ml_Mo_197 v_Mo_wasteOfAll rfl ⟨rfl, rfl⟩ hM.io (Nat.le_of_ble_eq_true rfl) (ct_Mo_wasteOfAll hM hn h12) ?_
            refine x_iret rfl rfl d_Mo_count_208 (Nat.zero_le _) (Nat.zero_le _) ?_
            exact ⟨_, rfl, rfl, rfl, rfl, hC, Fr.rf⟩
          · refine x_tableIn (off := 91) (tgt := 209) d_Mo_count_118 (by decide) (by decide) (by decide) (by decide) ?_
            refine x_iload d_Mo_count_209 rfl ?_
            refine x_iret rfl rfl d_Mo_count_211 (Nat.zero_le _) (Nat.zero_le _) ?_
            exact ⟨_, rfl, rfl, rfl, rfl, hC, Fr.rf⟩
          · refine x_tableIn (off := 94) (tgt := 212) d_Mo_count_118 (by decide) (by decide) (by decide) (by decide) ?_
            refine x_iload_n d_Mo_count_212 rfl ?_
            refine x_iret rfl rfl d_Mo_count_213 (Nat.zero_le _) (Nat.zero_le _) ?_
            exact ⟨_, rfl, rfl, rfl, rfl, hC, Fr.rf⟩
          · refine x_tableIn (off := 96) (tgt := 214) d_Mo_count_118 (by decide) (by decide) (by decide) (by decide) ?_
            refine x_aload_n d_Mo_count_214 rfl ?_
            refine x_getR hM.f0 rfl fs_Mo_7 d_Mo_count_215 ?_
            refine x_iconst (v := nI 3) d_Mo_count_218 (by decide) ?_
            refine x_iald hM.f1 (vp_in_nI (by omega) (by omega)) d_Mo_count_219 ?_
            rw [nI_clamp (by omega), hn _ (by omega)]
            refine x_iret rfl rfl d_Mo_count_220 (Nat.zero_le _) (Nat.zero_le _) ?_
            exact ⟨_, rfl, rfl, rfl, rfl, hC, Fr.rf⟩
          · refine x_tableIn (off := 103) (tgt := 221) d_Mo_count_118 (by decide) (by decide) (by decide) (by decide) ?_
            refine x_aload_n d_Mo_count_221 rfl ?_
            refine x_getI hM.f0 rfl fs_Mo_31 d_Mo_count_222 ?_
            rw [hh.2.1]
            refine x_iret rfl rfl d_Mo_count_225 (Nat.zero_le _) (Nat.zero_le _) ?_
            exact ⟨_, rfl, rfl, rfl, rfl, hC, Fr.rf⟩
          · refine x_tableIn (off := 108) (tgt := 226) d_Mo_count_118 (by decide) (by decide) (by decide) (by decide) ?_
            refine x_aload_n d_Mo_count_226 rfl ?_
            refine x_getI hM.f0 rfl fs_Mo_175 d_Mo_count_227 ?_
            rw [ht.2.1]
            refine x_iret rfl rfl d_Mo_count_230 (Nat.zero_le _) (Nat.zero_le _) ?_
            exact ⟨_, rfl, rfl, rfl, rfl, hC, Fr.rf⟩
        · rw [show vCount G w = -2 from if_neg (fun z => by obtain ⟨i, hi, rfl⟩ := inI_of (by omega) (by omega) z; by_cases h : i ≤ 10; (· exact hno ⟨nI_pos' (by omega), nI_le h (by omega)⟩); (· exact h8 ⟨nI_le (by omega) (by omega), nI_le hi.2 (by omega)⟩))]
          refine x_tableOut (tgt := 231) d_Mo_count_118 ho (by decide) ?_
          refine x_bipush (v := -2) d_Mo_count_231 (by decide) ?_
          refine x_iret rfl rfl d_Mo_count_233 (Nat.zero_le _) (Nat.zero_le _) ?_
          exact ⟨_, rfl, rfl, rfl, rfl, hC, Fr.rf⟩
      · have hj3 := nI_nle' (by omega) (by omega) c97
        refine x_iload d_Mo_count_100 rfl ?_
        refine x_aload_n d_Mo_count_102 rfl ?_
        refine x_iload d_Mo_count_103 rfl ?_
        refine x_v1p d_Mo_count_105 ml_Mo_191 v_Mo_laid rfl ⟨rfl, rfl⟩ hM.io (Nat.le_of_ble_eq_true rfl) (ct_Mo_laid hM hI hn (by omega)) ?_
        refine x_iadd d_Mo_count_108 ?_
        rw [nI_add]
        refine x_istore d_Mo_count_109 (by decide) ?_
        refine x_iinc d_Mo_count_111 rfl (by first | exact inc1 _ | rfl) (by decide) ?_
        refine x_goto (tgt := 89) d_Mo_count_114 (by decide) ?_
        exact ih hj3
    · have hj2 := nI_nle' (by omega) (by omega) c41
      have h9 := ih hj2
      obtain ⟨k1, k2, k3⟩ := hI.2.2.2.2.1 j hj2
      refine x_iload_n d_Mo_count_44 rfl ?_
      refine x_aload_n d_Mo_count_45 rfl ?_
      refine x_iload d_Mo_count_46 rfl ?_
      refine x_bipush (v := nI 8) d_Mo_count_48 (by decide) ?_
      refine x_v2p d_Mo_count_50 ml_Mo_74 v_Mo_at rfl ⟨rfl, rfl⟩ hM.io (Nat.le_of_ble_eq_true rfl) (ct_Mo_at hM hn (by omega) (by omega)) ?_
      refine x_iadd d_Mo_count_53 ?_
      rw [nI_add]
      refine x_istore_n d_Mo_count_54 (by decide) ?_
      refine x_iload_n d_Mo_count_55 rfl ?_
      refine x_aload_n d_Mo_count_56 rfl ?_
      refine x_iload d_Mo_count_57 rfl ?_
      refine x_bipush (v := nI 8) d_Mo_count_59 (by decide) ?_
      refine x_v2p d_Mo_count_61 ml_Mo_74 v_Mo_at rfl ⟨rfl, rfl⟩ hM.io (Nat.le_of_ble_eq_true rfl) (ct_Mo_at hM hn (by omega) (by omega)) ?_
      refine x_iconst (v := nI 1) d_Mo_count_64 (by decide) ?_
      refine x_icmp_ne (tgt := 77) d_Mo_count_65 (by decide) (fun c65 => ?_) (fun c65 => ?_)
      · have c65 : ¬ rq G.1 j 8 = 1 := nI_ne' c65
        rw [cnt_f (decide_eq_false c65), sN, if_neg c65] at h9
        rw [show rq G.1 j 8 = 0 by omega]
        refine x_iconst (v := nI 0) d_Mo_count_77 (by decide) ?_
        refine x_iadd d_Mo_count_78 ?_
        rw [nI_add]
        refine x_istore_n d_Mo_count_79 (by decide) ?_
        refine x_iinc d_Mo_count_80 rfl (by first | exact inc1 _ | rfl) (by decide) ?_
        refine x_goto (tgt := 33) d_Mo_count_83 (by decide) ?_
        exact h9
      · have c65 : rq G.1 j 8 = 1 := nI_eq' (by omega) (by omega) c65
        rw [cnt_t (decide_eq_true c65), sN, if_pos c65] at h9
        rw [c65]
        refine x_aload_n d_Mo_count_68 rfl ?_
        refine x_iload d_Mo_count_69 rfl ?_
        refine x_v1p d_Mo_count_71 ml_Mo_117 v_Mo_area rfl ⟨rfl, rfl⟩ hM.io (Nat.le_of_ble_eq_true rfl) (ct_Mo_area hM hn (by omega) k1) ?_
        refine x_goto (tgt := 78) d_Mo_count_74 (by decide) ?_
        refine x_iadd d_Mo_count_78 ?_
        rw [nI_add]
        refine x_istore_n d_Mo_count_79 (by decide) ?_
        refine x_iinc d_Mo_count_80 rfl (by first | exact inc1 _ | rfl) (by decide) ?_
        refine x_goto (tgt := 33) d_Mo_count_83 (by decide) ?_
        exact h9
  · obtain ⟨i, hi, rfl⟩ := inI_of (x := w) (a := 11) (b := 15) (by omega) (by omega) (bI_n.mp c8)
    rw [hin i hi.2]
    refine x_aload_n d_Mo_count_11 rfl ?_
    refine x_getR hM.f0 rfl fs_Mo_7 d_Mo_count_12 ?_
    refine x_iconst (v := nI 4) d_Mo_count_15 (by decide) ?_
    refine x_iload_n d_Mo_count_16 rfl ?_
    refine x_iadd d_Mo_count_17 ?_
    rw [nI_add]
    refine x_bipush (v := nI 11) d_Mo_count_18 (by decide) ?_
    refine x_isub d_Mo_count_20 ?_
    rw [pk_sub (by omega)]
    refine x_iald hM.f1 (vp_in_nI (by omega) (by omega)) d_Mo_count_21 ?_
    rw [nI_clamp (by omega), hn _ (by omega)]
    refine x_iret rfl rfl d_Mo_count_22 (Nat.zero_le _) (Nat.zero_le _) ?_
    have e : countN G i = G.1 (4 + i - 11) := by
      unfold countN
      rw [if_neg (by omega), if_neg (by omega), if_neg (by omega), if_neg (by omega), if_neg (by omega), if_neg (by omega), if_neg (by omega), if_neg (by omega), if_neg (by omega), if_neg (by omega), if_neg (by omega), show 4 + (i - 11) = 4 + i - 11 by omega]
    exact ⟨_, rfl, rfl, rfl, by rw [e], hC, Fr.rf⟩
end
