/-! p27: one act -/
section
variable {l : Launch} {g : XG} {sh : Nat → Sh} {mem : Mem} {κ : Nat} {G : GS}
theorem ct_La_act (hL : LayCc sh κ) (hC : CR mem κ G) {u x : Int32} : Ct l g M_La_act [rf g κ, .int u, .int x] none sh mem (Ri none sh (CP κ mem (actF G u x))) := by
  have hC0 : CI κ mem G mem := ⟨hC, Fr.rf⟩
  have hI := hC.1
  have h12 := hI.1.1
  have h300 := hI.1.2.1
  have h20 := hI.1.2.2
  obtain ⟨K, hK⟩ : ∃ K, lowN (shN u 3) 14 = K := ⟨_, rfl⟩
  have hK14 : K < 14 := by rw [← hK]; exact lowN_lt (by omega)
  obtain ⟨W, hW⟩ : ∃ W, lowN x 5 = W := ⟨_, rfl⟩
  have hW5 : W < 5 := by rw [← hW]; exact lowN_lt (by omega)
  refine x_begin rfl rfl rfl (by decide) rfl ?_
  refine x_iload_n d_La_act_0 rfl ?_
  refine x_iconst (v := nI 3) d_La_act_1 (by decide) ?_
  refine x_ishrN d_La_act_2 ?_
  refine x_bipush (v := nI 14) d_La_act_3 (by decide) ?_
  refine x_s2p d_La_act_5 ml_La_38 v_La_low rfl ⟨rfl, rfl⟩ rfl (Nat.le_of_ble_eq_true rfl) (ct_La_low  (by omega) (by omega)) ?_
  rw [hK]
  refine x_istore_n d_La_act_8 (by decide) ?_
  refine x_iload_n d_La_act_9 rfl ?_
  refine x_aload_n d_La_act_10 rfl ?_
  refine x_iconst (v := nI 1) d_La_act_11 (by decide) ?_
  refine x_v1i d_La_act_12 ml_La_9 v_Cc_count rfl ⟨rfl, rfl⟩ hL.io (Nat.le_of_ble_eq_true rfl) (ct_Cc_count hL hC0.1) (fun r12 mem12 h12 => ?_)
  obtain ⟨rfl, hC12⟩ := CI.st hC0 h12
  rw [vc_1]
  refine x_iconst (v := nI 1) d_La_act_15 (by decide) ?_
  refine x_iadd d_La_act_16 ?_
  rw [nI_add]
  refine x_s2p d_La_act_17 ml_La_38 v_La_low rfl ⟨rfl, rfl⟩ rfl (Nat.le_of_ble_eq_true rfl) (ct_La_low  (by omega) (by omega)) ?_
  refine x_istore d_La_act_20 (by decide) ?_
  refine x_iload_n d_La_act_22 rfl ?_
  refine x_iconst (v := nI 2) d_La_act_23 (by decide) ?_
  refine x_icmp_ge (tgt := 67) d_La_act_24 (by decide) (fun c24 => ?_) (fun c24 => ?_)
  · have k2 : ¬ K < 2 := by have := nI_le' (by omega) (by omega) c24; omega
    refine x_iload_n d_La_act_67 rfl ?_
    refine x_iconst (v := nI 5) d_La_act_68 (by decide) ?_
    refine x_icmp_ge (tgt := 78) d_La_act_69 (by decide) (fun c69 => ?_) (fun c69 => ?_)
    · have k5 : ¬ K < 5 := by have := nI_le' (by omega) (by omega) c69; omega
      refine x_iload_n d_La_act_78 rfl ?_
      refine x_bipush (v := nI 10) d_La_act_79 (by decide) ?_
      refine x_icmp_ge (tgt := 112) d_La_act_81 (by decide) (fun c81 => ?_) (fun c81 => ?_)
      · have k10 : ¬ K < 10 := by have := nI_le' (by omega) (by omega) c81; omega
        refine x_iload_n d_La_act_112 rfl ?_
        refine x_bipush (v := nI 10) d_La_act_113 (by decide) ?_
        refine x_icmp_ne (tgt := 125) d_La_act_115 (by decide) (fun c115 => ?_) (fun c115 => ?_)
        · have k11 : ¬ K = 10 := nI_ne' c115
          refine x_iload_n d_La_act_125 rfl ?_
          refine x_bipush (v := nI 11) d_La_act_126 (by decide) ?_
          refine x_icmp_ne (tgt := 147) d_La_act_128 (by decide) (fun c128 => ?_) (fun c128 => ?_)
          · have k12 : ¬ K = 11 := nI_ne' c128
            refine x_iload_n d_La_act_147 rfl ?_
            refine x_bipush (v := nI 12) d_La_act_148 (by decide) ?_
            refine x_icmp_ne (tgt := 180) d_La_act_150 (by decide) (fun c150 => ?_) (fun c150 => ?_)
            · have k13 : ¬ K = 12 := nI_ne' c150
              have hA : actF G u x = spSet G (nI W) (nI (lowN (shN x 3) (if W = 0 then 3 else if W = 4 then 2 else 10))) := by
                unfold actF
                rw [hK, if_neg k2, if_neg k5, if_neg k10, if_neg k11, if_neg k12, if_neg k13, hW]
              rw [hA]
              refine x_iload_n d_La_act_180 rfl ?_
              refine x_iconst (v := nI 5) d_La_act_181 (by decide) ?_
              refine x_s2p d_La_act_182 ml_La_38 v_La_low rfl ⟨rfl, rfl⟩ rfl (Nat.le_of_ble_eq_true rfl) (ct_La_low  (by omega) (by omega)) ?_
              rw [hW]
              refine x_istore d_La_act_185 (by decide) ?_
              refine x_aload_n d_La_act_187 rfl ?_
              refine x_iload d_La_act_188 rfl ?_
              refine x_iload_n d_La_act_190 rfl ?_
              refine x_iconst (v := nI 3) d_La_act_191 (by decide) ?_
              refine x_ishrN d_La_act_192 ?_
              refine x_iload d_La_act_193 rfl ?_
              refine x_if_ne (tgt := 202) d_La_act_195 (by decide) (fun c195 => ?_) (fun c195 => ?_)
              · have w0 : ¬ W = 0 := fun z => c195 (by rw [z]; rfl)
                rw [if_neg w0]
                refine x_iload d_La_act_202 rfl ?_
                refine x_iconst (v := nI 4) d_La_act_204 (by decide) ?_
                refine x_icmp_ne (tgt := 212) d_La_act_205 (by decide) (fun c205 => ?_) (fun c205 => ?_)
                · rw [if_neg (show ¬ W = 4 from nI_ne' c205)]
                  refine x_bipush (v := nI 10) d_La_act_212 (by decide) ?_
                  refine x_s2p d_La_act_214 ml_La_38 v_La_low rfl ⟨rfl, rfl⟩ rfl (Nat.le_of_ble_eq_true rfl) (ct_La_low  (by omega) (by omega)) ?_
                  refine x_v2i d_La_act_217 ml_La_70 v_Cc_set rfl ⟨rfl, rfl⟩ hL.io (Nat.le_of_ble_eq_true rfl) (ct_Cc_set hL hC12.1) (fun r217 mem217 h217 => ?_)
                  obtain ⟨rfl, hC217⟩ := CI.act hC12 h217
                  refine x_iret rfl rfl d_La_act_220 (Nat.zero_le _) (Nat.zero_le _) ?_
                  exact ⟨_, rfl, rfl, rfl, rfl, hC217.1, hC217.2⟩
                · rw [if_pos (show W = 4 from nI_eq' (by omega) (by omega) c205)]
                  refine x_iconst (v := nI 2) d_La_act_208 (by decide) ?_
                  refine x_goto (tgt := 214) d_La_act_209 (by decide) ?_
                  refine x_s2p d_La_act_214 ml_La_38 v_La_low rfl ⟨rfl, rfl⟩ rfl (Nat.le_of_ble_eq_true rfl) (ct_La_low  (by omega) (by omega)) ?_
                  refine x_v2i d_La_act_217 ml_La_70 v_Cc_set rfl ⟨rfl, rfl⟩ hL.io (Nat.le_of_ble_eq_true rfl) (ct_Cc_set hL hC12.1) (fun r217 mem217 h217 => ?_)
                  obtain ⟨rfl, hC217⟩ := CI.act hC12 h217
                  refine x_iret rfl rfl d_La_act_220 (Nat.zero_le _) (Nat.zero_le _) ?_
                  exact ⟨_, rfl, rfl, rfl, rfl, hC217.1, hC217.2⟩
              · have w0 : W = 0 := nI_eq' (a := W) (b := 0) (by omega) (by omega) c195
                rw [if_pos w0]
                refine x_iconst (v := nI 3) d_La_act_198 (by decide) ?_
                refine x_goto (tgt := 214) d_La_act_199 (by decide) ?_
                refine x_s2p d_La_act_214 ml_La_38 v_La_low rfl ⟨rfl, rfl⟩ rfl (Nat.le_of_ble_eq_true rfl) (ct_La_low  (by omega) (by omega)) ?_
                refine x_v2i d_La_act_217 ml_La_70 v_Cc_set rfl ⟨rfl, rfl⟩ hL.io (Nat.le_of_ble_eq_true rfl) (ct_Cc_set hL hC12.1) (fun r217 mem217 h217 => ?_)
                obtain ⟨rfl, hC217⟩ := CI.act hC12 h217
                refine x_iret rfl rfl d_La_act_220 (Nat.zero_le _) (Nat.zero_le _) ?_
                exact ⟨_, rfl, rfl, rfl, rfl, hC217.1, hC217.2⟩
            · have k13 : K = 12 := nI_eq' (by omega) (by omega) c150
              have hA : actF G u x = spClear G (nI (lowN x (G.1 0 + 1))) (nI (1 + lowN (shN x 3) 200)) := by
                unfold actF
                rw [hK, if_neg k2, if_neg k5, if_neg k10, if_neg k11, if_neg k12, if_pos k13]
              rw [hA]
              refine x_aload_n d_La_act_153 rfl ?_
              refine x_iload_n d_La_act_154 rfl ?_
              refine x_aload_n d_La_act_155 rfl ?_
              refine x_iconst (v := nI 0) d_La_act_156 (by decide) ?_
              refine x_v1i d_La_act_157 ml_La_9 v_Cc_count rfl ⟨rfl, rfl⟩ hL.io (Nat.le_of_ble_eq_true rfl) (ct_Cc_count hL hC12.1) (fun r157 mem157 h157 => ?_)
              obtain ⟨rfl, hC157⟩ := CI.st hC12 h157
              rw [vc_0]
              refine x_iconst (v := nI 1) d_La_act_160 (by decide) ?_
              refine x_iadd d_La_act_161 ?_
              rw [nI_add]
              refine x_s2p d_La_act_162 ml_La_38 v_La_low rfl ⟨rfl, rfl⟩ rfl (Nat.le_of_ble_eq_true rfl) (ct_La_low  (by omega) (by omega)) ?_
              refine x_iconst (v := nI 1) d_La_act_165 (by decide) ?_
              refine x_iload_n d_La_act_166 rfl ?_
              refine x_iconst (v := nI 3) d_La_act_167 (by decide) ?_
              refine x_ishrN d_La_act_168 ?_
              refine x_sipush (v := nI 200) d_La_act_169 (by decide) ?_
              refine x_s2p d_La_act_172 ml_La_38 v_La_low rfl ⟨rfl, rfl⟩ rfl (Nat.le_of_ble_eq_true rfl) (ct_La_low  (by omega) (by omega)) ?_
              refine x_iadd d_La_act_175 ?_
              rw [nI_add]
              refine x_v2i d_La_act_176 ml_La_67 v_Cc_clear rfl ⟨rfl, rfl⟩ hL.io (Nat.le_of_ble_eq_true rfl) (ct_Cc_clear hL hC157.1) (fun r176 mem176 h176 => ?_)
              obtain ⟨rfl, hC176⟩ := CI.act hC157 h176
              refine x_iret rfl rfl d_La_act_179 (Nat.zero_le _) (Nat.zero_le _) ?_
              exact ⟨_, rfl, rfl, rfl, rfl, hC176.1, hC176.2⟩
          · have k12 : K = 11 := nI_eq' (by omega) (by omega) c128
            have hA : actF G u x = spSell G (nI (lowN x (G.1 1 + 1))) := by
              unfold actF
              rw [hK, if_neg k2, if_neg k5, if_neg k10, if_neg k11, if_pos k12]
            rw [hA]
            refine x_aload_n d_La_act_131 rfl ?_
            refine x_iload_n d_La_act_132 rfl ?_
            refine x_aload_n d_La_act_133 rfl ?_
            refine x_iconst (v := nI 4) d_La_act_134 (by decide) ?_
            refine x_v1i d_La_act_135 ml_La_9 v_Cc_count rfl ⟨rfl, rfl⟩ hL.io (Nat.le_of_ble_eq_true rfl) (ct_Cc_count hL hC12.1) (fun r135 mem135 h135 => ?_)
            obtain ⟨rfl, hC135⟩ := CI.st hC12 h135
            rw [vc_4]
            refine x_iconst (v := nI 1) d_La_act_138 (by decide) ?_
            refine x_iadd d_La_act_139 ?_
            rw [nI_add]
            refine x_s2p d_La_act_140 ml_La_38 v_La_low rfl ⟨rfl, rfl⟩ rfl (Nat.le_of_ble_eq_true rfl) (ct_La_low  (by omega) (by omega)) ?_
            refine x_v1i d_La_act_143 ml_La_64 v_Cc_sell rfl ⟨rfl, rfl⟩ hL.io (Nat.le_of_ble_eq_true rfl) (ct_Cc_sell hL hC135.1) (fun r143 mem143 h143 => ?_)
            obtain ⟨rfl, hC143⟩ := CI.act hC135 h143
            refine x_iret rfl rfl d_La_act_146 (Nat.zero_le _) (Nat.zero_le _) ?_
            exact ⟨_, rfl, rfl, rfl, rfl, hC143.1, hC143.2⟩
        · have k11 : K = 10 := nI_eq' (by omega) (by omega) c115
          have hA : actF G u x = spTakeUp G (nI (lowN x (G.1 2 + 1))) := by
            unfold actF
            rw [hK, if_neg k2, if_neg k5, if_neg k10, if_pos k11]
          rw [hA]
          refine x_aload_n d_La_act_118 rfl ?_
          refine x_iload d_La_act_119 rfl ?_
          refine x_v1i d_La_act_121 ml_La_61 v_Cc_takeUp rfl ⟨rfl, rfl⟩ hL.io (Nat.le_of_ble_eq_true rfl) (ct_Cc_takeUp hL hC12.1) (fun r121 mem121 h121 => ?_)
          obtain ⟨rfl, hC121⟩ := CI.act hC12 h121
          refine x_iret rfl rfl d_La_act_124 (Nat.zero_le _) (Nat.zero_le _) ?_
          exact ⟨_, rfl, rfl, rfl, rfl, hC121.1, hC121.2⟩
      · have k10 : K < 10 := nI_nle' (by omega) (by omega) c81
        have hA : actF G u x = spCover G (nI (lowN x (G.1 2 + 1))) (nI (lowN (shN x 4) (G.1 0 + 1))) (nI (lowN (shN x 7) 2)) := by
          unfold actF
          rw [hK, if_neg k2, if_neg k5, if_pos k10]
        rw [hA]
        refine x_aload_n d_La_act_84 rfl ?_
        refine x_iload d_La_act_85 rfl ?_
        refine x_iload_n d_La_act_87 rfl ?_
        refine x_iconst (v := nI 4) d_La_act_88 (by decide) ?_
        refine x_ishrN d_La_act_89 ?_
        refine x_aload_n d_La_act_90 rfl ?_
        refine x_iconst (v := nI 0) d_La_act_91 (by decide) ?_
        refine x_v1i d_La_act_92 ml_La_9 v_Cc_count rfl ⟨rfl, rfl⟩ hL.io (Nat.le_of_ble_eq_true rfl) (ct_Cc_count hL hC12.1) (fun r92 mem92 h92 => ?_)
        obtain ⟨rfl, hC92⟩ := CI.st hC12 h92
        rw [vc_0]
        refine x_iconst (v := nI 1) d_La_act_95 (by decide) ?_
        refine x_iadd d_La_act_96 ?_
        rw [nI_add]
        refine x_s2p d_La_act_97 ml_La_38 v_La_low rfl ⟨rfl, rfl⟩ rfl (Nat.le_of_ble_eq_true rfl) (ct_La_low  (by omega) (by omega)) ?_
        refine x_iload_n d_La_act_100 rfl ?_
        refine x_bipush (v := nI 7) d_La_act_101 (by decide) ?_
        refine x_ishrN d_La_act_103 ?_
        refine x_iconst (v := nI 2) d_La_act_104 (by decide) ?_
        refine x_s2p d_La_act_105 ml_La_38 v_La_low rfl ⟨rfl, rfl⟩ rfl (Nat.le_of_ble_eq_true rfl) (ct_La_low  (by omega) (by omega)) ?_
        refine x_v3i d_La_act_108 ml_La_58 v_Cc_cover rfl ⟨rfl, rfl⟩ hL.io (Nat.le_of_ble_eq_true rfl) (ct_Cc_cover hL hC92.1) (fun r108 mem108 h108 => ?_)
        obtain ⟨rfl, hC108⟩ := CI.act hC92 h108
        refine x_iret rfl rfl d_La_act_111 (Nat.zero_le _) (Nat.zero_le _) ?_
        exact ⟨_, rfl, rfl, rfl, rfl, hC108.1, hC108.2⟩
    · have k5 : K < 5 := nI_nle' (by omega) (by omega) c69
      have hA : actF G u x = spRooms (G.1, G.2.1, G.2.2.1, txtT x) := by
        unfold actF
        rw [hK, if_neg k2, if_pos k5]
      rw [hA]
      refine x_aload_n d_La_act_72 rfl ?_
      refine x_iload_n d_La_act_73 rfl ?_
      refine x_s2i d_La_act_74 ml_La_54 v_La_read rfl ⟨rfl, rfl⟩ rfl (Nat.le_of_ble_eq_true rfl) (ct_La_read hL hC12.1) (fun r74 mem74 h74 => ?_)
      obtain ⟨rfl, hC74⟩ := CI.act hC12 h74
      refine x_iret rfl rfl d_La_act_77 (Nat.zero_le _) (Nat.zero_le _) ?_
      exact ⟨_, rfl, rfl, rfl, rfl, hC74.1, hC74.2⟩
  · have k2 : K < 2 := nI_nle' (by omega) (by omega) c24
    have hA : actF G u x = spRoll G (nI (lowN x 3)) (nI (4 + lowN (shN x 2) 25)) (nI (1 + lowN (shN x 6) 120)) (nI (lowN (shN x 9) 100)) := by
      unfold actF
      rw [hK, if_pos k2]
    rw [hA]
    refine x_aload_n d_La_act_27 rfl ?_
    refine x_iload_n d_La_act_28 rfl ?_
    refine x_iconst (v := nI 3) d_La_act_29 (by decide) ?_
    refine x_s2p d_La_act_30 ml_La_38 v_La_low rfl ⟨rfl, rfl⟩ rfl (Nat.le_of_ble_eq_true rfl) (ct_La_low  (by omega) (by omega)) ?_
    refine x_iconst (v := nI 4) d_La_act_33 (by decide) ?_
    refine x_iload_n d_La_act_34 rfl ?_
    refine x_iconst (v := nI 2) d_La_act_35 (by decide) ?_
    refine x_ishrN d_La_act_36 ?_
    refine x_bipush (v := nI 25) d_La_act_37 (by decide) ?_
    refine x_s2p d_La_act_39 ml_La_38 v_La_low rfl ⟨rfl, rfl⟩ rfl (Nat.le_of_ble_eq_true rfl) (ct_La_low  (by omega) (by omega)) ?_
    refine x_iadd d_La_act_42 ?_
    rw [nI_add]
    refine x_iconst (v := nI 1) d_La_act_43 (by decide) ?_
    refine x_iload_n d_La_act_44 rfl ?_
    refine x_bipush (v := nI 6) d_La_act_45 (by decide) ?_
    refine x_ishrN d_La_act_47 ?_
    refine x_bipush (v := nI 120) d_La_act_48 (by decide) ?_
    refine x_s2p d_La_act_50 ml_La_38 v_La_low rfl ⟨rfl, rfl⟩ rfl (Nat.le_of_ble_eq_true rfl) (ct_La_low  (by omega) (by omega)) ?_
    refine x_iadd d_La_act_53 ?_
    rw [nI_add]
    refine x_iload_n d_La_act_54 rfl ?_
    refine x_bipush (v := nI 9) d_La_act_55 (by decide) ?_
    refine x_ishrN d_La_act_57 ?_
    refine x_bipush (v := nI 100) d_La_act_58 (by decide) ?_
    refine x_s2p d_La_act_60 ml_La_38 v_La_low rfl ⟨rfl, rfl⟩ rfl (Nat.le_of_ble_eq_true rfl) (ct_La_low  (by omega) (by omega)) ?_
    refine x_v4i d_La_act_63 ml_La_50 v_Cc_roll rfl ⟨rfl, rfl⟩ hL.io (Nat.le_of_ble_eq_true rfl) (ct_Cc_roll hL hC12.1) (fun r63 mem63 h63 => ?_)
    obtain ⟨rfl, hC63⟩ := CI.act hC12 h63
    refine x_iret rfl rfl d_La_act_66 (Nat.zero_le _) (Nat.zero_le _) ?_
    exact ⟨_, rfl, rfl, rfl, rfl, hC63.1, hC63.2⟩
end
