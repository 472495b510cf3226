/-! p27: the areas of the rolls, told in all ways -/
theorem vc_0 {G : GS} : vCount G (nI 0) = nI (G.1 0) := vCount_at (by omega)
theorem vc_1 {G : GS} : vCount G (nI 1) = nI (G.1 2) := vCount_at (by omega)
theorem vc_2 {G : GS} : vCount G (nI 2) = nI (cnt (fun i => decide (rq G.1 i 8 = 1)) (G.1 2)) := vCount_at (by omega)
theorem vc_3 {G : GS} : vCount G (nI 3) = nI (nK G.1) := vCount_at (by omega)
theorem vc_4 {G : GS} : vCount G (nI 4) = nI (G.1 1) := vCount_at (by omega)
theorem vc_5 {G : GS} : vCount G (nI 5) = nI (sN (fun r => ro G.1 r 5) (G.1 0)) := vCount_at (by omega)
theorem vc_6 {G : GS} : vCount G (nI 6) = nI (sN (laidN G.1) (G.1 0)) := vCount_at (by omega)
theorem vc_7 {G : GS} : vCount G (nI 7) = nI (sN (fun i => if rq G.1 i 8 = 1 then areaN (rq G.1 i) else 0) (G.1 2)) := vCount_at (by omega)
theorem vc_9 {G : GS} : vCount G (nI 9) = nI G.2.1.length := vCount_at (by omega)
section
variable {R : RS} {r : Nat}
theorem vr_1 (h12 : R 0 ≤ 12) (hr : r < R 0) : vRollOf R (nI r) (nI 1) = nI (ro R r 1) := vRollOf_at h12 hr (by omega)
theorem vr_2 (h12 : R 0 ≤ 12) (hr : r < R 0) : vRollOf R (nI r) (nI 2) = nI (ro R r 2) := vRollOf_at h12 hr (by omega)
theorem vr_4 (h12 : R 0 ≤ 12) (hr : r < R 0) : vRollOf R (nI r) (nI 4) = nI (ckN R r) := vRollOf_at h12 hr (by omega)
theorem vr_5 (h12 : R 0 ≤ 12) (hr : r < R 0) : vRollOf R (nI r) (nI 5) = nI (akN R r) := vRollOf_at h12 hr (by omega)
theorem vr_6 (h12 : R 0 ≤ 12) (hr : r < R 0) : vRollOf R (nI r) (nI 6) = nI (laidN R r) := vRollOf_at h12 hr (by omega)
theorem vr_7 (h12 : R 0 ≤ 12) (hr : r < R 0) : vRollOf R (nI r) (nI 7) = nI (ro R r 5) := vRollOf_at h12 hr (by omega)
theorem vr_8 (h12 : R 0 ≤ 12) (hr : r < R 0) : vRollOf R (nI r) (nI 8) = nI (ro R r 6) := vRollOf_at h12 hr (by omega)
theorem vr_9 (h12 : R 0 ≤ 12) (hr : r < R 0) : vRollOf R (nI r) (nI 9) = nI (ro R r 1 * ro R r 4) := vRollOf_at h12 hr (by omega)
end
section
variable {l : Launch} {g : XG} {sh : Nat → Sh} {mem : Mem} {κ : Nat} {G : GS}
theorem ct_La_areas (hL : LayCc sh κ) (hC : CR mem κ G) (hJ : JJ G.1) : Ct l g M_La_areas [rf g κ] none sh mem (Ri none sh (CP κ mem (nI 1, G))) := by
  have hI := hC.1
  have h12 := hI.1.1
  have h60 : nK G.1 ≤ 60 := hC.2.1.2.2.2.1.1
  refine x_begin rfl rfl rfl (by decide) rfl ?_
  refine x_iconst (v := nI 0) d_La_areas_0 (by decide) ?_
  refine x_istore_n d_La_areas_1 (by decide) ?_
  refine x_iconst (v := nI 0) d_La_areas_2 (by decide) ?_
  refine x_istore_n d_La_areas_3 (by decide) ?_
  refine x_iconst (v := nI 0) d_La_areas_4 (by decide) ?_
  refine x_istore_n d_La_areas_5 (by decide) ?_
  refine x_iconst (v := nI 0) d_La_areas_6 (by decide) ?_
  refine x_istore d_La_areas_7 (by decide) ?_
  refine up_ind (G.1 0) (P := fun j => ∀ (m : Mem) (v5 v6 : Option Value), CI κ mem G m → X l g M_La_areas (XF g (Ri none sh (CP κ mem (nI 1, G))) M_La_areas) 9 [some (rf g κ), some (.int (nI (sN (laidN G.1) j))), some (.int (nI (sN (fun r => ro G.1 r 5) j))), some (.int (nI (sN (ckN G.1) j))), some (.int (nI j)), v5, v6, none, none] [] none sh m 0 0) (fun j hj ih m v5 v6 hCj => ?_) 0 (Nat.zero_le _) mem none none ⟨hC, Fr.rf⟩
  refine x_iload d_La_areas_9 rfl ?_
  refine x_aload_n d_La_areas_11 rfl ?_
  refine x_iconst (v := nI 0) d_La_areas_12 (by decide) ?_
  refine x_v1i d_La_areas_13 ml_La_9 v_Cc_count rfl ⟨rfl, rfl⟩ hL.io (Nat.le_of_ble_eq_true rfl) (ct_Cc_count hL hCj.1) (fun r13 mem13 h13 => ?_)
  obtain ⟨rfl, hC13⟩ := CI.st hCj h13
  rw [vc_0]
  refine x_icmp_ge (tgt := 181) d_La_areas_16 (by decide) (fun c16 => ?_) (fun c16 => ?_)
  · have hj9 : j = G.1 0 := by have := nI_le' (by omega) (by omega) c16; omega
    subst hj9
    refine x_iload_n d_La_areas_181 rfl ?_
    refine x_aload_n d_La_areas_182 rfl ?_
    refine x_bipush (v := nI 6) d_La_areas_183 (by decide) ?_
    refine x_v1i d_La_areas_185 ml_La_9 v_Cc_count rfl ⟨rfl, rfl⟩ hL.io (Nat.le_of_ble_eq_true rfl) (ct_Cc_count hL hC13.1) (fun r185 mem185 h185 => ?_)
    obtain ⟨rfl, hC185⟩ := CI.st hC13 h185
    rw [vc_6]
    refine x_icmp_ne (tgt := 229) d_La_areas_188 (by decide) (fun c188 => ?_) (fun c188 => ?_)
    · exact absurd rfl c188
    · refine x_iload_n d_La_areas_191 rfl ?_
      refine x_aload_n d_La_areas_192 rfl ?_
      refine x_bipush (v := nI 7) d_La_areas_193 (by decide) ?_
      refine x_v1i d_La_areas_195 ml_La_9 v_Cc_count rfl ⟨rfl, rfl⟩ hL.io (Nat.le_of_ble_eq_true rfl) (ct_Cc_count hL hC185.1) (fun r195 mem195 h195 => ?_)
      obtain ⟨rfl, hC195⟩ := CI.st hC185 h195
      rw [vc_7, ← sum_laid hI]
      refine x_icmp_ne (tgt := 229) d_La_areas_198 (by decide) (fun c198 => ?_) (fun c198 => ?_)
      · exact absurd rfl c198
      · refine x_iload_n d_La_areas_201 rfl ?_
        refine x_aload_n d_La_areas_202 rfl ?_
        refine x_iconst (v := nI 5) d_La_areas_203 (by decide) ?_
        refine x_v1i d_La_areas_204 ml_La_9 v_Cc_count rfl ⟨rfl, rfl⟩ hL.io (Nat.le_of_ble_eq_true rfl) (ct_Cc_count hL hC195.1) (fun r204 mem204 h204 => ?_)
        obtain ⟨rfl, hC204⟩ := CI.st hC195 h204
        rw [vc_5]
        refine x_icmp_ne (tgt := 229) d_La_areas_207 (by decide) (fun c207 => ?_) (fun c207 => ?_)
        · exact absurd rfl c207
        · refine x_iload_n d_La_areas_210 rfl ?_
          refine x_aload_n d_La_areas_211 rfl ?_
          refine x_iconst (v := nI 3) d_La_areas_212 (by decide) ?_
          refine x_v1i d_La_areas_213 ml_La_9 v_Cc_count rfl ⟨rfl, rfl⟩ hL.io (Nat.le_of_ble_eq_true rfl) (ct_Cc_count hL hC204.1) (fun r213 mem213 h213 => ?_)
          obtain ⟨rfl, hC213⟩ := CI.st hC204 h213
          rw [vc_3, sum_kept hI]
          refine x_icmp_ne (tgt := 229) d_La_areas_216 (by decide) (fun c216 => ?_) (fun c216 => ?_)
          · exact absurd rfl c216
          · refine x_iload_n d_La_areas_219 rfl ?_
            refine x_bipush (v := nI 60) d_La_areas_220 (by decide) ?_
            refine x_icmp_gt (tgt := 229) d_La_areas_222 (by decide) (fun c222 => ?_) (fun c222 => ?_)
            · exact absurd (nI_lt' (by omega) (by omega) c222) (by omega)
            · refine x_iconst (v := nI 1) d_La_areas_225 (by decide) ?_
              refine x_goto (tgt := 230) d_La_areas_226 (by decide) ?_
              refine x_iret rfl (by decide) d_La_areas_230 (Nat.zero_le _) (Nat.zero_le _) ?_
              exact ⟨_, rfl, rfl, rfl, rfl, hC213⟩
  · have hj3 := nI_nle' (by omega) (by omega) c16
    obtain ⟨v1, v2, v3, v4, v5', v6'⟩ := hI.2.2.1 j hj3
    have hA : ro G.1 j 1 * ro G.1 j 4 = ro G.1 j 1 * ro G.1 j 2 + akN G.1 j + ro G.1 j 5 + ro G.1 j 6 + laidN G.1 j := hJ.1 j hj3
    have hp1 : ro G.1 j 1 * ro G.1 j 4 ≤ 60 * 999 := mul_b v2.2 v6'
    have hp2 : 0 < ro G.1 j 1 * ro G.1 j 4 := Nat.mul_pos (by omega) (by omega)
    have hsh := share (a := ro G.1 j 5) (b := ro G.1 j 1 * ro G.1 j 4) hp2 (by omega) (by omega)
    refine x_aload_n d_La_areas_19 rfl ?_
    refine x_iload d_La_areas_20 rfl ?_
    refine x_bipush (v := nI 9) d_La_areas_22 (by decide) ?_
    refine x_v2i d_La_areas_24 ml_La_15 v_Cc_rollOf rfl ⟨rfl, rfl⟩ hL.io (Nat.le_of_ble_eq_true rfl) (ct_Cc_rollOf hL hC13.1) (fun r24 mem24 h24 => ?_)
    obtain ⟨rfl, hC24⟩ := CI.st hC13 h24
    rw [vr_9 h12 hj3]
    refine x_istore d_La_areas_27 (by decide) ?_
    refine x_aload_n d_La_areas_29 rfl ?_
    refine x_iload d_La_areas_30 rfl ?_
    refine x_iconst (v := nI 1) d_La_areas_32 (by decide) ?_
    refine x_v2i d_La_areas_33 ml_La_15 v_Cc_rollOf rfl ⟨rfl, rfl⟩ hL.io (Nat.le_of_ble_eq_true rfl) (ct_Cc_rollOf hL hC24.1) (fun r33 mem33 h33 => ?_)
    obtain ⟨rfl, hC33⟩ := CI.st hC24 h33
    rw [vr_1 h12 hj3]
    refine x_aload_n d_La_areas_36 rfl ?_
    refine x_iload d_La_areas_37 rfl ?_
    refine x_iconst (v := nI 2) d_La_areas_39 (by decide) ?_
    refine x_v2i d_La_areas_40 ml_La_15 v_Cc_rollOf rfl ⟨rfl, rfl⟩ hL.io (Nat.le_of_ble_eq_true rfl) (ct_Cc_rollOf hL hC33.1) (fun r40 mem40 h40 => ?_)
    obtain ⟨rfl, hC40⟩ := CI.st hC33 h40
    rw [vr_2 h12 hj3]
    refine x_imul d_La_areas_43 ?_
    rw [pk_mul]
    refine x_istore d_La_areas_44 (by decide) ?_
    refine x_iload d_La_areas_46 rfl ?_
    refine x_iload d_La_areas_48 rfl ?_
    refine x_aload_n d_La_areas_50 rfl ?_
    refine x_iload d_La_areas_51 rfl ?_
    refine x_iconst (v := nI 5) d_La_areas_53 (by decide) ?_
    refine x_v2i d_La_areas_54 ml_La_15 v_Cc_rollOf rfl ⟨rfl, rfl⟩ hL.io (Nat.le_of_ble_eq_true rfl) (ct_Cc_rollOf hL hC40.1) (fun r54 mem54 h54 => ?_)
    obtain ⟨rfl, hC54⟩ := CI.st hC40 h54
    rw [vr_5 h12 hj3]
    refine x_iadd d_La_areas_57 ?_
    rw [nI_add]
    refine x_aload_n d_La_areas_58 rfl ?_
    refine x_iload d_La_areas_59 rfl ?_
    refine x_bipush (v := nI 6) d_La_areas_61 (by decide) ?_
    refine x_v2i d_La_areas_63 ml_La_15 v_Cc_rollOf rfl ⟨rfl, rfl⟩ hL.io (Nat.le_of_ble_eq_true rfl) (ct_Cc_rollOf hL hC54.1) (fun r63 mem63 h63 => ?_)
    obtain ⟨rfl, hC63⟩ := CI.st hC54 h63
    rw [vr_6 h12 hj3]
    refine x_iadd d_La_areas_66 ?_
    rw [nI_add]
    refine x_aload_n d_La_areas_67 rfl ?_
    refine x_iload d_La_areas_68 rfl ?_
    refine x_bipush (v := nI 7) d_La_areas_70 (by decide) ?_
    refine x_v2i d_La_areas_72 ml_La_15 v_Cc_rollOf rfl ⟨rfl, rfl⟩ hL.io (Nat.le_of_ble_eq_true rfl) (ct_Cc_rollOf hL hC63.1) (fun r72 mem72 h72 => ?_)
    obtain ⟨rfl, hC72⟩ := CI.st hC63 h72
    rw [vr_7 h12 hj3]
    refine x_iadd d_La_areas_75 ?_
    rw [nI_add]
    refine x_aload_n d_La_areas_76 rfl ?_
    refine x_iload d_La_areas_77 rfl ?_
    refine x_bipush (v := nI 8) d_La_areas_79 (by decide) ?_
    refine x_v2i d_La_areas_81 ml_La_15 v_Cc_rollOf rfl ⟨rfl, rfl⟩ hL.io (Nat.le_of_ble_eq_true rfl) (ct_Cc_rollOf hL hC72.1) (fun r81 mem81 h81 => ?_)
    obtain ⟨rfl, hC81⟩ := CI.st hC72 h81
    rw [vr_8 h12 hj3]
    refine x_iadd d_La_areas_84 ?_
    rw [nI_add]
    refine x_icmp_ne (tgt := 98) d_La_areas_85 (by decide) (fun c85 => ?_) (fun c85 => ?_)
    · exact absurd (congrArg nI (by omega)) c85
    · refine x_aload_n d_La_areas_88 rfl ?_
      refine x_iload d_La_areas_89 rfl ?_
      refine x_iconst (v := nI 2) d_La_areas_91 (by decide) ?_
      refine x_v2i d_La_areas_92 ml_La_15 v_Cc_rollOf rfl ⟨rfl, rfl⟩ hL.io (Nat.le_of_ble_eq_true rfl) (ct_Cc_rollOf hL hC81.1) (fun r92 mem92 h92 => ?_)
      obtain ⟨rfl, hC92⟩ := CI.st hC81 h92
      rw [vr_2 h12 hj3]
      refine x_if_ge (tgt := 100) d_La_areas_95 (by decide) (fun c95 => ?_) (fun c95 => ?_)
      · refine x_iload_n d_La_areas_100 rfl ?_
        refine x_aload_n d_La_areas_101 rfl ?_
        refine x_iload d_La_areas_102 rfl ?_
        refine x_bipush (v := nI 6) d_La_areas_104 (by decide) ?_
        refine x_v2i d_La_areas_106 ml_La_15 v_Cc_rollOf rfl ⟨rfl, rfl⟩ hL.io (Nat.le_of_ble_eq_true rfl) (ct_Cc_rollOf hL hC92.1) (fun r106 mem106 h106 => ?_)
        obtain ⟨rfl, hC106⟩ := CI.st hC92 h106
        rw [vr_6 h12 hj3]
        refine x_iadd d_La_areas_109 ?_
        rw [nI_add]
        refine x_istore_n d_La_areas_110 (by decide) ?_
        refine x_iload_n d_La_areas_111 rfl ?_
        refine x_aload_n d_La_areas_112 rfl ?_
        refine x_iload d_La_areas_113 rfl ?_
        refine x_bipush (v := nI 7) d_La_areas_115 (by decide) ?_
        refine x_v2i d_La_areas_117 ml_La_15 v_Cc_rollOf rfl ⟨rfl, rfl⟩ hL.io (Nat.le_of_ble_eq_true rfl) (ct_Cc_rollOf hL hC106.1) (fun r117 mem117 h117 => ?_)
        obtain ⟨rfl, hC117⟩ := CI.st hC106 h117
        rw [vr_7 h12 hj3]
        refine x_iadd d_La_areas_120 ?_
        rw [nI_add]
        refine x_istore_n d_La_areas_121 (by decide) ?_
        refine x_iload_n d_La_areas_122 rfl ?_
        refine x_aload_n d_La_areas_123 rfl ?_
        refine x_iload d_La_areas_124 rfl ?_
        refine x_iconst (v := nI 4) d_La_areas_126 (by decide) ?_
        refine x_v2i d_La_areas_127 ml_La_15 v_Cc_rollOf rfl ⟨rfl, rfl⟩ hL.io (Nat.le_of_ble_eq_true rfl) (ct_Cc_rollOf hL hC117.1) (fun r127 mem127 h127 => ?_)
        obtain ⟨rfl, hC127⟩ := CI.st hC117 h127
        rw [vr_4 h12 hj3]
        refine x_iadd d_La_areas_130 ?_
        rw [nI_add]
        refine x_istore_n d_La_areas_131 (by decide) ?_
        refine x_aload_n d_La_areas_132 rfl ?_
        refine x_iload d_La_areas_133 rfl ?_
        refine x_v1p d_La_areas_135 ml_La_22 v_Cc_wasted rfl ⟨rfl, rfl⟩ hL.io (Nat.le_of_ble_eq_true rfl) (ct_Cc_wasted hL hC127.1) ?_
        rw [show vWasted G.1 (nI j) = FP.ddiv (FP.i2d (nI (ro G.1 j 5))) (FP.i2d (nI (ro G.1 j 1 * ro G.1 j 4))) from (if_pos (hasI_nI (by omega) hj3)).trans (by rw [tN_nI (by omega)])]
        refine x_dstore d_La_areas_138 (by decide) (by intro k hk v hv; rcases hk with rfl | rfl <;> cases hv) ?_
        refine y_dload d_La_areas_140 ?_
        refine y_aload_n d_La_areas_142 rfl ?_
        refine y_iload d_La_areas_143 rfl ?_
        refine y_bipush (v := nI 7) d_La_areas_145 (by decide) ?_
        refine y_v2i d_La_areas_147 ml_La_15 v_Cc_rollOf rfl ⟨rfl, rfl⟩ hL.io (Nat.le_of_ble_eq_true rfl) (ct_Cc_rollOf hL hC127.1) (fun r147 mem147 h147 => ?_)
        obtain ⟨rfl, hC147⟩ := CI.st hC127 h147
        rw [vr_7 h12 hj3]
        refine y_i2d d_La_areas_150 ?_
        refine y_iload d_La_areas_151 rfl ?_
        refine y_i2d d_La_areas_153 ?_
        refine y_ddiv d_La_areas_154 (ddiv_n64 _ hp2 (by omega)) ?_
        refine y_dcmp d_La_areas_155 ?_
        refine y_if_ne (tgt := 173) d_La_areas_156 (by decide) hsh.1 ?_
        refine y_dload d_La_areas_159 ?_
        refine y_dconst0 d_La_areas_161 ?_
        refine y_dcmp d_La_areas_162 ?_
        refine y_if_lt (tgt := 173) d_La_areas_163 (by decide) hsh.2.1 ?_
        refine y_dload d_La_areas_166 ?_
        refine y_dconst1 d_La_areas_168 ?_
        refine y_dcmp d_La_areas_169 ?_
        refine y_if_le (tgt := 175) d_La_areas_170 (by decide) hsh.2.2 ?_
        refine x_iinc d_La_areas_175 rfl (by first | exact inc1 _ | rfl) (by decide) ?_
        refine x_goto (tgt := 9) d_La_areas_178 (by decide) ?_
        exact ih hj3 _ _ _ hC147
      · exact absurd (nI_pos' (by omega)) c95
end
