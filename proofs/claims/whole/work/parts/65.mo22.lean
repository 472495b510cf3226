/-! the reference: a roll is told; the offcuts by their areas -/
theorem kept_nI {R : RS} (h300 : R 1 ≤ 300) {k : Nat} (hk : k < R 1) : bI (keptI R (nI k)) = bI (kp R k = true) := bI_c ⟨fun z => by have h := z.2; rw [tN_nI (by omega)] at h; exact h, fun z => ⟨hasI_nI (by omega) hk, by rw [tN_nI (by omega)]; exact z⟩⟩
theorem Inv.oA {R : RS} (hI : Inv R) {k : Nat} (hk : k < R 1) (h : kp R k = true) : oA R k ≤ 3600 := by
  obtain ⟨o1, o2, o3⟩ := hI.off.2 k hk h
  exact mul_b o2 o3
def rkB (R : RS) (k x : Nat) : Bool := kp R x && (decide (oA R x < oA R k) || (decide (oA R x = oA R k) && decide (x < k)))
theorem rkB_N (R : RS) (k : Nat) : cnt (rkB R k) (R 1) = rkN R k := rfl
section
variable {l : Launch} {g : XG} {sh : Nat → Sh} {mem : Mem} {μ : Nat} {G : GS}
theorem ct_Mo_rollOf (hM : LayMo sh μ) (hC : MR mem μ G) {r w : Int32} : Ct l g M_Mo_rollOf [rf g μ, .int r, .int w] none sh mem (Ri none sh (MP μ mem (vRollOf G.1 r w, G))) := by
  obtain ⟨hI, hn, hh, ht, hs⟩ := id hC
  have h12 := hI.1.1
  have h300 := hI.1.2.1
  refine x_begin rfl rfl rfl (by decide) rfl ?_
  refine x_aload_n d_Mo_rollOf_0 rfl ?_
  refine x_iload_n d_Mo_rollOf_1 rfl ?_
  refine x_v1p d_Mo_rollOf_2 ml_Mo_142 v_Mo_isRoll rfl ⟨rfl, rfl⟩ hM.io (Nat.le_of_ble_eq_true rfl) (ct_Mo_isRoll hM hn h12) ?_
  refine x_if_ne (tgt := 10) d_Mo_rollOf_5 (by decide) (fun c5 => ?_) (fun c5 => ?_)
  · have hr0 := bI_n.mp c5
    rw [show vRollOf G.1 r w = if inI w 0 9 then nI (rollN G.1 (tN r) (tN w)) else -2 from if_pos hr0]
    obtain ⟨r, hr, rfl⟩ := hasI_of (by omega) hr0
    rw [tN_nI (n := r) (by omega)]
    refine x_iconst (v := nI 0) d_Mo_rollOf_10 (by decide) ?_
    refine x_istore_n d_Mo_rollOf_11 (by decide) ?_
    refine x_iconst (v := nI 0) d_Mo_rollOf_12 (by decide) ?_
    refine x_istore d_Mo_rollOf_13 (by decide) ?_
    refine x_iconst (v := nI 0) d_Mo_rollOf_15 (by decide) ?_
    refine x_istore d_Mo_rollOf_16 (by decide) ?_
    refine up_ind (G.1 1) (P := fun j => ∀ (u6 : Option Value), X l g M_Mo_rollOf (XF g (Ri none sh (MP μ mem (if inI w 0 9 then nI (rollN G.1 r (tN w)) else -2, G))) M_Mo_rollOf) 18 [some (rf g μ), some (.int (nI r)), some (.int w), some (.int (nI (cnt (fun k => kp G.1 k && decide (oc G.1 k 0 = r + 1)) j))), some (.int (nI (sN (fun k => if kp G.1 k && decide (oc G.1 k 0 = r + 1) then oc G.1 k 1 * oc G.1 k 2 else 0) j))), some (.int (nI j)), u6] [] none sh mem 0 0) (fun j hj ih u6 => ?_) 0 (Nat.zero_le _) _
    refine x_iload d_Mo_rollOf_18 rfl ?_
    refine x_aload_n d_Mo_rollOf_20 rfl ?_
    refine x_getR hM.f0 rfl fs_Mo_7 d_Mo_rollOf_21 ?_
    refine x_iconst (v := nI 1) d_Mo_rollOf_24 (by decide) ?_
    refine x_iald hM.f1 (vp_in_nI (by omega) (by omega)) d_Mo_rollOf_25 ?_
    rw [nI_clamp (by omega), hn _ (by omega)]
    refine x_icmp_ge (tgt := 94) d_Mo_rollOf_26 (by decide) (fun c26 => ?_) (fun c26 => ?_)
    · have hj2 : j = G.1 1 := by have := nI_le' (by omega) (by omega) c26; omega
      rw [hj2]
      refine x_iload_n d_Mo_rollOf_94 rfl ?_
      rcases sw_cases w (n := 9) (by omega) with ⟨i, hi, rfl⟩ | ⟨ho, hno⟩
      · rcases (show i = 0 ∨ i = 1 ∨ i = 2 ∨ i = 3 ∨ i = 4 ∨ i = 5 ∨ i = 6 ∨ i = 7 ∨ i = 8 ∨ i = 9 by omega) with rfl | rfl | rfl | rfl | rfl | rfl | rfl | rfl | rfl | rfl
        · refine x_tableIn (off := 53) (tgt := 148) d_Mo_rollOf_95 (by decide) (by decide) (by decide) (by decide) ?_
          rw [if_pos (show inI (nI 0) 0 9 by decide), tN_nI (by omega)]
          refine x_aload_n d_Mo_rollOf_148 rfl ?_
          refine x_iload_n d_Mo_rollOf_149 rfl ?_
          refine x_iload_n d_Mo_rollOf_150 rfl ?_
          refine x_v2p d_Mo_rollOf_151 ml_Mo_90 v_Mo_of rfl ⟨rfl, rfl⟩ hM.io (Nat.le_of_ble_eq_true rfl) (ct_Mo_of hM hn (by omega) (by omega)) ?_
          refine x_iret rfl rfl d_Mo_rollOf_154 (Nat.zero_le _) (Nat.zero_le _) ?_
          exact ⟨_, rfl, rfl, rfl, rfl, hC, Fr.rf⟩
        · refine x_tableIn (off := 53) (tgt := 148) d_Mo_rollOf_95 (by decide) (by decide) (by decide) (by decide) ?_
          rw [if_pos (show inI (nI 1) 0 9 by decide), tN_nI (by omega)]
          refine x_aload_n d_Mo_rollOf_148 rfl ?_
          refine x_iload_n d_Mo_rollOf_149 rfl ?_
          refine x_iload_n d_Mo_rollOf_150 rfl ?_
          refine x_v2p d_Mo_rollOf_151 ml_Mo_90 v_Mo_of rfl ⟨rfl, rfl⟩ hM.io (Nat.le_of_ble_eq_true rfl) (ct_Mo_of hM hn (by omega) (by omega)) ?_
          refine x_iret rfl rfl d_Mo_rollOf_154 (Nat.zero_le _) (Nat.zero_le _) ?_
          exact ⟨_, rfl, rfl, rfl, rfl, hC, Fr.rf⟩
        · refine x_tableIn (off := 53) (tgt := 148) d_Mo_rollOf_95 (by decide) (by decide) (by decide) (by decide) ?_
          rw [if_pos (show inI (nI 2) 0 9 by decide), tN_nI (by omega)]
          refine x_aload_n d_Mo_rollOf_148 rfl ?_
          refine x_iload_n d_Mo_rollOf_149 rfl ?_
          refine x_iload_n d_Mo_rollOf_150 rfl ?_
          refine x_v2p d_Mo_rollOf_151 ml_Mo_90 v_Mo_of rfl ⟨rfl, rfl⟩ hM.io (Nat.le_of_ble_eq_true rfl) (ct_Mo_of hM hn (by omega) (by omega)) ?_
          refine x_iret rfl rfl d_Mo_rollOf_154 (Nat.zero_le _) (Nat.zero_le _) ?_
          exact ⟨_, rfl, rfl, rfl, rfl, hC, Fr.rf⟩
        · refine x_tableIn (off := 53) (tgt := 148) d_Mo_rollOf_95 (by decide) (by decide) (by decide) (by decide) ?_
          rw [if_pos (show inI (nI 3) 0 9 by decide), tN_nI (by omega)]
          refine x_aload_n d_Mo_rollOf_148 rfl ?_
          refine x_iload_n d_Mo_rollOf_149 rfl ?_
          refine x_iload_n d_Mo_rollOf_150 rfl ?_
          refine x_v2p d_Mo_rollOf_151 ml_Mo_90 v_Mo_of rfl ⟨rfl, rfl⟩ hM.io (Nat.le_of_ble_eq_true rfl) (ct_Mo_of hM hn (by omega) (by omega)) ?_
          refine x_iret rfl rfl d_Mo_rollOf_154 (Nat.zero_le _) (Nat.zero_le _) ?_
          exact ⟨_, rfl, rfl, rfl, rfl, hC, Fr.rf⟩
        · refine x_tableIn (off := 60) (tgt := 155) d_Mo_rollOf_95 (by decide) (by decide) (by decide) (by decide) ?_
          rw [if_pos (show inI (nI 4) 0 9 by decide), tN_nI (by omega)]
          refine x_iload_n d_Mo_rollOf_155 rfl ?_
          refine x_iret rfl rfl d_Mo_rollOf_156 (Nat.zero_le _) (Nat.zero_le _) ?_
          exact ⟨_, rfl, rfl, rfl, rfl, hC, Fr.rf⟩
        · refine x_tableIn (off := 62) (tgt := 157) d_Mo_rollOf_95 (by decide) (by decide) (by decide) (by decide) ?_
          rw [if_pos (show inI (nI 5) 0 9 by decide), tN_nI (by omega)]
          refine x_iload d_Mo_rollOf_157 rfl ?_
          refine x_iret rfl rfl d_Mo_rollOf_159 (Nat.zero_le _) (Nat.zero_le _) ?_
          exact ⟨_, rfl, rfl, rfl, rfl, hC, Fr.rf⟩
        · refine x_tableIn (off := 65) (tgt := 160) d_Mo_rollOf_95 (by decide) (by decide) (by decide) (by decide) ?_
          rw [if_pos (show inI (nI 6) 0 9 by decide), tN_nI (by omega)]
          refine x_aload_n d_Mo_rollOf_160 rfl ?_
          refine x_iload_n d_Mo_rollOf_161 rfl ?_
          refine x_v1p d_Mo_rollOf_162 ml_Mo_191 v_Mo_laid rfl ⟨rfl, rfl⟩ hM.io (Nat.le_of_ble_eq_true rfl) (ct_Mo_laid hM hI hn (by omega)) ?_
          refine x_iret rfl rfl d_Mo_rollOf_165 (Nat.zero_le _) (Nat.zero_le _) ?_
          exact ⟨_, rfl, rfl, rfl, rfl, hC, Fr.rf⟩
        · refine x_tableIn (off := 71) (tgt := 166) d_Mo_rollOf_95 (by decide) (by decide) (by decide) (by decide) ?_
          rw [if_pos (show inI (nI 7) 0 9 by decide), tN_nI (by omega)]
          refine x_aload_n d_Mo_rollOf_166 rfl ?_
          refine x_iload_n d_Mo_rollOf_167 rfl ?_
          refine x_iconst (v := nI 5) d_Mo_rollOf_168 (by decide) ?_
          refine x_v2p d_Mo_rollOf_169 ml_Mo_90 v_Mo_of rfl ⟨rfl, rfl⟩ hM.io (Nat.le_of_ble_eq_true rfl) (ct_Mo_of hM hn (by omega) (by omega)) ?_
          refine x_iret rfl rfl d_Mo_rollOf_172 (Nat.zero_le _) (Nat.zero_le _) ?_
          exact ⟨_, rfl, rfl, rfl, rfl, hC, Fr.rf⟩
        · refine x_tableIn (off := 78) (tgt := 173) d_Mo_rollOf_95 (by decide) (by decide) (by decide) (by decide) ?_
          rw [if_pos (show inI (nI 8) 0 9 by decide), tN_nI (by omega)]
          refine x_aload_n d_Mo_rollOf_173 rfl ?_
          refine x_iload_n d_Mo_rollOf_174 rfl ?_
          refine x_bipush (v := nI 6) d_Mo_rollOf_175 (by decide) ?_
          refine x_v2p d_Mo_rollOf_177 ml_Mo_90 v_Mo_of rfl ⟨rfl, rfl⟩ hM.io (Nat.le_of_ble_eq_true rfl) (ct_Mo_of hM hn (by omega) (by omega)) ?_
          refine x_iret rfl rfl d_Mo_rollOf_180 (Nat.zero_le _) (Nat.zero_le _) ?_
          exact ⟨_, rfl, rfl, rfl, rfl, hC, Fr.rf⟩
        · refine x_tableIn (off := 86) (tgt := 181) d_Mo_rollOf_95 (by decide) (by decide) (by decide) (by decide) ?_
          rw [if_pos (show inI (nI 9) 0 9 by decide), tN_nI (by omega)]
          refine x_aload_n d_Mo_rollOf_181 rfl ?_
          refine x_iload_n d_Mo_rollOf_182 rfl ?_
          refine x_iconst (v := nI 1) d_Mo_rollOf_183 (by decide) ?_
          refine x_v2p d_Mo_rollOf_184 ml_Mo_90 v_Mo_of rfl ⟨rfl, rfl⟩ hM.io (Nat.le_of_ble_eq_true rfl) (ct_Mo_of hM hn (by omega) (by omega)) ?_
          refine x_aload_n d_Mo_rollOf_187 rfl ?_
          refine x_iload_n d_Mo_rollOf_188 rfl ?_
          refine x_iconst (v := nI 4) d_Mo_rollOf_189 (by decide) ?_
          refine x_v2p d_Mo_rollOf_190 ml_Mo_90 v_Mo_of rfl ⟨rfl, rfl⟩ hM.io (Nat.le_of_ble_eq_true rfl) (ct_Mo_of hM hn (by omega) (by omega)) ?_
          refine x_imul d_Mo_rollOf_193 ?_
          rw [pk_mul]
          refine x_iret rfl rfl d_Mo_rollOf_194 (Nat.zero_le _) (Nat.zero_le _) ?_
          exact ⟨_, rfl, rfl, rfl, rfl, hC, Fr.rf⟩
      · rw [if_neg hno]
        refine x_tableOut (tgt := 195) d_Mo_rollOf_95 ho (by decide) ?_
        refine x_bipush (v := -2) d_Mo_rollOf_195 (by decide) ?_
        refine x_iret rfl rfl d_Mo_rollOf_197 (Nat.zero_le _) (Nat.zero_le _) ?_
        exact ⟨_, rfl, rfl, rfl, rfl, hC, Fr.rf⟩
    · have hj2 := nI_nle' (by omega) (by omega) c26
      have h9 := ih hj2
      refine x_aload_n d_Mo_rollOf_29 rfl ?_
      refine x_iload d_Mo_rollOf_30 rfl ?_
      refine x_v1p d_Mo_rollOf_32 ml_Mo_46 v_Mo_isKept rfl ⟨rfl, rfl⟩ hM.io (Nat.le_of_ble_eq_true rfl) (ct_Mo_isKept hM hn h300 hI.roc) ?_
      rw [kept_nI h300 hj2]
      refine x_if_eq (tgt := 52) d_Mo_rollOf_35 (by decide) (fun c35 => ?_) (fun c35 => ?_)
      · have hp : (kp G.1 j && decide (oc G.1 j 0 = r + 1)) = false := by simp [bI_0.mp c35]
        rw [cnt_f hp, sN, hp] at h9
        refine x_iconst (v := nI 0) d_Mo_rollOf_52 (by decide) ?_
        refine x_istore d_Mo_rollOf_53 (by decide) ?_
        refine x_iload_n d_Mo_rollOf_55 rfl ?_
        refine x_iload d_Mo_rollOf_56 rfl ?_
        refine x_if_eq (tgt := 65) d_Mo_rollOf_58 (by decide) (fun c58 => ?_) (fun c58 => ?_)
        · refine x_iconst (v := nI 0) d_Mo_rollOf_65 (by decide) ?_
          refine x_iadd d_Mo_rollOf_66 ?_
          rw [nI_add]
          refine x_istore_n d_Mo_rollOf_67 (by decide) ?_
          refine x_iload d_Mo_rollOf_68 rfl ?_
          refine x_iload d_Mo_rollOf_70 rfl ?_
          refine x_if_eq (tgt := 84) d_Mo_rollOf_72 (by decide) (fun c72 => ?_) (fun c72 => ?_)
          · refine x_iconst (v := nI 0) d_Mo_rollOf_84 (by decide) ?_
            refine x_iadd d_Mo_rollOf_85 ?_
            rw [nI_add]
            refine x_istore d_Mo_rollOf_86 (by decide) ?_
            refine x_iinc d_Mo_rollOf_88 rfl (by first | exact inc1 _ | rfl) (by decide) ?_
            refine x_goto (tgt := 18) d_Mo_rollOf_91 (by decide) ?_
            exact h9 _
          · exact absurd rfl c72
        · exact absurd rfl c58
      · have hk := bI_n.mp c35
        have hk0 : 0 < oc G.1 j 0 := of_decide_eq_true hk
        obtain ⟨o1, o2, o3⟩ := hI.off.2 j hj2 hk
        refine x_aload_n d_Mo_rollOf_38 rfl ?_
        refine x_iload d_Mo_rollOf_39 rfl ?_
        refine x_v1p d_Mo_rollOf_41 ml_Mo_68 v_Mo_rollOfOffcut rfl ⟨rfl, rfl⟩ hM.io (Nat.le_of_ble_eq_true rfl) (ct_Mo_rollOfOffcut hM hn (by omega) hk) ?_
        refine x_iload_n d_Mo_rollOf_44 rfl ?_
        refine x_icmp_ne (tgt := 52) d_Mo_rollOf_45 (by decide) (fun c45 => ?_) (fun c45 => ?_)
        · have c45 := nI_ne' c45
          have hp : (kp G.1 j && decide (oc G.1 j 0 = r + 1)) = false := by rw [hk, Bool.true_and]; exact decide_eq_false (by omega)
          rw [cnt_f hp, sN, hp] at h9
          refine x_iconst (v := nI 0) d_Mo_rollOf_52 (by decide) ?_
          refine x_istore d_Mo_rollOf_53 (by decide) ?_
          refine x_iload_n d_Mo_rollOf_55 rfl ?_
          refine x_iload d_Mo_rollOf_56 rfl ?_
          refine x_if_eq (tgt := 65) d_Mo_rollOf_58 (by decide) (fun c58 => ?_) (fun c58 => ?_)
          · refine x_iconst (v := nI 0) d_Mo_rollOf_65 (by decide) ?_
            refine x_iadd d_Mo_rollOf_66 ?_
            rw [nI_add]
            refine x_istore_n d_Mo_rollOf_67 (by decide) ?_
            refine x_iload d_Mo_rollOf_68 rfl ?_
            refine x_iload d_Mo_rollOf_70 rfl ?_
            refine x_if_eq (tgt := 84) d_Mo_rollOf_72 (by decide) (fun c72 => ?_) (fun c72 => ?_)
            · refine x_iconst (v := nI 0) d_Mo_rollOf_84 (by decide) ?_
              refine x_iadd d_Mo_rollOf_85 ?_
              rw [nI_add]
              refine x_istore d_Mo_rollOf_86 (by decide) ?_
              refine x_iinc d_Mo_rollOf_88 rfl (by first | exact inc1 _ | rfl) (by decide) ?_
              refine x_goto (tgt := 18) d_Mo_rollOf_91 (by decide) ?_
              exact h9 _
            · exact absurd rfl c72
          · exact absurd rfl c58
        · have c45 := nI_eq' (by omega) (by omega) c45
          have hp : (kp G.1 j && decide (oc G.1 j 0 = r + 1)) = true := by rw [hk, Bool.true_and]; exact decide_eq_true (by omega)
          rw [cnt_t hp, sN, hp] at h9
          refine x_iconst (v := nI 1) d_Mo_rollOf_48 (by decide) ?_
          refine x_goto (tgt := 53) d_Mo_rollOf_49 (by decide) ?_
          refine x_istore d_Mo_rollOf_53 (by decide) ?_
          refine x_iload_n d_Mo_rollOf_55 rfl ?_
          refine x_iload d_Mo_rollOf_56 rfl ?_
          refine x_if_eq (tgt := 65) d_Mo_rollOf_58 (by decide) (fun c58 => ?_) (fun c58 => ?_)
          · exact absurd c58 (by decide)
          · refine x_iconst (v := nI 1) d_Mo_rollOf_61 (by decide) ?_
            refine x_goto (tgt := 66) d_Mo_rollOf_62 (by decide) ?_
            refine x_iadd d_Mo_rollOf_66 ?_
            rw [nI_add]
            refine x_istore_n d_Mo_rollOf_67 (by decide) ?_
            refine x_iload d_Mo_rollOf_68 rfl ?_
            refine x_iload d_Mo_rollOf_70 rfl ?_
            refine x_if_eq (tgt := 84) d_Mo_rollOf_72 (by decide) (fun c72 => ?_) (fun c72 => ?_)
            · exact absurd c72 (by decide)
            · refine x_aload_n d_Mo_rollOf_75 rfl ?_
              refine x_iload d_Mo_rollOf_76 rfl ?_
              refine x_v1p d_Mo_rollOf_78 ml_Mo_71 v_Mo_areaOf rfl ⟨rfl, rfl⟩ hM.io (Nat.le_of_ble_eq_true rfl) (ct_Mo_areaOf hM hn (by omega)) ?_
              refine x_goto (tgt := 85) d_Mo_rollOf_81 (by decide) ?_
              refine x_iadd d_Mo_rollOf_85 ?_
              rw [nI_add]
              refine x_istore d_Mo_rollOf_86 (by decide) ?_
              refine x_iinc d_Mo_rollOf_88 rfl (by first | exact inc1 _ | rfl) (by decide) ?_
              refine x_goto (tgt := 18) d_Mo_rollOf_91 (by decide) ?_
              exact h9 _
  · rw [show vRollOf G.1 r w = -1 from if_neg (bI_0.mp c5)]
    refine x_iconst (v := -1) d_Mo_rollOf_8 (by decide) ?_
    refine x_iret rfl rfl d_Mo_rollOf_9 (Nat.zero_le _) (Nat.zero_le _) ?_
    exact ⟨_, rfl, rfl, rfl, rfl, hC, Fr.rf⟩
theorem ct_Mo_sorted (hM : LayMo sh μ) (hC : MR mem μ G) {x : Int32} : Ct l g M_Mo_sorted [rf g μ, .int x] none sh mem (Ri none sh (MP μ mem (vSorted G.1 x, G))) := by
  obtain ⟨hI, hn, hh, ht, hs⟩ := id hC
  have h300 := hI.1.2.1
  refine x_begin rfl rfl rfl (by decide) rfl ?_
  refine x_iload_n d_Mo_sorted_0 rfl ?_
  refine x_if_ge (tgt := 7) d_Mo_sorted_1 (by decide) (fun c1 => ?_) (fun c1 => ?_)
  · rw [show vSorted G.1 x = oI (ff (fun k => kp G.1 k && decide (nI (rkN G.1 k) = x)) (G.1 1) 0) from if_neg (i_nlt.mpr c1)]
    refine x_iconst (v := nI 0) d_Mo_sorted_7 (by decide) ?_
    refine x_istore_n d_Mo_sorted_8 (by decide) ?_
    refine up_ind (G.1 1) (P := fun j => ∀ (u3 u4 : Option Value), ff (fun k => kp G.1 k && decide (nI (rkN G.1 k) = x)) (G.1 1 - j) j = ff (fun k => kp G.1 k && decide (nI (rkN G.1 k) = x)) (G.1 1) 0 → X l g M_Mo_sorted (XF g (Ri none sh (MP μ mem (oI (ff (fun k => kp G.1 k && decide (nI (rkN G.1 k) = x)) (G.1 1) 0), G))) M_Mo_sorted) 9 [some (rf g μ), some (.int x), some (.int (nI j)), u3, u4] [] none sh mem 0 0) (fun j hj ih u3 u4 hff => ?_) 0 (Nat.zero_le _) _ _ rfl
    refine x_iload_n d_Mo_sorted_9 rfl ?_
    refine x_aload_n d_Mo_sorted_10 rfl ?_
    refine x_getR hM.f0 rfl fs_Mo_7 d_Mo_sorted_11 ?_
    refine x_iconst (v := nI 1) d_Mo_sorted_14 (by decide) ?_
    refine x_iald hM.f1 (vp_in_nI (by omega) (by omega)) d_Mo_sorted_15 ?_
    rw [nI_clamp (by omega), hn _ (by omega)]
    refine x_icmp_ge (tgt := 121) d_Mo_sorted_16 (by decide) (fun c16 => ?_) (fun c16 => ?_)
    · have hj2 : G.1 1 ≤ j := nI_le' (by omega) (by omega) c16
      rw [ff_e hj2] at hff
      rw [← hff]
      refine x_bipush (v := -5) d_Mo_sorted_121 (by decide) ?_
      refine x_iret rfl rfl d_Mo_sorted_123 (Nat.zero_le _) (Nat.zero_le _) ?_
      exact ⟨_, rfl, rfl, rfl, rfl, hC, Fr.rf⟩
    · have hj2 := nI_nle' (by omega) (by omega) c16
      refine x_iconst (v := nI 0) d_Mo_sorted_19 (by decide) ?_
      refine x_istore_n d_Mo_sorted_20 (by decide) ?_
      refine x_iconst (v := nI 0) d_Mo_sorted_21 (by decide) ?_
      refine x_istore d_Mo_sorted_22 (by decide) ?_
      by_cases hk : kp G.1 j = true
      · have hAj := hI.oA hj2 hk
        refine up_ind (G.1 1) (P := fun y => X l g M_Mo_sorted (XF g (Ri none sh (MP μ mem (oI (ff (fun k => kp G.1 k && decide (nI (rkN G.1 k) = x)) (G.1 1) 0), G))) M_Mo_sorted) 24 [some (rf g μ), some (.int x), some (.int (nI j)), some (.int (nI (cnt (rkB G.1 j) y))), some (.int (nI y))] [] none sh mem 0 0) (fun y hy ih2 => ?_) 0 (Nat.zero_le _)
        refine x_iload d_Mo_sorted_24 rfl ?_
        refine x_aload_n d_Mo_sorted_26 rfl ?_
        refine x_getR hM.f0 rfl fs_Mo_7 d_Mo_sorted_27 ?_
        refine x_iconst (v := nI 1) d_Mo_sorted_30 (by decide) ?_
        refine x_iald hM.f1 (vp_in_nI (by omega) (by omega)) d_Mo_sorted_31 ?_
        rw [nI_clamp (by omega), hn _ (by omega)]
        refine x_icmp_ge (tgt := 100) d_Mo_sorted_32 (by decide) (fun c32 => ?_) (fun c32 => ?_)
        · have hy2 : y = G.1 1 := by have := nI_le' (by omega) (by omega) c32; omega
          rw [hy2, rkB_N]
          refine x_aload_n d_Mo_sorted_100 rfl ?_
          refine x_iload_n d_Mo_sorted_101 rfl ?_
          refine x_v1p d_Mo_sorted_102 ml_Mo_46 v_Mo_isKept rfl ⟨rfl, rfl⟩ hM.io (Nat.le_of_ble_eq_true rfl) (ct_Mo_isKept hM hn h300 hI.roc) ?_
          rw [kept_nI h300 hj2]
          refine x_if_eq (tgt := 115) d_Mo_sorted_105 (by decide) (fun c105 => ?_) (fun c105 => ?_)
          · exact absurd hk (bI_0.mp c105)
          · refine x_iload_n d_Mo_sorted_108 rfl ?_
            refine x_iload_n d_Mo_sorted_109 rfl ?_
            refine x_icmp_ne (tgt := 115) d_Mo_sorted_110 (by decide) (fun c110 => ?_) (fun c110 => ?_)
            · have hp : (kp G.1 j && decide (nI (rkN G.1 j) = x)) = false := by rw [decide_eq_false c110, Bool.and_false]
              rw [ff_f hj2 hp] at hff
              refine x_iinc d_Mo_sorted_115 rfl (by first | exact inc1 _ | rfl) (by decide) ?_
              refine x_goto (tgt := 9) d_Mo_sorted_118 (by decide) ?_
              exact ih hj2 _ _ hff
            · have hp : (kp G.1 j && decide (nI (rkN G.1 j) = x)) = true := by rw [decide_eq_true c110, hk]; rfl
              rw [ff_t hj2 hp] at hff
              rw [← hff]
              refine x_iload_n d_Mo_sorted_113 rfl ?_
              refine x_iret rfl rfl d_Mo_sorted_114 (Nat.zero_le _) (Nat.zero_le _) ?_
              exact ⟨_, rfl, rfl, rfl, rfl, hC, Fr.rf⟩
        · have hy2 := nI_nle' (by omega) (by omega) c32
          have h9 := ih2 hy2
          refine x_aload_n d_Mo_sorted_35 rfl ?_
          refine x_iload_n d_Mo_sorted_36 rfl ?_
          refine x_v1p d_Mo_sorted_37 ml_Mo_46 v_Mo_isKept rfl ⟨rfl, rfl⟩ hM.io (Nat.le_of_ble_eq_true rfl) (ct_Mo_isKept hM hn h300 hI.roc) ?_
          rw [kept_nI h300 hj2]
          refine x_if_eq (tgt := 100) d_Mo_sorted_40 (by decide) (fun c40 => ?_) (fun c40 => ?_)
          · exact absurd hk (bI_0.mp c40)
          · refine x_iload_n d_Mo_sorted_43 rfl ?_
            refine x_aload_n d_Mo_sorted_44 rfl ?_
            refine x_iload d_Mo_sorted_45 rfl ?_
            refine x_v1p d_Mo_sorted_47 ml_Mo_46 v_Mo_isKept rfl ⟨rfl, rfl⟩ hM.io (Nat.le_of_ble_eq_true rfl) (ct_Mo_isKept hM hn h300 hI.roc) ?_
            rw [kept_nI h300 hy2]
            refine x_if_eq (tgt := 91) d_Mo_sorted_50 (by decide) (fun c50 => ?_) (fun c50 => ?_)
            · have hp : rkB G.1 j y = false := by simp [rkB, bI_0.mp c50]
              rw [cnt_f hp] at h9
              refine x_iconst (v := nI 0) d_Mo_sorted_91 (by decide) ?_
              refine x_iadd d_Mo_sorted_92 ?_
              rw [nI_add]
              refine x_istore_n d_Mo_sorted_93 (by decide) ?_
              refine x_iinc d_Mo_sorted_94 rfl (by first | exact inc1 _ | rfl) (by decide) ?_
              refine x_goto (tgt := 24) d_Mo_sorted_97 (by decide) ?_
              exact h9
            · have hk2 := bI_n.mp c50
              have hAy := hI.oA hy2 hk2
              refine x_aload_n d_Mo_sorted_53 rfl ?_
              refine x_iload d_Mo_sorted_54 rfl ?_
              refine x_v1p d_Mo_sorted_56 ml_Mo_71 v_Mo_areaOf rfl ⟨rfl, rfl⟩ hM.io (Nat.le_of_ble_eq_true rfl) (ct_Mo_areaOf hM hn (by omega)) ?_
              refine x_aload_n d_Mo_sorted_59 rfl ?_
              refine x_iload_n d_Mo_sorted_60 rfl ?_
              refine x_v1p d_Mo_sorted_61 ml_Mo_71 v_Mo_areaOf rfl ⟨rfl, rfl⟩ hM.io (Nat.le_of_ble_eq_true rfl) (ct_Mo_areaOf hM hn (by omega)) ?_
              refine x_icmp_lt (tgt := 87) d_Mo_sorted_64 (by decide) (fun c64 => ?_) (fun c64 => ?_)
              · have c64 := nI_lt' (by omega) (by omega) c64
                have hp : rkB G.1 j y = true := by simp [rkB, hk2, c64]
                rw [cnt_t hp] at h9
                refine x_iconst (v := nI 1) d_Mo_sorted_87 (by decide) ?_
                refine x_goto (tgt := 92) d_Mo_sorted_88 (by decide) ?_
                refine x_iadd d_Mo_sorted_92 ?_
                rw [nI_add]
                refine x_istore_n d_Mo_sorted_93 (by decide) ?_
                refine x_iinc d_Mo_sorted_94 rfl (by first | exact inc1 _ | rfl) (by decide) ?_
                refine x_goto (tgt := 24) d_Mo_sorted_97 (by decide) ?_
                exact h9
              · have c64 := nI_nlt' (by omega) (by omega) c64
                refine x_aload_n d_Mo_sorted_67 rfl ?_
                refine x_iload d_Mo_sorted_68 rfl ?_
                refine x_v1p d_Mo_sorted_70 ml_Mo_71 v_Mo_areaOf rfl ⟨rfl, rfl⟩ hM.io (Nat.le_of_ble_eq_true rfl) (ct_Mo_areaOf hM hn (by omega)) ?_
                refine x_aload_n d_Mo_sorted_73 rfl ?_
                refine x_iload_n d_Mo_sorted_74 rfl ?_
                refine x_v1p d_Mo_sorted_75 ml_Mo_71 v_Mo_areaOf rfl ⟨rfl, rfl⟩ hM.io (Nat.le_of_ble_eq_true rfl) (ct_Mo_areaOf hM hn (by omega)) ?_
                refine x_icmp_ne (tgt := 91) d_Mo_sorted_78 (by decide) (fun c78 => ?_) (fun c78 => ?_)
                · have c78 := nI_ne' c78
                  have hp : rkB G.1 j y = false := by
                    unfold rkB
                    rw [hk2, Bool.true_and, decide_eq_false (show ¬ oA G.1 y < oA G.1 j by omega), Bool.false_or, decide_eq_false c78, Bool.false_and]
                  rw [cnt_f hp] at h9
                  refine x_iconst (v := nI 0) d_Mo_sorted_91 (by decide) ?_
                  refine x_iadd d_Mo_sorted_92 ?_
                  rw [nI_add]
                  refine x_istore_n d_Mo_sorted_93 (by decide) ?_
                  refine x_iinc d_Mo_sorted_94 rfl (by first | exact inc1 _ | rfl) (by decide) ?_
                  refine x_goto (tgt := 24) d_Mo_sorted_97 (by decide) ?_
                  exact h9
                · have c78 := nI_eq' (by omega) (by omega) c78
                  refine x_iload d_Mo_sorted_81 rfl ?_
                  refine x_iload_n d_Mo_sorted_83 rfl ?_
                  refine x_icmp_ge (tgt := 91) d_Mo_sorted_84 (by decide) (fun c84 => ?_) (fun c84 => ?_)
                  · have c84 := nI_le' (by omega) (by omega) c84
                    have hp : rkB G.1 j y = false := by
                      unfold rkB
                      rw [hk2, Bool.true_and, decide_eq_false (show ¬ oA G.1 y < oA G.1 j by omega), Bool.false_or, decide_eq_false (show ¬ y < j by omega), Bool.and_false]
                    rw [cnt_f hp] at h9
                    refine x_iconst (v := nI 0) d_Mo_sorted_91 (by decide) ?_
                    refine x_iadd d_Mo_sorted_92 ?_
                    rw [nI_add]
                    refine x_istore_n d_Mo_sorted_93 (by decide) ?_
                    refine x_iinc d_Mo_sorted_94 rfl (by first | exact inc1 _ | rfl) (by decide) ?_
                    refine x_goto (tgt := 24) d_Mo_sorted_97 (by decide) ?_
                    exact h9
                  · have c84 := nI_nle' (by omega) (by omega) c84
                    have hp : rkB G.1 j y = true := by
                      unfold rkB
                      rw [hk2, Bool.true_and, decide_eq_true c78, decide_eq_true c84, Bool.true_and, Bool.or_true]
                    rw [cnt_t hp] at h9
                    refine x_iconst (v := nI 1) d_Mo_sorted_87 (by decide) ?_
                    refine x_goto (tgt := 92) d_Mo_sorted_88 (by decide) ?_
                    refine x_iadd d_Mo_sorted_92 ?_
                    rw [nI_add]
                    refine x_istore_n d_Mo_sorted_93 (by decide) ?_
                    refine x_iinc d_Mo_sorted_94 rfl (by first | exact inc1 _ | rfl) (by decide) ?_
                    refine x_goto (tgt := 24) d_Mo_sorted_97 (by decide) ?_
                    exact h9
      · have hp : (kp G.1 j && decide (nI (rkN G.1 j) = x)) = false := by simp [hk]
        rw [ff_f hj2 hp] at hff
        refine x_iload d_Mo_sorted_24 rfl ?_
        refine x_aload_n d_Mo_sorted_26 rfl ?_
        refine x_getR hM.f0 rfl fs_Mo_7 d_Mo_sorted_27 ?_
        refine x_iconst (v := nI 1) d_Mo_sorted_30 (by decide) ?_
        refine x_iald hM.f1 (vp_in_nI (by omega) (by omega)) d_Mo_sorted_31 ?_
        rw [nI_clamp (by omega), hn _ (by omega)]
        refine x_icmp_ge (tgt := 100) d_Mo_sorted_32 (by decide) (fun c32 => ?_) (fun c32 => ?_)
        · exact absurd c32 (nI_ge (by omega) (by omega))
        · refine x_aload_n d_Mo_sorted_35 rfl ?_
          refine x_iload_n d_Mo_sorted_36 rfl ?_
          refine x_v1p d_Mo_sorted_37 ml_Mo_46 v_Mo_isKept rfl ⟨rfl, rfl⟩ hM.io (Nat.le_of_ble_eq_true rfl) (ct_Mo_isKept hM hn h300 hI.roc) ?_
          rw [kept_nI h300 hj2]
          refine x_if_eq (tgt := 100) d_Mo_sorted_40 (by decide) (fun c40 => ?_) (fun c40 => ?_)
          · refine x_aload_n d_Mo_sorted_100 rfl ?_
            refine x_iload_n d_Mo_sorted_101 rfl ?_
            refine x_v1p d_Mo_sorted_102 ml_Mo_46 v_Mo_isKept rfl ⟨rfl, rfl⟩ hM.io (Nat.le_of_ble_eq_true rfl) (ct_Mo_isKept hM hn h300 hI.roc) ?_
            rw [kept_nI h300 hj2]
            refine x_if_eq (tgt := 115) d_Mo_sorted_105 (by decide) (fun c105 => ?_) (fun c105 => ?_)
            · refine x_iinc d_Mo_sorted_115 rfl (by first | exact inc1 _ | rfl) (by decide) ?_
              refine x_goto (tgt := 9) d_Mo_sorted_118 (by decide) ?_
              exact ih hj2 _ _ hff
            · exact absurd (bI_n.mp c105) hk
          · exact absurd (bI_n.mp c40) hk
  · rw [show vSorted G.1 x = -2 from if_pos (i_nle.mp c1)]
    refine x_bipush (v := -2) d_Mo_sorted_4 (by decide) ?_
    refine x_iret rfl rfl d_Mo_sorted_6 (Nat.zero_le _) (Nat.zero_le _) ?_
    exact ⟨_, rfl, rfl, rfl, rfl, hC, Fr.rf⟩
end
