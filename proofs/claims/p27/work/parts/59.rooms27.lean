/-! p27: strips fill their rooms -/
section
variable {R : RS} {i : Nat}
theorem vm_0 (h20 : R 2 ≤ 20) (hi : i < R 2) : vRoom R (nI i) (nI 0) = nI (rq R i 0) := vRoom_at h20 hi (by omega)
theorem vm_1 (h20 : R 2 ≤ 20) (hi : i < R 2) : vRoom R (nI i) (nI 1) = nI (areaN (rq R i)) := vRoom_at h20 hi (by omega)
theorem vm_3 (h20 : R 2 ≤ 20) (hi : i < R 2) : vRoom R (nI i) (nI 3) = nI (rq R i 8) := vRoom_at h20 hi (by omega)
theorem vm_4 (h20 : R 2 ≤ 20) (hi : i < R 2) (h8 : rq R i 8 = 1) : vRoom R (nI i) (nI 4) = nI (rq R i 9) := (vRoom_at h20 hi (by omega)).trans (if_pos h8)
theorem vm_6 (h20 : R 2 ≤ 20) (hi : i < R 2) (h8 : rq R i 8 = 1) : vRoom R (nI i) (nI 6) = nI (stripsN (rq R i) (rq R i 10) (ro R (rq R i 9) 1)) := (vRoom_at h20 hi (by omega)).trans (if_pos h8)
theorem vm_b (h20 : R 2 ≤ 20) (hi : i < R 2) (h8 : ¬ rq R i 8 = 1) {w : Nat} (hw : w ≤ 8) (h4 : 4 ≤ w) : vRoom R (nI i) (nI w) = -5 := by
  rw [vRoom_at h20 hi hw]
  unfold roomV
  rw [if_neg (by omega), if_neg (by omega), if_neg (by omega), if_neg (by omega), if_neg h8]
theorem vs_no (h20 : R 2 ≤ 20) (hi : i < R 2) {s w : Nat} (hs : s < 1000) (hw : w ≤ 2) (h : rq R i 8 = 1 → stripsN (rq R i) (rq R i 10) (ro R (rq R i 9) 1) ≤ s) : vStrip R (nI i) (nI s) (nI w) = -5 := by
  rw [vStrip_at h20 hi hs hw]
  refine if_neg (fun z => ?_)
  have h1 : nI s < nI (stripsN (rq R i) (rq R i 10) (ro R (rq R i 9) 1)) := z.2
  have h2 := h z.1
  exact nI_nlt h2 (by omega) h1
theorem vs_at (h20 : R 2 ≤ 20) (hi : i < R 2) (h8 : rq R i 8 = 1) {s w : Nat} (hs : s < stripsN (rq R i) (rq R i 10) (ro R (rq R i 9) 1)) (h36 : stripsN (rq R i) (rq R i 10) (ro R (rq R i 9) 1) ≤ 36) (hw : w ≤ 2) : vStrip R (nI i) (nI s) (nI w) = nI (stripN R i s w) := by
  rw [vStrip_at h20 hi (by omega) hw]
  have h1 : nI s < nI (stripsN (rq R i) (rq R i 10) (ro R (rq R i 9) 1)) := nI_lt hs (by omega)
  exact if_pos ⟨h8, h1⟩
end
section
variable {l : Launch} {g : XG} {sh : Nat → Sh} {mem : Mem} {κ : Nat} {G : GS}
theorem ct_La_rooms (hL : LayCc sh κ) (hC : CR mem κ G) (hJ : JJ G.1) : Ct l g M_La_rooms [rf g κ] none sh mem (Ri none sh (CP κ mem (nI 1, G))) := by
  have hI := hC.1
  have h12 := hI.1.1
  have h300 := hI.1.2.1
  have h20 := hI.1.2.2
  refine x_begin rfl rfl rfl (by decide) rfl ?_
  refine x_iconst (v := nI 0) d_La_rooms_0 (by decide) ?_
  refine x_istore_n d_La_rooms_1 (by decide) ?_
  refine x_iconst (v := nI 0) d_La_rooms_2 (by decide) ?_
  refine x_istore_n d_La_rooms_3 (by decide) ?_
  refine x_iconst (v := nI 0) d_La_rooms_4 (by decide) ?_
  refine x_istore_n d_La_rooms_5 (by decide) ?_
  refine up_ind (G.1 2) (P := fun j => ∀ (m : Mem) (v4 v5 v6 v7 v8 : Option Value), CI κ mem G m → X l g M_La_rooms (XF g (Ri none sh (CP κ mem (nI 1, G))) M_La_rooms) 6 [some (rf g κ), some (.int (nI (cnt (fun i => decide (rq G.1 i 8 = 1)) j))), some (.int (nI (sN (fun i => if rq G.1 i 8 = 1 then areaN (rq G.1 i) else 0) j))), some (.int (nI j)), v4, v5, v6, v7, v8] [] none sh m 0 0) (fun j hj ih m v4 v5 v6 v7 v8 hCj => ?_) 0 (Nat.zero_le _) mem none none none none none ⟨hC, Fr.rf⟩
  refine x_iload_n d_La_rooms_6 rfl ?_
  refine x_aload_n d_La_rooms_7 rfl ?_
  refine x_iconst (v := nI 1) d_La_rooms_8 (by decide) ?_
  refine x_v1i d_La_rooms_9 ml_La_9 v_Cc_count rfl ⟨rfl, rfl⟩ hL.io (Nat.le_of_ble_eq_true rfl) (ct_Cc_count hL hCj.1) (fun r9 mem9 h9 => ?_)
  obtain ⟨rfl, hC9⟩ := CI.st hCj h9
  rw [vc_1]
  refine x_icmp_ge (tgt := 259) d_La_rooms_12 (by decide) (fun c12 => ?_) (fun c12 => ?_)
  · have hj9 : j = G.1 2 := by have := nI_le' (by omega) (by omega) c12; omega
    subst hj9
    refine x_iload_n d_La_rooms_259 rfl ?_
    refine x_aload_n d_La_rooms_260 rfl ?_
    refine x_iconst (v := nI 2) d_La_rooms_261 (by decide) ?_
    refine x_v1i d_La_rooms_262 ml_La_9 v_Cc_count rfl ⟨rfl, rfl⟩ hL.io (Nat.le_of_ble_eq_true rfl) (ct_Cc_count hL hC9.1) (fun r262 mem262 h262 => ?_)
    obtain ⟨rfl, hC262⟩ := CI.st hC9 h262
    rw [vc_2]
    refine x_icmp_ne (tgt := 282) d_La_rooms_265 (by decide) (fun c265 => ?_) (fun c265 => ?_)
    · exact absurd rfl c265
    · refine x_iload_n d_La_rooms_268 rfl ?_
      refine x_aload_n d_La_rooms_269 rfl ?_
      refine x_bipush (v := nI 7) d_La_rooms_270 (by decide) ?_
      refine x_v1i d_La_rooms_272 ml_La_9 v_Cc_count rfl ⟨rfl, rfl⟩ hL.io (Nat.le_of_ble_eq_true rfl) (ct_Cc_count hL hC262.1) (fun r272 mem272 h272 => ?_)
      obtain ⟨rfl, hC272⟩ := CI.st hC262 h272
      rw [vc_7]
      refine x_icmp_ne (tgt := 282) d_La_rooms_275 (by decide) (fun c275 => ?_) (fun c275 => ?_)
      · exact absurd rfl c275
      · refine x_iconst (v := nI 1) d_La_rooms_278 (by decide) ?_
        refine x_goto (tgt := 283) d_La_rooms_279 (by decide) ?_
        refine x_iret rfl (by decide) d_La_rooms_283 (Nat.zero_le _) (Nat.zero_le _) ?_
        exact ⟨_, rfl, rfl, rfl, rfl, hC272⟩
  · have hj3 := nI_nle' (by omega) (by omega) c12
    obtain ⟨k1, k2, k3⟩ := hI.2.2.2.2.1 j hj3
    refine x_aload_n d_La_rooms_15 rfl ?_
    refine x_iload_n d_La_rooms_16 rfl ?_
    refine x_iconst (v := nI 3) d_La_rooms_17 (by decide) ?_
    refine x_v2i d_La_rooms_18 ml_La_19 v_Cc_room rfl ⟨rfl, rfl⟩ hL.io (Nat.le_of_ble_eq_true rfl) (ct_Cc_room hL hC9.1) (fun r18 mem18 h18 => ?_)
    obtain ⟨rfl, hC18⟩ := CI.st hC9 h18
    rw [vm_3 h20 hj3]
    refine x_if_ne (tgt := 61) d_La_rooms_21 (by decide) (fun c21 => ?_) (fun c21 => ?_)
    · have h8 : rq G.1 j 8 = 1 := by
        by_cases z : rq G.1 j 8 = 0
        · exact absurd (by rw [z]; rfl) c21
        · omega
      obtain ⟨k4, k5⟩ := k3 h8
      obtain ⟨v1, v2, -⟩ := hI.2.2.1 _ k4
      have hcn : nI (cnt (fun i => decide (rq G.1 i 8 = 1)) j) + Int32.ofInt 1 = nI (cnt (fun i => decide (rq G.1 i 8 = 1)) (j + 1)) := by rw [inc1, cnt_t (p := fun i => decide (rq G.1 i 8 = 1)) (decide_eq_true h8)]
      have hsn : sN (fun i => if rq G.1 i 8 = 1 then areaN (rq G.1 i) else 0) j + areaN (rq G.1 j) = sN (fun i => if rq G.1 i 8 = 1 then areaN (rq G.1 i) else 0) (j + 1) := by rw [sN, if_pos h8]
      have h36 := stripsN_le k1 k5 v2.1
      have hok : ∀ s, s < stripsN (rq G.1 j) (rq G.1 j 10) (ro G.1 (rq G.1 j 9) 1) → (1 ≤ sw (SL (rq G.1 j) (rq G.1 j 10) (ro G.1 (rq G.1 j 9) 1)) s ∧ sw (SL (rq G.1 j) (rq G.1 j 10) (ro G.1 (rq G.1 j 9) 1)) s ≤ ro G.1 (rq G.1 j 9) 1) ∧ 1 ≤ sl (SL (rq G.1 j) (rq G.1 j 10) (ro G.1 (rq G.1 j 9) 1)) s ∧ sl (SL (rq G.1 j) (rq G.1 j 10) (ro G.1 (rq G.1 j 9) 1)) s ≤ 60 := fun s hs => SL_ok k1 k5 v2.1 (by rw [SL_len]; exact hs)
      have hnar := SL_narrow k1 k5 (show 1 ≤ ro G.1 (rq G.1 j 9) 1 by omega)
      have hare := SL_area k1 k5 (show 1 ≤ ro G.1 (rq G.1 j 9) 1 by omega)
      have hge := strips_ge k1 k5 v2.1
      have hal := areaN_le k1
      have hsrc := hJ.2 j hj3 h8
      have hrm6 := vm_6 h20 hj3 h8
      have hst0 : ∀ s, s < stripsN (rq G.1 j) (rq G.1 j 10) (ro G.1 (rq G.1 j 9) 1) → vStrip G.1 (nI j) (nI s) (nI 0) = nI (sw (SL (rq G.1 j) (rq G.1 j 10) (ro G.1 (rq G.1 j 9) 1)) s) := fun s hs => vs_at h20 hj3 h8 hs h36 (by omega)
      have hst1 : ∀ s, s < stripsN (rq G.1 j) (rq G.1 j 10) (ro G.1 (rq G.1 j 9) 1) → vStrip G.1 (nI j) (nI s) (nI 1) = nI (sl (SL (rq G.1 j) (rq G.1 j 10) (ro G.1 (rq G.1 j 9) 1)) s) := fun s hs => vs_at h20 hj3 h8 hs h36 (by omega)
      have hst2 : ∀ s, s < stripsN (rq G.1 j) (rq G.1 j 10) (ro G.1 (rq G.1 j 9) 1) → vStrip G.1 (nI j) (nI s) (nI 2) = nI (sc G.1 j s) := fun s hs => vs_at h20 hj3 h8 hs h36 (by omega)
      have hstn := vs_no (R := G.1) (i := j) (w := 0) h20 hj3 (show stripsN (rq G.1 j) (rq G.1 j 10) (ro G.1 (rq G.1 j 9) 1) < 1000 by omega) (by omega) (fun _ => Nat.le_refl _)
      generalize hSt : stripsN (rq G.1 j) (rq G.1 j 10) (ro G.1 (rq G.1 j 9) 1) = St at h36 hok hnar hare hge hsrc hrm6 hst0 hst1 hst2 hstn
      generalize hSS : SL (rq G.1 j) (rq G.1 j 10) (ro G.1 (rq G.1 j 9) 1) = SS at hok hnar hare hst0 hst1
      refine x_iinc d_La_rooms_61 rfl hcn (by decide) ?_
      refine x_iload_n d_La_rooms_64 rfl ?_
      refine x_aload_n d_La_rooms_65 rfl ?_
      refine x_iload_n d_La_rooms_66 rfl ?_
      refine x_iconst (v := nI 1) d_La_rooms_67 (by decide) ?_
      refine x_v2i d_La_rooms_68 ml_La_19 v_Cc_room rfl ⟨rfl, rfl⟩ hL.io (Nat.le_of_ble_eq_true rfl) (ct_Cc_room hL hC18.1) (fun r68 mem68 h68 => ?_)
      obtain ⟨rfl, hC68⟩ := CI.st hC18 h68
      rw [vm_1 h20 hj3]
      refine x_iadd d_La_rooms_71 ?_
      rw [nI_add, hsn]
      refine x_istore_n d_La_rooms_72 (by decide) ?_
      refine x_iconst (v := nI 0) d_La_rooms_73 (by decide) ?_
      refine x_istore d_La_rooms_74 (by decide) ?_
      refine x_aload_n d_La_rooms_76 rfl ?_
      refine x_iload_n d_La_rooms_77 rfl ?_
      refine x_bipush (v := nI 6) d_La_rooms_78 (by decide) ?_
      refine x_v2i d_La_rooms_80 ml_La_19 v_Cc_room rfl ⟨rfl, rfl⟩ hL.io (Nat.le_of_ble_eq_true rfl) (ct_Cc_room hL hC68.1) (fun r80 mem80 h80 => ?_)
      obtain ⟨rfl, hC80⟩ := CI.st hC68 h80
      rw [hrm6]
      refine x_istore d_La_rooms_83 (by decide) ?_
      refine x_aload_n d_La_rooms_85 rfl ?_
      refine x_aload_n d_La_rooms_86 rfl ?_
      refine x_iload_n d_La_rooms_87 rfl ?_
      refine x_iconst (v := nI 4) d_La_rooms_88 (by decide) ?_
      refine x_v2i d_La_rooms_89 ml_La_19 v_Cc_room rfl ⟨rfl, rfl⟩ hL.io (Nat.le_of_ble_eq_true rfl) (ct_Cc_room hL hC80.1) (fun r89 mem89 h89 => ?_)
      obtain ⟨rfl, hC89⟩ := CI.st hC80 h89
      rw [vm_4 h20 hj3 h8]
      refine x_iconst (v := nI 1) d_La_rooms_92 (by decide) ?_
      refine x_v2i d_La_rooms_93 ml_La_15 v_Cc_rollOf rfl ⟨rfl, rfl⟩ hL.io (Nat.le_of_ble_eq_true rfl) (ct_Cc_rollOf hL hC89.1) (fun r93 mem93 h93 => ?_)
      obtain ⟨rfl, hC93⟩ := CI.st hC89 h93
      rw [vr_1 h12 k4]
      refine x_istore d_La_rooms_96 (by decide) ?_
      refine x_iconst (v := nI 0) d_La_rooms_98 (by decide) ?_
      refine x_istore d_La_rooms_99 (by decide) ?_
      refine x_iconst (v := nI 0) d_La_rooms_101 (by decide) ?_
      refine x_istore d_La_rooms_102 (by decide) ?_
      refine up_ind St (P := fun n => ∀ m : Mem, CI κ mem G m → X l g M_La_rooms (XF g (Ri none sh (CP κ mem (nI 1, G))) M_La_rooms) 104 [some (rf g κ), some (.int (nI (cnt (fun i => decide (rq G.1 i 8 = 1)) (j + 1)))), some (.int (nI (sN (fun i => if rq G.1 i 8 = 1 then areaN (rq G.1 i) else 0) (j + 1)))), some (.int (nI j)), some (.int (nI (sN (fun s => sw SS s * sl SS s) n))), some (.int (nI St)), some (.int (nI (ro G.1 (rq G.1 j 9) 1))), some (.int (nI (cnt (fun s => decide (sw SS s < ro G.1 (rq G.1 j 9) 1)) n))), some (.int (nI n))] [] none sh m 0 0) (fun n hn ihn m hCn => ?_) 0 (Nat.zero_le _) _ hC93
      refine x_iload d_La_rooms_104 rfl ?_
      refine x_iload d_La_rooms_106 rfl ?_
      refine x_icmp_ge (tgt := 205) d_La_rooms_108 (by decide) (fun c108 => ?_) (fun c108 => ?_)
      · have hn9 : n = St := by have := nI_le' (by omega) (by omega) c108; omega
        subst hn9
        refine x_iload d_La_rooms_205 rfl ?_
        refine x_aload_n d_La_rooms_207 rfl ?_
        refine x_iload_n d_La_rooms_208 rfl ?_
        refine x_iconst (v := nI 1) d_La_rooms_209 (by decide) ?_
        refine x_v2i d_La_rooms_210 ml_La_19 v_Cc_room rfl ⟨rfl, rfl⟩ hL.io (Nat.le_of_ble_eq_true rfl) (ct_Cc_room hL hCn.1) (fun r210 mem210 h210 => ?_)
        obtain ⟨rfl, hC210⟩ := CI.st hCn h210
        rw [vm_1 h20 hj3, hare]
        refine x_icmp_ne (tgt := 251) d_La_rooms_213 (by decide) (fun c213 => ?_) (fun c213 => ?_)
        · exact absurd rfl c213
        · refine x_iload d_La_rooms_216 rfl ?_
          refine x_aload_n d_La_rooms_218 rfl ?_
          refine x_iload_n d_La_rooms_219 rfl ?_
          refine x_iconst (v := nI 0) d_La_rooms_220 (by decide) ?_
          refine x_v2i d_La_rooms_221 ml_La_19 v_Cc_room rfl ⟨rfl, rfl⟩ hL.io (Nat.le_of_ble_eq_true rfl) (ct_Cc_room hL hC210.1) (fun r221 mem221 h221 => ?_)
          obtain ⟨rfl, hC221⟩ := CI.st hC210 h221
          rw [vm_0 h20 hj3]
          refine x_icmp_gt (tgt := 251) d_La_rooms_224 (by decide) (fun c224 => ?_) (fun c224 => ?_)
          · exact absurd (nI_lt' (by omega) (by omega) c224) (by omega)
          · refine x_iload d_La_rooms_227 rfl ?_
            refine x_aload_n d_La_rooms_229 rfl ?_
            refine x_iload_n d_La_rooms_230 rfl ?_
            refine x_iconst (v := nI 0) d_La_rooms_231 (by decide) ?_
            refine x_v2i d_La_rooms_232 ml_La_19 v_Cc_room rfl ⟨rfl, rfl⟩ hL.io (Nat.le_of_ble_eq_true rfl) (ct_Cc_room hL hC221.1) (fun r232 mem232 h232 => ?_)
            obtain ⟨rfl, hC232⟩ := CI.st hC221 h232
            rw [vm_0 h20 hj3]
            refine x_icmp_lt (tgt := 251) d_La_rooms_235 (by decide) (fun c235 => ?_) (fun c235 => ?_)
            · exact absurd (nI_lt' (by omega) (by omega) c235) (by omega)
            · refine x_aload_n d_La_rooms_238 rfl ?_
              refine x_iload_n d_La_rooms_239 rfl ?_
              refine x_iload d_La_rooms_240 rfl ?_
              refine x_iconst (v := nI 0) d_La_rooms_242 (by decide) ?_
              refine x_v3i d_La_rooms_243 ml_La_26 v_Cc_strip rfl ⟨rfl, rfl⟩ hL.io (Nat.le_of_ble_eq_true rfl) (ct_Cc_strip hL hC232.1) (fun r243 mem243 h243 => ?_)
              obtain ⟨rfl, hC243⟩ := CI.st hC232 h243
              rw [hstn]
              refine x_bipush (v := -5) d_La_rooms_246 (by decide) ?_
              refine x_icmp_eq (tgt := 253) d_La_rooms_248 (by decide) (fun c248 => ?_) (fun c248 => ?_)
              · refine x_iinc d_La_rooms_253 rfl (by first | exact inc1 _ | rfl) (by decide) ?_
                refine x_goto (tgt := 6) d_La_rooms_256 (by decide) ?_
                exact ih hj3 _ _ _ _ _ _ hC243
              · exact absurd rfl c248
      · have hn3 := nI_nle' (by omega) (by omega) c108
        obtain ⟨⟨o1, o2⟩, o3, o4⟩ := hok n hn3
        refine x_iload d_La_rooms_111 rfl ?_
        refine x_aload_n d_La_rooms_113 rfl ?_
        refine x_iload_n d_La_rooms_114 rfl ?_
        refine x_iload d_La_rooms_115 rfl ?_
        refine x_iconst (v := nI 0) d_La_rooms_117 (by decide) ?_
        refine x_v3i d_La_rooms_118 ml_La_26 v_Cc_strip rfl ⟨rfl, rfl⟩ hL.io (Nat.le_of_ble_eq_true rfl) (ct_Cc_strip hL hCn.1) (fun r118 mem118 h118 => ?_)
        obtain ⟨rfl, hC118⟩ := CI.st hCn h118
        rw [hst0 n hn3]
        refine x_aload_n d_La_rooms_121 rfl ?_
        refine x_iload_n d_La_rooms_122 rfl ?_
        refine x_iload d_La_rooms_123 rfl ?_
        refine x_iconst (v := nI 1) d_La_rooms_125 (by decide) ?_
        refine x_v3i d_La_rooms_126 ml_La_26 v_Cc_strip rfl ⟨rfl, rfl⟩ hL.io (Nat.le_of_ble_eq_true rfl) (ct_Cc_strip hL hC118.1) (fun r126 mem126 h126 => ?_)
        obtain ⟨rfl, hC126⟩ := CI.st hC118 h126
        rw [hst1 n hn3]
        refine x_imul d_La_rooms_129 ?_
        rw [pk_mul]
        refine x_iadd d_La_rooms_130 ?_
        rw [nI_add]
        refine x_istore d_La_rooms_131 (by decide) ?_
        refine x_iload d_La_rooms_133 rfl ?_
        refine x_aload_n d_La_rooms_135 rfl ?_
        refine x_iload_n d_La_rooms_136 rfl ?_
        refine x_iload d_La_rooms_137 rfl ?_
        refine x_iconst (v := nI 0) d_La_rooms_139 (by decide) ?_
        refine x_v3i d_La_rooms_140 ml_La_26 v_Cc_strip rfl ⟨rfl, rfl⟩ hL.io (Nat.le_of_ble_eq_true rfl) (ct_Cc_strip hL hC126.1) (fun r140 mem140 h140 => ?_)
        obtain ⟨rfl, hC140⟩ := CI.st hC126 h140
        rw [hst0 n hn3]
        refine x_iload d_La_rooms_143 rfl ?_
        refine x_icmp_ge (tgt := 152) d_La_rooms_145 (by decide) (fun c145 => ?_) (fun c145 => ?_)
        · have hw1 : cnt (fun s => decide (sw SS s < ro G.1 (rq G.1 j 9) 1)) n + 0 = cnt (fun s => decide (sw SS s < ro G.1 (rq G.1 j 9) 1)) (n + 1) := (cnt_f (p := fun s => decide (sw SS s < ro G.1 (rq G.1 j 9) 1)) (decide_eq_false (by have := nI_le' (by omega) (by omega) c145; omega))).symm
          refine x_iconst (v := nI 0) d_La_rooms_152 (by decide) ?_
          refine x_iadd d_La_rooms_153 ?_
          rw [nI_add, hw1]
          refine x_istore d_La_rooms_154 (by decide) ?_
          refine x_aload_n d_La_rooms_156 rfl ?_
          refine x_iload_n d_La_rooms_157 rfl ?_
          refine x_iload d_La_rooms_158 rfl ?_
          refine x_iconst (v := nI 0) d_La_rooms_160 (by decide) ?_
          refine x_v3i d_La_rooms_161 ml_La_26 v_Cc_strip rfl ⟨rfl, rfl⟩ hL.io (Nat.le_of_ble_eq_true rfl) (ct_Cc_strip hL hC140.1) (fun r161 mem161 h161 => ?_)
          obtain ⟨rfl, hC161⟩ := CI.st hC140 h161
          rw [hst0 n hn3]
          refine x_iload d_La_rooms_164 rfl ?_
          refine x_icmp_gt (tgt := 197) d_La_rooms_166 (by decide) (fun c166 => ?_) (fun c166 => ?_)
          · exact absurd (nI_lt' (by omega) (by omega) c166) (by omega)
          · refine x_aload_n d_La_rooms_169 rfl ?_
            refine x_iload_n d_La_rooms_170 rfl ?_
            refine x_iload d_La_rooms_171 rfl ?_
            refine x_iconst (v := nI 0) d_La_rooms_173 (by decide) ?_
            refine x_v3i d_La_rooms_174 ml_La_26 v_Cc_strip rfl ⟨rfl, rfl⟩ hL.io (Nat.le_of_ble_eq_true rfl) (ct_Cc_strip hL hC161.1) (fun r174 mem174 h174 => ?_)
            obtain ⟨rfl, hC174⟩ := CI.st hC161 h174
            rw [hst0 n hn3]
            refine x_iconst (v := nI 1) d_La_rooms_177 (by decide) ?_
            refine x_icmp_lt (tgt := 197) d_La_rooms_178 (by decide) (fun c178 => ?_) (fun c178 => ?_)
            · exact absurd (nI_lt' (by omega) (by omega) c178) (by omega)
            · refine x_aload_n d_La_rooms_181 rfl ?_
              refine x_iload_n d_La_rooms_182 rfl ?_
              refine x_iload d_La_rooms_183 rfl ?_
              refine x_iconst (v := nI 2) d_La_rooms_185 (by decide) ?_
              refine x_v3i d_La_rooms_186 ml_La_26 v_Cc_strip rfl ⟨rfl, rfl⟩ hL.io (Nat.le_of_ble_eq_true rfl) (ct_Cc_strip hL hC174.1) (fun r186 mem186 h186 => ?_)
              obtain ⟨rfl, hC186⟩ := CI.st hC174 h186
              rw [hst2 n hn3]
              refine x_aload_n d_La_rooms_189 rfl ?_
              refine x_iconst (v := nI 4) d_La_rooms_190 (by decide) ?_
              refine x_v1i d_La_rooms_191 ml_La_9 v_Cc_count rfl ⟨rfl, rfl⟩ hL.io (Nat.le_of_ble_eq_true rfl) (ct_Cc_count hL hC186.1) (fun r191 mem191 h191 => ?_)
              obtain ⟨rfl, hC191⟩ := CI.st hC186 h191
              rw [vc_4]
              refine x_icmp_lt (tgt := 199) d_La_rooms_194 (by decide) (fun c194 => ?_) (fun c194 => ?_)
              · refine x_iinc d_La_rooms_199 rfl (by first | exact inc1 _ | rfl) (by decide) ?_
                refine x_goto (tgt := 104) d_La_rooms_202 (by decide) ?_
                exact ihn hn3 _ hC191
              · refine absurd ?_ c194
                rcases hsrc n hn3 with h | h
                · exact nI_lt h (by omega)
                · rw [h]
                  exact Int32.lt_of_lt_of_le (show nI NONE32 < 0 by decide) (nI_pos' (by omega))
        · have hw1 : cnt (fun s => decide (sw SS s < ro G.1 (rq G.1 j 9) 1)) n + 1 = cnt (fun s => decide (sw SS s < ro G.1 (rq G.1 j 9) 1)) (n + 1) := (cnt_t (p := fun s => decide (sw SS s < ro G.1 (rq G.1 j 9) 1)) (decide_eq_true (nI_nle' (by omega) (by omega) c145))).symm
          refine x_iconst (v := nI 1) d_La_rooms_148 (by decide) ?_
          refine x_goto (tgt := 153) d_La_rooms_149 (by decide) ?_
          refine x_iadd d_La_rooms_153 ?_
          rw [nI_add, hw1]
          refine x_istore d_La_rooms_154 (by decide) ?_
          refine x_aload_n d_La_rooms_156 rfl ?_
          refine x_iload_n d_La_rooms_157 rfl ?_
          refine x_iload d_La_rooms_158 rfl ?_
          refine x_iconst (v := nI 0) d_La_rooms_160 (by decide) ?_
          refine x_v3i d_La_rooms_161 ml_La_26 v_Cc_strip rfl ⟨rfl, rfl⟩ hL.io (Nat.le_of_ble_eq_true rfl) (ct_Cc_strip hL hC140.1) (fun r161 mem161 h161 => ?_)
          obtain ⟨rfl, hC161⟩ := CI.st hC140 h161
          rw [hst0 n hn3]
          refine x_iload d_La_rooms_164 rfl ?_
          refine x_icmp_gt (tgt := 197) d_La_rooms_166 (by decide) (fun c166 => ?_) (fun c166 => ?_)
          · exact absurd (nI_lt' (by omega) (by omega) c166) (by omega)
          · refine x_aload_n d_La_rooms_169 rfl ?_
            refine x_iload_n d_La_rooms_170 rfl ?_
            refine x_iload d_La_rooms_171 rfl ?_
            refine x_iconst (v := nI 0) d_La_rooms_173 (by decide) ?_
            refine x_v3i d_La_rooms_174 ml_La_26 v_Cc_strip rfl ⟨rfl, rfl⟩ hL.io (Nat.le_of_ble_eq_true rfl) (ct_Cc_strip hL hC161.1) (fun r174 mem174 h174 => ?_)
            obtain ⟨rfl, hC174⟩ := CI.st hC161 h174
            rw [hst0 n hn3]
            refine x_iconst (v := nI 1) d_La_rooms_177 (by decide) ?_
            refine x_icmp_lt (tgt := 197) d_La_rooms_178 (by decide) (fun c178 => ?_) (fun c178 => ?_)
            · exact absurd (nI_lt' (by omega) (by omega) c178) (by omega)
            · refine x_aload_n d_La_rooms_181 rfl ?_
              refine x_iload_n d_La_rooms_182 rfl ?_
              refine x_iload d_La_rooms_183 rfl ?_
              refine x_iconst (v := nI 2) d_La_rooms_185 (by decide) ?_
              refine x_v3i d_La_rooms_186 ml_La_26 v_Cc_strip rfl ⟨rfl, rfl⟩ hL.io (Nat.le_of_ble_eq_true rfl) (ct_Cc_strip hL hC174.1) (fun r186 mem186 h186 => ?_)
              obtain ⟨rfl, hC186⟩ := CI.st hC174 h186
              rw [hst2 n hn3]
              refine x_aload_n d_La_rooms_189 rfl ?_
              refine x_iconst (v := nI 4) d_La_rooms_190 (by decide) ?_
              refine x_v1i d_La_rooms_191 ml_La_9 v_Cc_count rfl ⟨rfl, rfl⟩ hL.io (Nat.le_of_ble_eq_true rfl) (ct_Cc_count hL hC186.1) (fun r191 mem191 h191 => ?_)
              obtain ⟨rfl, hC191⟩ := CI.st hC186 h191
              rw [vc_4]
              refine x_icmp_lt (tgt := 199) d_La_rooms_194 (by decide) (fun c194 => ?_) (fun c194 => ?_)
              · refine x_iinc d_La_rooms_199 rfl (by first | exact inc1 _ | rfl) (by decide) ?_
                refine x_goto (tgt := 104) d_La_rooms_202 (by decide) ?_
                exact ihn hn3 _ hC191
              · refine absurd ?_ c194
                rcases hsrc n hn3 with h | h
                · exact nI_lt h (by omega)
                · rw [h]
                  exact Int32.lt_of_lt_of_le (show nI NONE32 < 0 by decide) (nI_pos' (by omega))
    · have h8 : ¬ rq G.1 j 8 = 1 := fun z => by rw [z] at c21; exact absurd c21 (by decide)
      have hcn : cnt (fun i => decide (rq G.1 i 8 = 1)) (j + 1) = cnt (fun i => decide (rq G.1 i 8 = 1)) j := cnt_f (p := fun i => decide (rq G.1 i 8 = 1)) (decide_eq_false h8)
      have hsn : sN (fun i => if rq G.1 i 8 = 1 then areaN (rq G.1 i) else 0) (j + 1) = sN (fun i => if rq G.1 i 8 = 1 then areaN (rq G.1 i) else 0) j := by rw [sN, if_neg h8, Nat.add_zero]
      refine x_aload_n d_La_rooms_24 rfl ?_
      refine x_iload_n d_La_rooms_25 rfl ?_
      refine x_iconst (v := nI 4) d_La_rooms_26 (by decide) ?_
      refine x_v2i d_La_rooms_27 ml_La_19 v_Cc_room rfl ⟨rfl, rfl⟩ hL.io (Nat.le_of_ble_eq_true rfl) (ct_Cc_room hL hC18.1) (fun r27 mem27 h27 => ?_)
      obtain ⟨rfl, hC27⟩ := CI.st hC18 h27
      rw [vm_b h20 hj3 h8 (by omega) (by omega)]
      refine x_bipush (v := -5) d_La_rooms_30 (by decide) ?_
      refine x_icmp_ne (tgt := 59) d_La_rooms_32 (by decide) (fun c32 => ?_) (fun c32 => ?_)
      · exact absurd rfl c32
      · refine x_aload_n d_La_rooms_35 rfl ?_
        refine x_iload_n d_La_rooms_36 rfl ?_
        refine x_bipush (v := nI 8) d_La_rooms_37 (by decide) ?_
        refine x_v2i d_La_rooms_39 ml_La_19 v_Cc_room rfl ⟨rfl, rfl⟩ hL.io (Nat.le_of_ble_eq_true rfl) (ct_Cc_room hL hC27.1) (fun r39 mem39 h39 => ?_)
        obtain ⟨rfl, hC39⟩ := CI.st hC27 h39
        rw [vm_b h20 hj3 h8 (by omega) (by omega)]
        refine x_bipush (v := -5) d_La_rooms_42 (by decide) ?_
        refine x_icmp_ne (tgt := 59) d_La_rooms_44 (by decide) (fun c44 => ?_) (fun c44 => ?_)
        · exact absurd rfl c44
        · refine x_aload_n d_La_rooms_47 rfl ?_
          refine x_iload_n d_La_rooms_48 rfl ?_
          refine x_iconst (v := nI 0) d_La_rooms_49 (by decide) ?_
          refine x_iconst (v := nI 0) d_La_rooms_50 (by decide) ?_
          refine x_v3i d_La_rooms_51 ml_La_26 v_Cc_strip rfl ⟨rfl, rfl⟩ hL.io (Nat.le_of_ble_eq_true rfl) (ct_Cc_strip hL hC39.1) (fun r51 mem51 h51 => ?_)
          obtain ⟨rfl, hC51⟩ := CI.st hC39 h51
          rw [vs_no h20 hj3 (by omega) (by omega) (fun z => absurd z h8)]
          refine x_bipush (v := -5) d_La_rooms_54 (by decide) ?_
          refine x_icmp_eq (tgt := 253) d_La_rooms_56 (by decide) (fun c56 => ?_) (fun c56 => ?_)
          · refine x_iinc d_La_rooms_253 rfl (inc1 _) (by decide) ?_
            refine x_goto (tgt := 6) d_La_rooms_256 (by decide) ?_
            have h := ih hj3 _ v4 v5 v6 v7 v8 hC51
            rw [hcn, hsn] at h
            exact h
          · exact absurd rfl c56
end
