/-! the best covering, found; the plan for all rooms, carried out -/
def CF (κ : Nat) (mem m : Mem) : Prop := ∀ o, (o < κ + 97 ∨ κ + 97 + 48 ≤ o) → o ≠ κ + 409 → m o = mem o
theorem ChRep.mv {mem m : Mem} {χ : Nat} {c : Option (Nat × Nat × Nat × Nat)} (h : ChRep mem χ c) (hm : m χ = mem χ) : ChRep m χ c := by
  cases c with
  | none => exact (congrFun hm 0).trans h
  | some q =>
    obtain ⟨h0, h1, h2, h3, h4, h5⟩ := h
    exact ⟨(congrFun hm 0).trans h0, (congrFun hm 1).trans h1, (congrFun hm 2).trans h2, (congrFun hm 3).trans h3, (congrFun hm 4).trans h4, h5⟩
theorem chN_skip {R : RS} {i kd j : Nat} (h : ro R j 0 ≠ kd) : chN R i kd (2 * (j + 1)) = chN R i kd (2 * j) := by
  rw [show 2 * (j + 1) = 2 * j + 1 + 1 by omega, chN, if_neg (fun z => h (by have := z.1; rw [show (2 * j + 1) / 2 = j by omega] at this; exact this)), chN, if_neg (fun z => h (by have := z.1; rw [show (2 * j) / 2 = j by omega] at this; exact this))]
theorem chN_yes {R : RS} {i kd j k : Nat} (hk : k < 2) (h : ro R j 0 = kd) (h0 : (coverS R i j k).1 = 0) : chN R i kd (2 * j + (k + 1)) = offerS (chN R i kd (2 * j + k)) j k (wasteD R i j k) (priceS R i j k) := by
  rw [show 2 * j + (k + 1) = 2 * j + k + 1 by omega, chN, show (2 * j + k) / 2 = j by omega, show (2 * j + k) % 2 = k by omega, if_pos ⟨h, h0⟩]
theorem chN_no {R : RS} {i kd j k : Nat} (hk : k < 2) (h0 : (coverS R i j k).1 ≠ 0) : chN R i kd (2 * j + (k + 1)) = chN R i kd (2 * j + k) := by
  rw [show 2 * j + (k + 1) = 2 * j + k + 1 by omega, chN, show (2 * j + k) / 2 = j by omega, show (2 * j + k) % 2 = k by omega, if_neg (fun z => h0 z.2)]
section
variable {l : Launch} {g : XG} {sh : Nat → Sh} {mem : Mem} {κ : Nat} {G : GS}
theorem ct_Cc_choose (hL : LayCc sh κ) {β : Nat} {R : RS} (hB : LayBk sh β) (hd : β + 48 ≤ κ + 97 ∨ (κ + 145 ≤ β ∧ β + 48 ≤ κ + 409)) (hI : Inv R) (hb : BookRep mem β R) {i kd : Nat} (hi : i < R 2) (hkd : kd ≤ 9) : Ct l g M_Cc_choose [rf g κ, rf g β, .int (nI i), .int (nI kd)] none sh mem (Rv none sh (fun m => ChRep m (κ + 409) (chooseS R i kd) ∧ CF κ mem m)) := by
  have h12 := hI.1.1
  refine x_begin rfl rfl rfl (by decide) rfl ?_
  refine x_aload_n d_Cc_choose_0 rfl ?_
  refine x_getR hL.f0 rfl fs_Cc_42 d_Cc_choose_1 ?_
  refine x_iconst (v := nI 0) d_Cc_choose_4 (by decide) ?_
  refine x_putI hL.s409.f0 rfl ps_Cc_259 rfl rfl d_Cc_choose_5 ?_
  refine x_aload_n d_Cc_choose_8 rfl ?_
  refine x_getR hB.f0 rfl fs_Cc_50 d_Cc_choose_9 ?_
  refine x_getI hB.s3.f0 rfl fs_Cc_54 d_Cc_choose_12 ?_
  rw [um_ne _ _ _ (by omega), hb.2.2.1.1]
  refine x_istore d_Cc_choose_15 (by decide) ?_
  refine x_iconst (v := nI 0) d_Cc_choose_17 (by decide) ?_
  refine x_istore d_Cc_choose_18 (by decide) ?_
  refine up_ind (R 0) (P := fun j => ∀ (m : Mem) (u6 u7 u8 : Option Value), ChRep m (κ + 409) (chN R i kd (2 * j)) → CF κ mem m → X l g M_Cc_choose (XF g (Rv none sh (fun m => ChRep m (κ + 409) (chooseS R i kd) ∧ CF κ mem m)) M_Cc_choose) 20 [some (rf g κ), some (rf g β), some (.int (nI i)), some (.int (nI kd)), some (.int (nI (R 0))), some (.int (nI j)), u6, u7, u8] [] none sh m 0 0) (fun j hj ih m u6 u7 u8 hch hfr => ?_) 0 (Nat.zero_le _) _ _ _ _ (um_eq _ _ _ _) (fun o h1 h2 => um_ne _ _ _ h2)
  have hbm : BookRep m β R := hb.mv hI (fun o h1 h2 => hfr o (by omega) (by omega))
  refine x_iload d_Cc_choose_20 rfl ?_
  refine x_iload d_Cc_choose_22 rfl ?_
  refine x_icmp_ge (tgt := 139) d_Cc_choose_24 (by decide) (fun c24 => ?_) (fun c24 => ?_)
  · have hj2 : j = R 0 := by have := nI_le' (by omega) (by omega) c24; omega
    rw [hj2] at hch
    refine x_vret rfl d_Cc_choose_139 (Nat.zero_le _) (Nat.zero_le _) ?_
    exact ⟨rfl, rfl, rfl, hch, hfr⟩
  · have hj2 := nI_nle' (by omega) (by omega) c24
    have hkj := (hI.2.2.1 j hj2).1
    refine x_aload_n d_Cc_choose_27 rfl ?_
    refine x_getR hB.f0 rfl fs_Cc_50 d_Cc_choose_28 ?_
    refine x_getR hB.s3.f0 rfl fs_Cc_157 d_Cc_choose_31 ?_
    refine x_iload d_Cc_choose_34 rfl ?_
    refine x_v1p d_Cc_choose_36 ml_Cc_134 v_Rw_at rfl ⟨rfl, rfl⟩ (row_io hB.s3.f1) (Nat.le_of_ble_eq_true rfl) (ct_Rw_at hB.s3.f1 hB.s3.f2 (by omega)) ?_
    rw [(hbm.2.2.1.2 j (by omega)).1]
    refine x_iload_n d_Cc_choose_39 rfl ?_
    refine x_icmp_eq (tgt := 46) d_Cc_choose_40 (by decide) (fun c40 => ?_) (fun c40 => ?_)
    · have heq := nI_eq' (by omega) (by omega) c40
      refine x_iconst (v := nI 0) d_Cc_choose_46 (by decide) ?_
      refine x_istore d_Cc_choose_47 (by decide) ?_
      refine up_ind 2 (P := fun k => ∀ (m : Mem) (u7 u8 : Option Value), ChRep m (κ + 409) (chN R i kd (2 * j + k)) → CF κ mem m → X l g M_Cc_choose (XF g (Rv none sh (fun m => ChRep m (κ + 409) (chooseS R i kd) ∧ CF κ mem m)) M_Cc_choose) 49 [some (rf g κ), some (rf g β), some (.int (nI i)), some (.int (nI kd)), some (.int (nI (R 0))), some (.int (nI j)), some (.int (nI k)), u7, u8] [] none sh m 0 0) (fun k hk ih2 m u7 u8 hch hfr => ?_) 0 (Nat.zero_le _) m _ _ hch hfr
      have hbm : BookRep m β R := hb.mv hI (fun o h1 h2 => hfr o (by omega) (by omega))
      refine x_iload d_Cc_choose_49 rfl ?_
      refine x_iconst (v := nI 1) d_Cc_choose_51 (by decide) ?_
      refine x_icmp_gt (tgt := 133) d_Cc_choose_52 (by decide) (fun c52 => ?_) (fun c52 => ?_)
      · have hk2 : k = 2 := by have := nI_lt' (by omega) (by omega) c52; omega
        rw [hk2, show 2 * j + 2 = 2 * (j + 1) by omega] at hch
        refine x_iinc d_Cc_choose_133 rfl (by first | exact inc1 _ | rfl) (by decide) ?_
        refine x_goto (tgt := 20) d_Cc_choose_136 (by decide) ?_
        exact ih hj2 _ _ _ _ hch hfr
      · have hk2 : k < 2 := by have := nI_nlt' (by omega) (by omega) c52; omega
        have hpr := priceS_lt hI hi hj2 (show k ≤ 1 by omega)
        refine x_aload_n d_Cc_choose_55 rfl ?_
        refine x_getR hL.f0 rfl fs_Cc_19 d_Cc_choose_56 ?_
        refine x_aload_n d_Cc_choose_59 rfl ?_
        refine x_v1v d_Cc_choose_60 ml_Cc_93 v_Bk_copyFrom rfl ⟨rfl, rfl⟩ hL.s97.io (Nat.le_of_ble_eq_true rfl) (ct_Bk_copyFrom hL.s97 hB (by omega)) (fun mem60 h60 => ?_)
        obtain ⟨F0, hcp⟩ := h60
        have hbt := hcp _ hI hbm
        refine x_aload_n d_Cc_choose_63 rfl ?_
        refine x_getR hL.f0 rfl fs_Cc_19 d_Cc_choose_64 ?_
        refine x_iload_n d_Cc_choose_67 rfl ?_
        refine x_iload d_Cc_choose_68 rfl ?_
        refine x_iload d_Cc_choose_70 rfl ?_
        refine x_v3i d_Cc_choose_72 ml_Cc_96 v_Bk_lay rfl ⟨rfl, rfl⟩ hL.s97.io (Nat.le_of_ble_eq_true rfl) (ct_Bk_lay hL.s97 hI hbt hi hj2 (by omega)) (fun r72 mem72 h72 => ?_)
        obtain ⟨F1, hl⟩ := h72
        have hf1 : CF κ mem mem72 := fun o h1 h2 => ((F1 o h1).trans (F0 o h1)).trans (hfr o h1 h2)
        have hch1 := hch.mv (m := mem72) ((F1 _ (by omega)).trans (F0 _ (by omega)))
        have hbk : BookRep mem72 β R := hb.mv hI (fun o h1 h2 => hf1 o (by omega) (by omega))
        rcases hl with ⟨e0, ex, hb1⟩ | ⟨e0, ex⟩
        · subst ex
          have hw1 := (coverS_keep hI hi hj2 (show k ≤ 1 by omega) e0).1.1
          have hw2 := wasteD_lt hI hi hj2 (show k ≤ 1 by omega) e0
          refine x_istore d_Cc_choose_75 (by decide) ?_
          refine x_iload d_Cc_choose_77 rfl ?_
          refine x_if_lt (tgt := 127) d_Cc_choose_79 (by decide) (fun c79 => ?_) (fun c79 => ?_)
          · exact absurd c79 (nI_pos (by omega))
          · refine x_aload_n d_Cc_choose_82 rfl ?_
            refine x_getR hL.f0 rfl fs_Cc_19 d_Cc_choose_83 ?_
            refine x_getR hL.s97.f0 rfl fs_Cc_50 d_Cc_choose_86 ?_
            refine x_getR hL.s97.s3.f0 rfl fs_Cc_178 d_Cc_choose_89 ?_
            refine x_iload d_Cc_choose_92 rfl ?_
            refine x_v1p d_Cc_choose_94 ml_Cc_134 v_Rw_at rfl ⟨rfl, rfl⟩ (row_io hL.s97.s3.f13) (Nat.le_of_ble_eq_true rfl) (ct_Rw_at hL.s97.s3.f13 hL.s97.s3.f14 (by omega)) ?_
            rw [(hb1.2.2.1.2 j (by omega)).2.2.2.2.2.2.1]
            refine x_aload_n d_Cc_choose_97 rfl ?_
            refine x_getR hB.f0 rfl fs_Cc_50 d_Cc_choose_98 ?_
            refine x_getR hB.s3.f0 rfl fs_Cc_178 d_Cc_choose_101 ?_
            refine x_iload d_Cc_choose_104 rfl ?_
            refine x_v1p d_Cc_choose_106 ml_Cc_134 v_Rw_at rfl ⟨rfl, rfl⟩ (row_io hB.s3.f13) (Nat.le_of_ble_eq_true rfl) (ct_Rw_at hB.s3.f13 hB.s3.f14 (by omega)) ?_
            rw [(hbk.2.2.1.2 j (by omega)).2.2.2.2.2.2.1]
            refine x_isub d_Cc_choose_109 ?_
            rw [pk_sub hw1, show ro (coverS R i j k).2 j 5 - ro R j 5 = wasteD R i j k from rfl]
            refine x_istore d_Cc_choose_110 (by decide) ?_
            refine x_aload_n d_Cc_choose_112 rfl ?_
            refine x_getR hL.f0 rfl fs_Cc_42 d_Cc_choose_113 ?_
            refine x_iload d_Cc_choose_116 rfl ?_
            refine x_iload d_Cc_choose_118 rfl ?_
            refine x_iload d_Cc_choose_120 rfl ?_
            refine x_iload d_Cc_choose_122 rfl ?_
            refine x_v4v d_Cc_choose_124 ml_Cc_273 v_Ch_offer rfl ⟨rfl, rfl⟩ hL.s409.io (Nat.le_of_ble_eq_true rfl) (ct_Ch_offer hL.s409 hch1 (by omega) (by omega)) (fun mem124 h124 => ?_)
            refine x_iinc d_Cc_choose_127 rfl (by first | exact inc1 _ | rfl) (by decide) ?_
            refine x_goto (tgt := 49) d_Cc_choose_130 (by decide) ?_
            exact ih2 hk2 _ _ _ (by rw [chN_yes hk2 heq e0]; exact h124.2) (fun o h1 h2 => (h124.1 o (by omega)).trans (hf1 o h1 h2))
        · subst ex
          refine x_istore d_Cc_choose_75 (by decide) ?_
          refine x_iload d_Cc_choose_77 rfl ?_
          refine x_if_lt (tgt := 127) d_Cc_choose_79 (by decide) (fun c79 => ?_) (fun c79 => ?_)
          · refine x_iinc d_Cc_choose_127 rfl (by first | exact inc1 _ | rfl) (by decide) ?_
            refine x_goto (tgt := 49) d_Cc_choose_130 (by decide) ?_
            exact ih2 hk2 _ _ _ (by rw [chN_no hk2 e0]; exact hch1) hf1
          · exact absurd (errI_neg _) c79
    · have hne : ro R j 0 ≠ kd := fun z => c40 (by rw [z])
      refine x_goto (tgt := 133) d_Cc_choose_43 (by decide) ?_
      refine x_iinc d_Cc_choose_133 rfl (by first | exact inc1 _ | rfl) (by decide) ?_
      refine x_goto (tgt := 20) d_Cc_choose_136 (by decide) ?_
      exact ih hj2 _ _ _ _ (by rw [chN_skip hne]; exact hch) hfr
theorem ct_Cc_best (hL : LayCc sh κ) (hC : CR mem κ G) {i kd w : Int32} : Ct l g M_Cc_best [rf g κ, .int i, .int kd, .int w] none sh mem (Ri none sh (CP κ mem (vBest G.1 i kd w, G))) := by
  obtain ⟨hI, hb, hh, ht, hs⟩ := id hC
  have h20 := hI.1.2.2
  have h12 := hI.1.1
  refine x_begin rfl rfl rfl (by decide) rfl ?_
  refine x_aload_n d_Cc_best_0 rfl ?_
  refine x_getR hL.f0 rfl fs_Cc_10 d_Cc_best_1 ?_
  refine x_getR hL.s1.f0 rfl fs_Cc_79 d_Cc_best_4 ?_
  refine x_iload_n d_Cc_best_7 rfl ?_
  refine x_v1p d_Cc_best_8 ml_Cc_86 v_Rm_has rfl ⟨rfl, rfl⟩ hL.s1.s29.io (Nat.le_of_ble_eq_true rfl) (ct_Rm_has hL.s1.s29 hb.2.2.2.2.1 h20) ?_
  refine x_if_ne (tgt := 16) d_Cc_best_11 (by decide) (fun c11 => ?_) (fun c11 => ?_)
  · have hi0 := bI_n.mp c11
    rw [show vBest G.1 i kd w = if inI kd 0 9 ∧ inI w 0 3 then (match chooseS G.1 (tN i) (tN kd) with
        | none => -5
        | some q => nI (bestN q (tN w))) else -2 from if_pos hi0]
    obtain ⟨i, hi, rfl⟩ := hasI_of (by omega) hi0
    rw [tN_nI (by omega)]
    refine x_iload_n d_Cc_best_16 rfl ?_
    refine x_s1p d_Cc_best_17 ml_Cc_46 v_Cc_isKind rfl ⟨rfl, rfl⟩ rfl (Nat.le_of_ble_eq_true rfl) (ct_Cc_isKind) ?_
    refine x_if_eq (tgt := 32) d_Cc_best_20 (by decide) (fun c20 => ?_) (fun c20 => ?_)
    · rw [if_neg (fun z => bI_0.mp c20 z.1)]
      refine x_bipush (v := -2) d_Cc_best_32 (by decide) ?_
      refine x_iret rfl rfl d_Cc_best_34 (Nat.zero_le _) (Nat.zero_le _) ?_
      exact ⟨_, rfl, rfl, rfl, rfl, hC, Fr.rf⟩
    · refine x_iload_n d_Cc_best_23 rfl ?_
      refine x_if_lt (tgt := 32) d_Cc_best_24 (by decide) (fun c24 => ?_) (fun c24 => ?_)
      · rw [if_neg (fun z => rng_no (Or.inl c24) z.2)]
        refine x_bipush (v := -2) d_Cc_best_32 (by decide) ?_
        refine x_iret rfl rfl d_Cc_best_34 (Nat.zero_le _) (Nat.zero_le _) ?_
        exact ⟨_, rfl, rfl, rfl, rfl, hC, Fr.rf⟩
      · refine x_iload_n d_Cc_best_27 rfl ?_
        refine x_iconst (v := nI 3) d_Cc_best_28 (by decide) ?_
        refine x_icmp_le (tgt := 35) d_Cc_best_29 (by decide) (fun c29 => ?_) (fun c29 => ?_)
        · have hk0 := bI_n.mp c20
          have hw0 : inI w 0 3 := ⟨i_nlt.mp c24, c29⟩
          rw [if_pos ⟨hk0, hw0⟩]
          obtain ⟨kd, hkd, rfl⟩ := inI_of (by omega) (by omega) hk0
          obtain ⟨w, hw, rfl⟩ := inI_of (by omega) (by omega) hw0
          rw [tN_nI (by omega), tN_nI (by omega)]
          refine x_aload_n d_Cc_best_35 rfl ?_
          refine x_aload_n d_Cc_best_36 rfl ?_
          refine x_getR hL.f0 rfl fs_Cc_10 d_Cc_best_37 ?_
          refine x_iload_n d_Cc_best_40 rfl ?_
          refine x_iload_n d_Cc_best_41 rfl ?_
          refine x_v3v d_Cc_best_42 ml_Cc_255 v_Cc_choose rfl ⟨rfl, rfl⟩ hL.io (Nat.le_of_ble_eq_true rfl) (ct_Cc_choose hL hL.s1 (by omega) hI hb hi hkd.2) (fun mem42 h42 => ?_)
          obtain ⟨hch, hcf⟩ := h42
          have hC1 := hC.scr (m := mem42) (fun o h1 h2 => hcf o (by omega) h2)
          cases hq : chooseS G.1 i kd with
          | none =>
            rw [hq] at hch
            have hch : mem42 (κ + 409) 0 = nI 0 := hch
            dsimp only
            refine x_aload_n d_Cc_best_45 rfl ?_
            refine x_getR hL.f0 rfl fs_Cc_42 d_Cc_best_46 ?_
            refine x_getI hL.s409.f0 rfl fs_Cc_259 d_Cc_best_49 ?_
            rw [hch]
            refine x_if_ne (tgt := 58) d_Cc_best_52 (by decide) (fun c52 => ?_) (fun c52 => ?_)
            · exact absurd rfl c52
            · refine x_bipush (v := -5) d_Cc_best_55 (by decide) ?_
              refine x_iret rfl rfl d_Cc_best_57 (Nat.zero_le _) (Nat.zero_le _) ?_
              exact ⟨_, rfl, rfl, rfl, rfl, hC1⟩
          | some q =>
            rw [hq] at hch
            obtain ⟨c0, c1, c2, c3, c4, -⟩ := hch
            dsimp only
            refine x_aload_n d_Cc_best_45 rfl ?_
            refine x_getR hL.f0 rfl fs_Cc_42 d_Cc_best_46 ?_
            refine x_getI hL.s409.f0 rfl fs_Cc_259 d_Cc_best_49 ?_
            rw [c0]
            refine x_if_ne (tgt := 58) d_Cc_best_52 (by decide) (fun c52 => ?_) (fun c52 => ?_)
            · refine x_iload_n d_Cc_best_58 rfl ?_
              rcases (show w = 0 ∨ w = 1 ∨ w = 2 ∨ w = 3 by omega) with rfl | rfl | rfl | rfl
              · refine x_tableIn (off := 25) (tgt := 84) d_Cc_best_59 (by decide) (by decide) (by decide) (by decide) ?_
                refine x_aload_n d_Cc_best_84 rfl ?_
                refine x_getR hL.f0 rfl fs_Cc_42 d_Cc_best_85 ?_
                refine x_getI hL.s409.f0 rfl fs_Cc_262 d_Cc_best_88 ?_
                rw [c1]
                refine x_iret rfl rfl d_Cc_best_91 (Nat.zero_le _) (Nat.zero_le _) ?_
                exact ⟨_, rfl, rfl, rfl, rfl, hC1⟩
              · refine x_tableIn (off := 33) (tgt := 92) d_Cc_best_59 (by decide) (by decide) (by decide) (by decide) ?_
                refine x_aload_n d_Cc_best_92 rfl ?_
                refine x_getR hL.f0 rfl fs_Cc_42 d_Cc_best_93 ?_
                refine x_getI hL.s409.f0 rfl fs_Cc_264 d_Cc_best_96 ?_
                rw [c2]
                refine x_iret rfl rfl d_Cc_best_99 (Nat.zero_le _) (Nat.zero_le _) ?_
                exact ⟨_, rfl, rfl, rfl, rfl, hC1⟩
              · refine x_tableIn (off := 41) (tgt := 100) d_Cc_best_59 (by decide) (by decide) (by decide) (by decide) ?_
                refine x_aload_n d_Cc_best_100 rfl ?_
                refine x_getR hL.f0 rfl fs_Cc_42 d_Cc_best_101 ?_
                refine x_getI hL.s409.f0 rfl fs_Cc_266 d_Cc_best_104 ?_
                rw [c3]
                refine x_iret rfl rfl d_Cc_best_107 (Nat.zero_le _) (Nat.zero_le _) ?_
                exact ⟨_, rfl, rfl, rfl, rfl, hC1⟩
              · refine x_tableOut (tgt := 108) d_Cc_best_59 (by decide) (by decide) ?_
                refine x_aload_n d_Cc_best_108 rfl ?_
                refine x_getR hL.f0 rfl fs_Cc_42 d_Cc_best_109 ?_
                refine x_getI hL.s409.f0 rfl fs_Cc_268 d_Cc_best_112 ?_
                rw [c4]
                refine x_iret rfl rfl d_Cc_best_115 (Nat.zero_le _) (Nat.zero_le _) ?_
                exact ⟨_, rfl, rfl, rfl, rfl, hC1⟩
            · exact absurd c52 (by decide)
        · rw [if_neg (fun z => c29 z.2.2)]
          refine x_bipush (v := -2) d_Cc_best_32 (by decide) ?_
          refine x_iret rfl rfl d_Cc_best_34 (Nat.zero_le _) (Nat.zero_le _) ?_
          exact ⟨_, rfl, rfl, rfl, rfl, hC, Fr.rf⟩
  · rw [show vBest G.1 i kd w = -1 from if_neg (bI_0.mp c11)]
    refine x_iconst (v := -1) d_Cc_best_14 (by decide) ?_
    refine x_iret rfl rfl d_Cc_best_15 (Nat.zero_le _) (Nat.zero_le _) ?_
    exact ⟨_, rfl, rfl, rfl, rfl, hC, Fr.rf⟩
theorem ct_Cc_coverAll (hL : LayCc sh κ) (hC : CR mem κ G) {kd w : Int32} : Ct l g M_Cc_coverAll [rf g κ, .int kd, .int w] none sh mem (Ri none sh (CP κ mem (vCovAll G.1 kd w, G))) := by
  obtain ⟨hI, hb, hh, ht, hs⟩ := id hC
  have h20 := hI.1.2.2
  have h12 := hI.1.1
  refine x_begin rfl rfl rfl (by decide) rfl ?_
  refine x_iload_n d_Cc_coverAll_0 rfl ?_
  refine x_s1p d_Cc_coverAll_1 ml_Cc_46 v_Cc_isKind rfl ⟨rfl, rfl⟩ rfl (Nat.le_of_ble_eq_true rfl) (ct_Cc_isKind) ?_
  refine x_if_eq (tgt := 16) d_Cc_coverAll_4 (by decide) (fun c4 => ?_) (fun c4 => ?_)
  · rw [show vCovAll G.1 kd w = -2 from if_neg (fun z => bI_0.mp c4 z.1)]
    refine x_bipush (v := -2) d_Cc_coverAll_16 (by decide) ?_
    refine x_iret rfl rfl d_Cc_coverAll_18 (Nat.zero_le _) (Nat.zero_le _) ?_
    exact ⟨_, rfl, rfl, rfl, rfl, hC, Fr.rf⟩
  · refine x_iload_n d_Cc_coverAll_7 rfl ?_
    refine x_if_lt (tgt := 16) d_Cc_coverAll_8 (by decide) (fun c8 => ?_) (fun c8 => ?_)
    · rw [show vCovAll G.1 kd w = -2 from if_neg (fun z => rng_no (Or.inl c8) z.2)]
      refine x_bipush (v := -2) d_Cc_coverAll_16 (by decide) ?_
      refine x_iret rfl rfl d_Cc_coverAll_18 (Nat.zero_le _) (Nat.zero_le _) ?_
      exact ⟨_, rfl, rfl, rfl, rfl, hC, Fr.rf⟩
    · refine x_iload_n d_Cc_coverAll_11 rfl ?_
      refine x_iconst (v := nI 1) d_Cc_coverAll_12 (by decide) ?_
      refine x_icmp_le (tgt := 19) d_Cc_coverAll_13 (by decide) (fun c13 => ?_) (fun c13 => ?_)
      · have hk0 := bI_n.mp c4
        have hw0 : inI w 0 1 := ⟨i_nlt.mp c8, c13⟩
        rw [show vCovAll G.1 kd w = nI (if tN w = 0 then (planS G.1 (tN kd) (G.1 2)).2.1 else (planS G.1 (tN kd) (G.1 2)).2.2) from if_pos ⟨hk0, hw0⟩]
        obtain ⟨kd, hkd, rfl⟩ := inI_of (by omega) (by omega) hk0
        obtain ⟨w, hw, rfl⟩ := inI_of (by omega) (by omega) hw0
        rw [tN_nI (by omega), tN_nI (by omega)]
        refine x_aload_n d_Cc_coverAll_19 rfl ?_
        refine x_getR hL.f0 rfl fs_Cc_22 d_Cc_coverAll_20 ?_
        refine x_aload_n d_Cc_coverAll_23 rfl ?_
        refine x_getR hL.f0 rfl fs_Cc_10 d_Cc_coverAll_24 ?_
        refine x_v1v d_Cc_coverAll_27 ml_Cc_93 v_Bk_copyFrom rfl ⟨rfl, rfl⟩ hL.s145.io (Nat.le_of_ble_eq_true rfl) (ct_Bk_copyFrom hL.s145 hL.s1 (by omega)) (fun mem27 h27 => ?_)
        obtain ⟨F0, hcp⟩ := h27
        have hb0 := hcp _ hI hb
        refine x_aload_n d_Cc_coverAll_30 rfl ?_
        refine x_getR hL.f0 rfl fs_Cc_22 d_Cc_coverAll_31 ?_
        refine x_getR hL.s145.f0 rfl fs_Cc_79 d_Cc_coverAll_34 ?_
        refine x_getI hL.s145.s29.f0 rfl fs_Cc_76 d_Cc_coverAll_37 ?_
        rw [hb0.2.2.2.2.1]
        refine x_istore_n d_Cc_coverAll_40 (by decide) ?_
        refine x_iconst (v := nI 0) d_Cc_coverAll_41 (by decide) ?_
        refine x_istore d_Cc_coverAll_42 (by decide) ?_
        refine x_iconst (v := nI 0) d_Cc_coverAll_44 (by decide) ?_
        refine x_istore d_Cc_coverAll_45 (by decide) ?_
        refine x_iconst (v := nI 0) d_Cc_coverAll_47 (by decide) ?_
        refine x_istore d_Cc_coverAll_48 (by decide) ?_
        refine up_ind (G.1 2) (P := fun n => ∀ (m : Mem), BookRep m (κ + 145) (planS G.1 kd n).1 → (∀ o, (o < κ + 97 ∨ κ + 193 ≤ o) → o ≠ κ + 409 → m o = mem o) → X l g M_Cc_coverAll (XF g (Ri none sh (CP κ mem (nI (if w = 0 then (planS G.1 kd (G.1 2)).2.1 else (planS G.1 kd (G.1 2)).2.2), G))) M_Cc_coverAll) 50 [some (rf g κ), some (.int (nI kd)), some (.int (nI w)), some (.int (nI (G.1 2))), some (.int (nI (planS G.1 kd n).2.1)), some (.int (nI (planS G.1 kd n).2.2)), some (.int (nI n))] [] none sh m 0 0) (fun n hn ih m hbm hfr => ?_) 0 (Nat.zero_le _) mem27 hb0 (fun o h1 h2 => F0 o (by omega))
        obtain ⟨hIn, hn0, hn2, hn3, hn4⟩ := planS_ok hI kd n hn
        have hC1 := hC.scr (m := m) hfr
        refine x_iload d_Cc_coverAll_50 rfl ?_
        refine x_iload_n d_Cc_coverAll_52 rfl ?_
        refine x_icmp_ge (tgt := 122) d_Cc_coverAll_53 (by decide) (fun c53 => ?_) (fun c53 => ?_)
        · have hj2 : n = G.1 2 := by have := nI_le' (by omega) (by omega) c53; omega
          rw [hj2]
          refine x_iload_n d_Cc_coverAll_122 rfl ?_
          refine x_if_ne (tgt := 131) d_Cc_coverAll_123 (by decide) (fun c123 => ?_) (fun c123 => ?_)
          · rw [if_neg (fun z => c123 (by rw [z]; rfl))]
            refine x_iload d_Cc_coverAll_131 rfl ?_
            refine x_iret rfl rfl d_Cc_coverAll_133 (Nat.zero_le _) (Nat.zero_le _) ?_
            exact ⟨_, rfl, rfl, rfl, rfl, hC1⟩
          · have hw2 := nI_eq' (b := 0) (by omega) (by omega) c123
            rw [if_pos hw2]
            refine x_iload d_Cc_coverAll_126 rfl ?_
            refine x_goto (tgt := 133) d_Cc_coverAll_128 (by decide) ?_
            refine x_iret rfl rfl d_Cc_coverAll_133 (Nat.zero_le _) (Nat.zero_le _) ?_
            exact ⟨_, rfl, rfl, rfl, rfl, hC1⟩
        · have hj2 := nI_nle' (by omega) (by omega) c53
          refine x_aload_n d_Cc_coverAll_56 rfl ?_
          refine x_aload_n d_Cc_coverAll_57 rfl ?_
          refine x_getR hL.f0 rfl fs_Cc_22 d_Cc_coverAll_58 ?_
          refine x_iload d_Cc_coverAll_61 rfl ?_
          refine x_iload_n d_Cc_coverAll_63 rfl ?_
          refine x_v3v d_Cc_coverAll_64 ml_Cc_255 v_Cc_choose rfl ⟨rfl, rfl⟩ hL.io (Nat.le_of_ble_eq_true rfl) (ct_Cc_choose hL hL.s145 (by omega) hIn hbm (by omega) hkd.2) (fun mem64 h64 => ?_)
          obtain ⟨hch, hcf⟩ := h64
          have hb1 : BookRep mem64 (κ + 145) _ := hbm.mv hIn (fun o h1 h2 => hcf o (by omega) (by omega))
          have hf1 : ∀ o, (o < κ + 97 ∨ κ + 193 ≤ o) → o ≠ κ + 409 → mem64 o = mem o := fun o h1 h2 => (hcf o (by omega) h2).trans (hfr o h1 h2)
          cases hq : chooseS (planS G.1 kd n).1 n kd with
          | none =>
            rw [hq] at hch
            have hch : mem64 (κ + 409) 0 = nI 0 := hch
            have hst : planS G.1 kd (n + 1) = planS G.1 kd n := by rw [planS, hq]
            refine x_aload_n d_Cc_coverAll_67 rfl ?_
            refine x_getR hL.f0 rfl fs_Cc_42 d_Cc_coverAll_68 ?_
            refine x_getI hL.s409.f0 rfl fs_Cc_259 d_Cc_coverAll_71 ?_
            rw [hch]
            refine x_if_eq (tgt := 116) d_Cc_coverAll_74 (by decide) (fun c74 => ?_) (fun c74 => ?_)
            · refine x_iinc d_Cc_coverAll_116 rfl (by first | exact inc1 _ | rfl) (by decide) ?_
              refine x_goto (tgt := 50) d_Cc_coverAll_119 (by decide) ?_
              have h9 := ih hj2 mem64 (by rw [hst]; exact hb1) hf1
              rw [hst] at h9
              exact h9
            · exact absurd rfl c74
          | some q =>
            rw [hq] at hch
            obtain ⟨q1, q2, q3, q4, q5, q6⟩ := chN_ok _ (Nat.le_refl _) q hq
            obtain ⟨c0, c1, c2, c3, c4, -⟩ := hch
            have hst : planS G.1 kd (n + 1) = ((coverS (planS G.1 kd n).1 n q.1 q.2.1).2, (planS G.1 kd n).2.1 + 1, (planS G.1 kd n).2.2 + q.2.2.1) := by rw [planS, hq]
            refine x_aload_n d_Cc_coverAll_67 rfl ?_
            refine x_getR hL.f0 rfl fs_Cc_42 d_Cc_coverAll_68 ?_
            refine x_getI hL.s409.f0 rfl fs_Cc_259 d_Cc_coverAll_71 ?_
            rw [c0]
            refine x_if_eq (tgt := 116) d_Cc_coverAll_74 (by decide) (fun c74 => ?_) (fun c74 => ?_)
            · exact absurd c74 (by decide)
            · refine x_aload_n d_Cc_coverAll_77 rfl ?_
              refine x_getR hL.f0 rfl fs_Cc_22 d_Cc_coverAll_78 ?_
              refine x_iload d_Cc_coverAll_81 rfl ?_
              refine x_aload_n d_Cc_coverAll_83 rfl ?_
              refine x_getR hL.f0 rfl fs_Cc_42 d_Cc_coverAll_84 ?_
              refine x_getI hL.s409.f0 rfl fs_Cc_262 d_Cc_coverAll_87 ?_
              rw [c1]
              refine x_aload_n d_Cc_coverAll_90 rfl ?_
              refine x_getR hL.f0 rfl fs_Cc_42 d_Cc_coverAll_91 ?_
              refine x_getI hL.s409.f0 rfl fs_Cc_264 d_Cc_coverAll_94 ?_
              rw [c2]
              refine x_v3i d_Cc_coverAll_97 ml_Cc_96 v_Bk_lay rfl ⟨rfl, rfl⟩ hL.s145.io (Nat.le_of_ble_eq_true rfl) (ct_Bk_lay hL.s145 hIn hb1 (by omega) q1 q2) (fun r97 mem97 h97 => ?_)
              obtain ⟨F1, hl⟩ := h97
              have hb2 : BookRep mem97 (κ + 145) (coverS (planS G.1 kd n).1 n q.1 q.2.1).2 := by
                rcases hl with ⟨e0, ex, hb1⟩ | ⟨e0, ex⟩
                · exact hb1
                · exact absurd q4 e0
              refine x_pop d_Cc_coverAll_100 rfl ?_
              refine x_iinc d_Cc_coverAll_101 rfl (by first | exact inc1 _ | rfl) (by decide) ?_
              refine x_iload d_Cc_coverAll_104 rfl ?_
              refine x_aload_n d_Cc_coverAll_106 rfl ?_
              refine x_getR hL.f0 rfl fs_Cc_42 d_Cc_coverAll_107 ?_
              refine x_getI hL.s409.f0 rfl fs_Cc_266 d_Cc_coverAll_110 ?_
              rw [F1 _ (by omega), c3]
              refine x_iadd d_Cc_coverAll_113 ?_
              rw [nI_add]
              refine x_istore d_Cc_coverAll_114 (by decide) ?_
              refine x_iinc d_Cc_coverAll_116 rfl (by first | exact inc1 _ | rfl) (by decide) ?_
              refine x_goto (tgt := 50) d_Cc_coverAll_119 (by decide) ?_
              have h9 := ih hj2 mem97 (by rw [hst]; exact hb2) (fun o h1 h2 => (F1 o (by omega)).trans (hf1 o h1 h2))
              rw [hst] at h9
              exact h9
      · rw [show vCovAll G.1 kd w = -2 from if_neg (fun z => c13 z.2.2)]
        refine x_bipush (v := -2) d_Cc_coverAll_16 (by decide) ?_
        refine x_iret rfl rfl d_Cc_coverAll_18 (Nat.zero_le _) (Nat.zero_le _) ?_
        exact ⟨_, rfl, rfl, rfl, rfl, hC, Fr.rf⟩
end
