/-! covering; texts; history -/
theorem CR.read {mem m : Mem} {κ : Nat} {G : GS} (h : CR mem κ G) (hT : TF (κ + 387) mem m) : CR m κ G ∧ Fr κ (κ + 410) mem m := ⟨⟨h.1, h.2.1.mv h.1 (fun o h1 h2 => hT.1 o (by omega) (by omega)), h.2.2.1.mv (fun o h1 h2 => hT.1 o (by omega) (by omega)), hT.te h.2.2.2.1, h.2.2.2.2.mv (hT.1 κ (by omega) (by omega)) (fun o h1 h2 => hT.1 o (by omega) (by omega))⟩, fun o ho => hT.1 o (by omega) (by omega)⟩
/-- what is tried in another book -/
theorem CR.scr {mem m : Mem} {κ : Nat} {G : GS} (h : CR mem κ G) (hm : ∀ o, (o < κ + 97 ∨ κ + 193 ≤ o) → o ≠ κ + 409 → m o = mem o) : CR m κ G ∧ Fr κ (κ + 410) mem m := ⟨h.mv (fun o h1 h2 => hm o (by omega) (by omega)), fun o ho => hm o (by omega) (by omega)⟩
section
variable {l : Launch} {g : XG} {sh : Nat → Sh} {mem : Mem} {κ : Nat} {G : GS}
theorem ct_Cc_cover (hL : LayCc sh κ) (hC : CR mem κ G) {i r y : Int32} : Ct l g M_Cc_cover [rf g κ, .int i, .int r, .int y] none sh mem (Ri none sh (CP κ mem (spCover G i r y))) := by
  obtain ⟨hI, hb, hh, ht, hs⟩ := id hC
  have h20 := hI.1.2.2
  have h12 := hI.1.1
  refine x_begin rfl rfl rfl (by decide) rfl ?_
  refine x_aload_n d_Cc_cover_0 rfl ?_
  refine x_getR hL.f0 rfl fs_Cc_10 d_Cc_cover_1 ?_
  refine x_getR hL.s1.f0 rfl fs_Cc_79 d_Cc_cover_4 ?_
  refine x_iload_n d_Cc_cover_7 rfl ?_
  refine x_v1p d_Cc_cover_8 ml_Cc_86 v_Rm_has rfl ⟨rfl, rfl⟩ hL.s1.s29.io (Nat.le_of_ble_eq_true rfl) (ct_Rm_has hL.s1.s29 hb.2.2.2.2.1 h20) ?_
  refine x_if_eq (tgt := 28) d_Cc_cover_11 (by decide) (fun c11 => ?_) (fun c11 => ?_)
  · rw [show spCover G i r y = (-1, G) from if_neg (fun z => bI_0.mp c11 z.1)]
    refine x_iconst (v := -1) d_Cc_cover_28 (by decide) ?_
    refine x_iret rfl rfl d_Cc_cover_29 (Nat.zero_le _) (Nat.zero_le _) ?_
    exact ⟨_, rfl, rfl, rfl, rfl, hC, Fr.rf⟩
  · refine x_aload_n d_Cc_cover_14 rfl ?_
    refine x_getR hL.f0 rfl fs_Cc_10 d_Cc_cover_15 ?_
    refine x_getR hL.s1.f0 rfl fs_Cc_50 d_Cc_cover_18 ?_
    refine x_iload_n d_Cc_cover_21 rfl ?_
    refine x_v1p d_Cc_cover_22 ml_Cc_89 v_Ro_has rfl ⟨rfl, rfl⟩ hL.s1.s3.io (Nat.le_of_ble_eq_true rfl) (ct_Ro_has hL.s1.s3 hb.2.2.1.1 h12) ?_
    refine x_if_ne (tgt := 30) d_Cc_cover_25 (by decide) (fun c25 => ?_) (fun c25 => ?_)
    · have hi0 := bI_n.mp c11
      have hr0 := bI_n.mp c25
      rw [show spCover G i r y = if inI y 0 1 then (if (coverS G.1 (tN i) (tN r) (tN y)).1 = 0 then (nI (priceS G.1 (tN i) (tN r) (tN y)), actG G (coverS G.1 (tN i) (tN r) (tN y)).2) else (errI (coverS G.1 (tN i) (tN r) (tN y)).1, G)) else (-2, G) from if_pos ⟨hi0, hr0⟩]
      obtain ⟨i, hi, rfl⟩ := hasI_of (by omega) hi0
      obtain ⟨r, hr, rfl⟩ := hasI_of (by omega) hr0
      rw [tN_nI (by omega), tN_nI (by omega)]
      refine x_iload_n d_Cc_cover_30 rfl ?_
      refine x_s1p d_Cc_cover_31 ml_Cc_90 v_Cc_isWay rfl ⟨rfl, rfl⟩ rfl (Nat.le_of_ble_eq_true rfl) (ct_Cc_isWay) ?_
      refine x_if_ne (tgt := 40) d_Cc_cover_34 (by decide) (fun c34 => ?_) (fun c34 => ?_)
      · have hy0 := bI_n.mp c34
        rw [if_pos hy0]
        obtain ⟨y, hy, rfl⟩ := inI_of (by omega) (by omega) hy0
        rw [tN_nI (by omega)]
        have hpr := priceS_lt hI hi hr hy.2
        refine x_aload_n d_Cc_cover_40 rfl ?_
        refine x_getR hL.f0 rfl fs_Cc_19 d_Cc_cover_41 ?_
        refine x_aload_n d_Cc_cover_44 rfl ?_
        refine x_getR hL.f0 rfl fs_Cc_10 d_Cc_cover_45 ?_
        refine x_v1v d_Cc_cover_48 ml_Cc_93 v_Bk_copyFrom rfl ⟨rfl, rfl⟩ hL.s97.io (Nat.le_of_ble_eq_true rfl) (ct_Bk_copyFrom hL.s97 hL.s1 (by omega)) (fun mem48 h48 => ?_)
        obtain ⟨F0, hcp⟩ := h48
        have hbt := hcp _ hI hb
        have hC0 := hC.scr (m := mem48) (fun o h1 h2 => F0 o (by omega))
        refine x_aload_n d_Cc_cover_51 rfl ?_
        refine x_getR hL.f0 rfl fs_Cc_19 d_Cc_cover_52 ?_
        refine x_iload_n d_Cc_cover_55 rfl ?_
        refine x_iload_n d_Cc_cover_56 rfl ?_
        refine x_iload_n d_Cc_cover_57 rfl ?_
        refine x_v3i d_Cc_cover_58 ml_Cc_96 v_Bk_lay rfl ⟨rfl, rfl⟩ hL.s97.io (Nat.le_of_ble_eq_true rfl) (ct_Bk_lay hL.s97 hI hbt hi hr hy.2) (fun r58 mem58 h58 => ?_)
        obtain ⟨F1, hl⟩ := h58
        have hC1 := hC.scr (m := mem58) (fun o h1 h2 => (F1 o (by omega)).trans (F0 o (by omega)))
        rcases hl with ⟨e0, ex, hb1⟩ | ⟨e0, ex⟩
        · rw [if_pos e0]
          subst ex
          have hI2 := coverS_inv hI hi hr hy.2 e0
          refine x_istore d_Cc_cover_61 (by decide) ?_
          refine x_iload d_Cc_cover_63 rfl ?_
          refine x_if_ge (tgt := 71) d_Cc_cover_65 (by decide) (fun c65 => ?_) (fun c65 => ?_)
          · refine x_aload_n d_Cc_cover_71 rfl ?_
            refine x_getR hL.f0 rfl fs_Cc_28 d_Cc_cover_72 ?_
            refine x_aload_n d_Cc_cover_75 rfl ?_
            refine x_getR hL.f0 rfl fs_Cc_10 d_Cc_cover_76 ?_
            refine x_v1v d_Cc_cover_79 ml_Cc_60 v_Hi_record rfl ⟨rfl, rfl⟩ hL.s193.io (Nat.le_of_ble_eq_true rfl) (ct_Hi_record hL.s193 hL.s1 (by omega) hC1.1.2.2.1 hI hC1.1.2.1) (fun mem79 h79 => ?_)
            obtain ⟨F2, hh2⟩ := h79
            have hb2 : BookRep mem79 (κ + 97) _ := hb1.mv hI2 (fun o h1 h2 => F2 o (by omega))
            refine x_aload_n d_Cc_cover_82 rfl ?_
            refine x_getR hL.f0 rfl fs_Cc_10 d_Cc_cover_83 ?_
            refine x_aload_n d_Cc_cover_86 rfl ?_
            refine x_getR hL.f0 rfl fs_Cc_19 d_Cc_cover_87 ?_
            refine x_v1v d_Cc_cover_90 ml_Cc_93 v_Bk_copyFrom rfl ⟨rfl, rfl⟩ hL.s1.io (Nat.le_of_ble_eq_true rfl) (ct_Bk_copyFrom hL.s1 hL.s97 (by omega)) (fun mem90 h90 => ?_)
            obtain ⟨F3, hcp3⟩ := h90
            have hb3 := hcp3 _ hI2 hb2
            have hA := hC1.1.acted F2 hh2 F3 hI2 hb3
            refine x_iload d_Cc_cover_93 rfl ?_
            refine x_iret rfl rfl d_Cc_cover_95 (Nat.zero_le _) (Nat.zero_le _) ?_
            exact ⟨_, rfl, rfl, rfl, rfl, hA.1, hC1.2.tr hA.2⟩
          · exact absurd (nI_pos' (by omega)) c65
        · rw [if_neg e0]
          subst ex
          refine x_istore d_Cc_cover_61 (by decide) ?_
          refine x_iload d_Cc_cover_63 rfl ?_
          refine x_if_ge (tgt := 71) d_Cc_cover_65 (by decide) (fun c65 => ?_) (fun c65 => ?_)
          · exact absurd c65 (i_nle.mpr (errI_neg _))
          · refine x_iload d_Cc_cover_68 rfl ?_
            refine x_iret rfl rfl d_Cc_cover_70 (Nat.zero_le _) (Nat.zero_le _) ?_
            exact ⟨_, rfl, rfl, rfl, rfl, hC1⟩
      · rw [if_neg (bI_0.mp c34)]
        refine x_bipush (v := -2) d_Cc_cover_37 (by decide) ?_
        refine x_iret rfl rfl d_Cc_cover_39 (Nat.zero_le _) (Nat.zero_le _) ?_
        exact ⟨_, rfl, rfl, rfl, rfl, hC, Fr.rf⟩
    · rw [show spCover G i r y = (-1, G) from if_neg (fun z => bI_0.mp c25 z.2)]
      refine x_iconst (v := -1) d_Cc_cover_28 (by decide) ?_
      refine x_iret rfl rfl d_Cc_cover_29 (Nat.zero_le _) (Nat.zero_le _) ?_
      exact ⟨_, rfl, rfl, rfl, rfl, hC, Fr.rf⟩
theorem ct_Cc_type (hL : LayCc sh κ) (hC : CR mem κ G) {c : Nat} (hc : c < 65536) : Ct l g M_Cc_type [rf g κ, .int (nI c)] none sh mem (Ri none sh (CP κ mem (spType G c))) := by
  obtain ⟨hI, hb, hh, ht, hs⟩ := id hC
  refine x_begin rfl rfl rfl (by decide) rfl ?_
  refine x_aload_n d_Cc_type_0 rfl ?_
  refine x_getR hL.f0 rfl fs_Cc_35 d_Cc_type_1 ?_
  refine x_iload_n d_Cc_type_4 rfl ?_
  refine x_v1i d_Cc_type_5 ml_Cc_143 v_Te_append rfl ⟨rfl, rfl⟩ hL.s387.io (Nat.le_of_ble_eq_true rfl) (ct_Te_append hL.s387 ht hc) (fun r5 mem5 h5 => ?_)
  rcases h5 with ⟨q1, rfl, rfl⟩ | ⟨q1, rfl, q2, q3⟩
  · rw [show spType G c = (-3, G) from if_pos q1]
    refine x_if_eq (tgt := 21) d_Cc_type_8 (by decide) (fun c8 => ?_) (fun c8 => ?_)
    · refine x_bipush (v := -3) d_Cc_type_21 (by decide) ?_
      refine x_iret rfl rfl d_Cc_type_23 (Nat.zero_le _) (Nat.zero_le _) ?_
      exact ⟨_, rfl, rfl, rfl, rfl, hC, Fr.rf⟩
    · exact absurd rfl c8
  · rw [show spType G c = (nI (G.2.2.2.length + 1), (G.1, G.2.1, G.2.2.1, G.2.2.2 ++ [c])) from if_neg (by omega)]
    refine x_if_eq (tgt := 21) d_Cc_type_8 (by decide) (fun c8 => ?_) (fun c8 => ?_)
    · exact absurd c8 (by decide)
    · refine x_aload_n d_Cc_type_11 rfl ?_
      refine x_getR hL.f0 rfl fs_Cc_35 d_Cc_type_12 ?_
      refine x_getI hL.s387.f0 rfl fs_Cc_146 d_Cc_type_15 ?_
      rw [q2.2.1]
      refine x_goto (tgt := 23) d_Cc_type_18 (by decide) ?_
      refine x_iret rfl rfl d_Cc_type_23 (Nat.zero_le _) (Nat.zero_le _) ?_
      refine ⟨_, rfl, rfl, rfl, by rw [List.length_append, List.length_singleton], ⟨hI, hb.mv hI (fun o h1 h2 => q3 o (by omega)), hh.mv (fun o h1 h2 => q3 o (by omega)), q2, hs.mv (q3 κ (by omega)) (fun o h1 h2 => q3 o (by omega))⟩, fun o ho => q3 o (by omega)⟩
theorem ct_Cc_clearText (hL : LayCc sh κ) (hC : CR mem κ G) : Ct l g M_Cc_clearText [rf g κ] none sh mem (Ri none sh (CP κ mem (spClearText G))) := by
  obtain ⟨hI, hb, hh, ht, hs⟩ := id hC
  refine x_begin rfl rfl rfl (by decide) rfl ?_
  have hne : ∀ o, o ≠ κ + 387 → um mem (κ + 387) 1 (nI 0) o = mem o := fun o ho => um_ne _ _ _ ho
  refine x_aload_n d_Cc_clearText_0 rfl ?_
  refine x_getR hL.f0 rfl fs_Cc_35 d_Cc_clearText_1 ?_
  refine x_getI hL.s387.f0 rfl fs_Cc_146 d_Cc_clearText_4 ?_
  rw [ht.2.1]
  refine x_istore_n d_Cc_clearText_7 (by decide) ?_
  refine x_aload_n d_Cc_clearText_8 rfl ?_
  refine x_getR hL.f0 rfl fs_Cc_35 d_Cc_clearText_9 ?_
  refine x_iconst (v := nI 0) d_Cc_clearText_12 (by decide) ?_
  refine x_putI hL.s387.f0 rfl ps_Cc_146 rfl rfl d_Cc_clearText_13 ?_
  refine x_iload_n d_Cc_clearText_16 rfl ?_
  refine x_iret rfl rfl d_Cc_clearText_17 (Nat.zero_le _) (Nat.zero_le _) ?_
  exact ⟨_, rfl, rfl, rfl, rfl, ⟨hI, hb.mv hI (fun o h1 h2 => hne o (by omega)), hh.mv (fun o h1 h2 => hne o (by omega)), ⟨Nat.zero_le _, um_eq _ _ _ _, fun i c hi => by have hi : ([] : List Nat)[i]? = some c := hi; rw [List.getElem?_nil] at hi; cases hi⟩, hs.mv (hne κ (by omega)) (fun o h1 h2 => hne o (by omega))⟩, fun o ho => hne o (by omega)⟩
theorem ct_Cc_undo (hL : LayCc sh κ) (hC : CR mem κ G) : Ct l g M_Cc_undo [rf g κ] none sh mem (Ri none sh (CP κ mem (spUndo G))) := by
  obtain ⟨hI, hb, hh, ht, hs⟩ := id hC
  obtain ⟨k1, ok, k2, k3, k4, k5⟩ := id hh
  refine x_begin rfl rfl rfl (by decide) rfl ?_
  cases hl : G.2.1.getLast? with
  | none =>
    have hn : G.2.1 = [] := List.getLast?_eq_none_iff.mp hl
    rw [show spUndo G = (-5, G) by unfold spUndo; rw [hl]]
    rw [hn] at k4
    refine x_aload_n d_Cc_undo_0 rfl ?_
    refine x_getR hL.f0 rfl fs_Cc_28 d_Cc_undo_1 ?_
    refine x_getI hL.s193.f0 rfl fs_Cc_149 d_Cc_undo_4 ?_
    rw [k4]
    refine x_if_ne (tgt := 13) d_Cc_undo_7 (by decide) (fun c7 => ?_) (fun c7 => ?_)
    · exact absurd rfl c7
    · refine x_bipush (v := -5) d_Cc_undo_10 (by decide) ?_
      refine x_iret rfl rfl d_Cc_undo_12 (Nat.zero_le _) (Nat.zero_le _) ?_
      exact ⟨_, rfl, rfl, rfl, rfl, hC, Fr.rf⟩
  | some R' =>
    have hn : 0 < G.2.1.length := List.length_pos_iff.mpr (fun z => by rw [z] at hl; cases hl)
    rw [show spUndo G = (nI (G.2.1.length - 1), (R', G.2.1.dropLast, G.2.2.1, G.2.2.2)) by unfold spUndo; rw [hl]]
    refine x_aload_n d_Cc_undo_0 rfl ?_
    refine x_getR hL.f0 rfl fs_Cc_28 d_Cc_undo_1 ?_
    refine x_getI hL.s193.f0 rfl fs_Cc_149 d_Cc_undo_4 ?_
    rw [k4]
    refine x_if_ne (tgt := 13) d_Cc_undo_7 (by decide) (fun c7 => ?_) (fun c7 => ?_)
    · refine x_aload_n d_Cc_undo_13 rfl ?_
      refine x_getR hL.f0 rfl fs_Cc_28 d_Cc_undo_14 ?_
      refine x_aload_n d_Cc_undo_17 rfl ?_
      refine x_getR hL.f0 rfl fs_Cc_10 d_Cc_undo_18 ?_
      refine x_v1v d_Cc_undo_21 ml_Cc_150 v_Hi_moveLatestTo rfl ⟨rfl, rfl⟩ hL.s193.io (Nat.le_of_ble_eq_true rfl) (ct_Hi_moveLatestTo hL.s193 hL.s1 (by omega) hh hl) (fun mem21 h21 => ?_)
      obtain ⟨q1, q2, q3, q4⟩ := h21
      refine x_aload_n d_Cc_undo_24 rfl ?_
      refine x_getR hL.f0 rfl fs_Cc_28 d_Cc_undo_25 ?_
      refine x_getI hL.s193.f0 rfl fs_Cc_149 d_Cc_undo_28 ?_
      rw [show mem21 (κ + 193) 2 = nI G.2.1.dropLast.length from q2.2.elim (fun _ z => z.2.2.1), List.length_dropLast]
      refine x_iret rfl rfl d_Cc_undo_31 (Nat.zero_le _) (Nat.zero_le _) ?_
      exact ⟨_, rfl, rfl, rfl, rfl, ⟨q3, q4, q2, ht.mv (fun o h1 h2 => q1 o (by omega) (by omega)), hs.mv (q1 κ (by omega) (by omega)) (fun o h1 h2 => q1 o (by omega) (by omega))⟩, fun o ho => q1 o (by omega) (by omega)⟩
    · exact absurd c7 (nI_ne0 hn (by omega))
end
