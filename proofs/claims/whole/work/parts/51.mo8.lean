/-! the reference: keep, undo, type -/
section
variable {l : Launch} {g : XG} {sh : Nat → Sh} {mem : Mem} {μ : Nat} {G : GS}
theorem ct_Mo_keep (hM : LayMo sh μ) (hC : MR mem μ G) : Ct l g M_Mo_keep [rf g μ] none sh mem (Ri none sh (MP μ mem (spKeep G))) := by
  obtain ⟨hI, hn, hh, ht, hs⟩ := id hC
  refine x_begin rfl rfl rfl (by decide) rfl ?_
  refine x_iconst (v := nI 0) d_Mo_keep_0 (by decide) ?_
  refine x_istore_n d_Mo_keep_1 (by decide) ?_
  refine up_ind 1953 (P := fun j => ∀ (m : Mem), (∀ o, o ≠ μ + 2 → m o = mem o) → (∀ x, x < j → m (μ + 2) x = nI (G.1 x)) → X l g M_Mo_keep (XF g (Ri none sh (MP μ mem (spKeep G))) M_Mo_keep) 2 [some (rf g μ), some (.int (nI j))] [] none sh m 0 0) (fun j hj ih m hm hx => ?_) 0 (Nat.zero_le _) mem (fun _ _ => rfl) (fun x hx => absurd hx (by omega))
  refine x_iload_n d_Mo_keep_2 rfl ?_
  refine x_sipush (v := nI 1953) d_Mo_keep_3 (by decide) ?_
  refine x_icmp_ge (tgt := 27) d_Mo_keep_6 (by decide) (fun c6 => ?_) (fun c6 => ?_)
  · have hj2 : j = 1953 := by have := nI_le' (by omega) (by omega) c6; omega
    subst hj2
    refine x_aload_n d_Mo_keep_27 rfl ?_
    refine x_iconst (v := nI 1) d_Mo_keep_28 (by decide) ?_
    refine x_putI hM.f0 rfl ps_Mo_187 rfl rfl d_Mo_keep_29 ?_
    refine x_aload_n d_Mo_keep_32 rfl ?_
    refine x_getR hM.f0 rfl fs_Mo_7 d_Mo_keep_33 ?_
    refine x_iconst (v := nI 2) d_Mo_keep_36 (by decide) ?_
    refine x_iald hM.f1 (vp_in_nI (by omega) (by omega)) d_Mo_keep_37 ?_
    rw [nI_clamp (by omega), um_ne _ _ _ (by omega), hm _ (by omega), hn _ (by omega)]
    refine x_iret rfl rfl d_Mo_keep_38 (Nat.zero_le _) (Nat.zero_le _) ?_
    have hne : ∀ o, o ≠ μ → o ≠ μ + 2 → um m μ 10 (nI 1) o = mem o := fun o h1 h2 => by rw [um_ne _ _ _ h1]; exact hm o h2
    have hk : ∀ k, k ≠ 10 → um m μ 10 (nI 1) μ k = mem μ k := fun k hk => by rw [um_k _ _ hk, hm _ (by omega)]
    exact ⟨_, rfl, rfl, rfl, rfl, ⟨hI, hn.mv (hne _ (by omega) (by omega)), ⟨hh.1, (hk 8 (by omega)).trans hh.2.1, fun t R1 ht1 => ⟨(hh.2.2 t R1 ht1).1, fun x hx => by rw [hne _ (by omega) (by omega)]; exact (hh.2.2 t R1 ht1).2 x hx⟩⟩, ⟨ht.1, (hk 9 (by omega)).trans ht.2.1, fun i c hi => by rw [hne _ (by omega) (by omega)]; exact ht.2.2 i c hi⟩, um_eq _ _ _ _, hI, fun x hx2 => by rw [um_ne _ _ _ (by omega)]; exact hx x hx2⟩, fun o ho => hne o (by omega) (by omega)⟩
  · have hj2 : j < 1953 := nI_nle' (by omega) (by omega) c6
    refine x_aload_n d_Mo_keep_9 rfl ?_
    refine x_getR hM.f0 rfl fs_Mo_13 d_Mo_keep_10 ?_
    refine x_iload_n d_Mo_keep_13 rfl ?_
    refine x_aload_n d_Mo_keep_14 rfl ?_
    refine x_getR hM.f0 rfl fs_Mo_7 d_Mo_keep_15 ?_
    refine x_iload_n d_Mo_keep_18 rfl ?_
    refine x_iald hM.f1 (vp_in_nI (by omega) (by omega)) d_Mo_keep_19 ?_
    rw [nI_clamp (by omega), hm _ (by omega), hn _ (by omega)]
    refine x_iast hM.f2 (vp_in_nI (by omega) (by omega)) d_Mo_keep_20 ?_
    rw [nI_clamp (by omega)]
    refine x_iinc d_Mo_keep_21 rfl (by first | exact inc1 _ | rfl) (by decide) ?_
    refine x_goto (tgt := 2) d_Mo_keep_24 (by decide) ?_
    exact ih hj2 _ (fun o ho => by rw [um_ne _ _ _ ho]; exact hm o ho) (fun x hx2 => by by_cases h : x = j; (· rw [h, um_eq]); (· rw [um_k _ _ h]; exact hx x (by omega)))
theorem ct_Mo_undo (hM : LayMo sh μ) (hC : MR mem μ G) : Ct l g M_Mo_undo [rf g μ] none sh mem (Ri none sh (MP μ mem (spUndo G))) := by
  obtain ⟨hI, hn, hh, ht, hs⟩ := id hC
  obtain ⟨e1, e2, e3⟩ := id hh
  refine x_begin rfl rfl rfl (by decide) rfl ?_
  cases hl : G.2.1.getLast? with
  | none =>
    have hn0 : G.2.1 = [] := List.getLast?_eq_none_iff.mp hl
    rw [show spUndo G = (-5, G) by unfold spUndo; rw [hl]]
    rw [hn0] at e2
    refine x_aload_n d_Mo_undo_0 rfl ?_
    refine x_getI hM.f0 rfl fs_Mo_31 d_Mo_undo_1 ?_
    rw [e2]
    refine x_if_ne (tgt := 10) d_Mo_undo_4 (by decide) (fun c4 => ?_) (fun c4 => ?_)
    · exact absurd rfl c4
    · refine x_bipush (v := -5) d_Mo_undo_7 (by decide) ?_
      refine x_iret rfl rfl d_Mo_undo_9 (Nat.zero_le _) (Nat.zero_le _) ?_
      exact ⟨_, rfl, rfl, rfl, rfl, hC, Fr.rf⟩
  | some R' =>
    have hlen : 0 < G.2.1.length := List.length_pos_iff.mpr (fun z => by rw [z] at hl; cases hl)
    rw [show spUndo G = (nI (G.2.1.length - 1), (R', G.2.1.dropLast, G.2.2.1, G.2.2.2)) by unfold spUndo; rw [hl]]
    have hat : G.2.1[G.2.1.length - 1]? = some R' := by rw [← List.getLast?_eq_getElem?]; exact hl
    obtain ⟨hI', hrow⟩ := e3 _ R' hat
    refine x_aload_n d_Mo_undo_0 rfl ?_
    refine x_getI hM.f0 rfl fs_Mo_31 d_Mo_undo_1 ?_
    rw [e2]
    refine x_if_ne (tgt := 10) d_Mo_undo_4 (by decide) (fun c4 => ?_) (fun c4 => ?_)
    · refine x_aload_n d_Mo_undo_10 rfl ?_
      refine x_dup d_Mo_undo_11 rfl ?_
      refine x_getI hM.f0 rfl fs_Mo_31 d_Mo_undo_12 ?_
      rw [e2]
      refine x_iconst (v := nI 1) d_Mo_undo_15 (by decide) ?_
      refine x_isub d_Mo_undo_16 ?_
      rw [pk_sub (by omega)]
      refine x_putI hM.f0 rfl ps_Mo_31 rfl rfl d_Mo_undo_17 ?_
      refine x_iconst (v := nI 0) d_Mo_undo_20 (by decide) ?_
      refine x_istore_n d_Mo_undo_21 (by decide) ?_
      refine up_ind 1953 (P := fun j => ∀ (m : Mem), F1 μ (um mem μ 8 (nI (G.2.1.length - 1))) m → (∀ x, x < j → m (μ + 1) x = nI (R' x)) → X l g M_Mo_undo (XF g (Ri none sh (MP μ mem (nI (G.2.1.length - 1), (R', G.2.1.dropLast, G.2.2.1, G.2.2.2)))) M_Mo_undo) 22 [some (rf g μ), some (.int (nI j))] [] none sh m 0 0) (fun j hj ih m hm hx => ?_) 0 (Nat.zero_le _) _ F1.rf (fun x hx => absurd hx (by omega))
      refine x_iload_n d_Mo_undo_22 rfl ?_
      refine x_sipush (v := nI 1953) d_Mo_undo_23 (by decide) ?_
      refine x_icmp_ge (tgt := 56) d_Mo_undo_26 (by decide) (fun c26 => ?_) (fun c26 => ?_)
      · have hj2 : j = 1953 := by have := nI_le' (by omega) (by omega) c26; omega
        subst hj2
        refine x_aload_n d_Mo_undo_56 rfl ?_
        refine x_getI hM.f0 rfl fs_Mo_31 d_Mo_undo_57 ?_
        rw [hm _ (by omega), um_eq]
        refine x_iret rfl rfl d_Mo_undo_60 (Nat.zero_le _) (Nat.zero_le _) ?_
        have hne : ∀ o, o ≠ μ → o ≠ μ + 1 → m o = mem o := fun o h1 h2 => (hm o h2).trans (um_ne _ _ _ h1)
        have hk : ∀ k, k ≠ 8 → m μ k = mem μ k := fun k hk => by rw [hm _ (by omega), um_k _ _ hk]
        have hS : MSnap m μ G.2.2.1 := by
          cases hS : G.2.2.1 with
          | none => rw [hS] at hs; exact (hk 10 (by omega)).trans hs
          | some S =>
            rw [hS] at hs
            exact ⟨(hk 10 (by omega)).trans hs.1, hs.2.1, hs.2.2.mv (hne _ (by omega) (by omega))⟩
        refine ⟨_, rfl, rfl, rfl, rfl, ⟨hI', fun x hx2 => hx x hx2, ⟨by rw [List.length_dropLast]; omega, by rw [hm _ (by omega), um_eq, List.length_dropLast], fun t R1 ht1 => ?_⟩, ⟨ht.1, (hk 9 (by omega)).trans ht.2.1, fun i c hi => by rw [hne _ (by omega) (by omega)]; exact ht.2.2 i c hi⟩, hS⟩, fun o ho => hne o (by omega) (by omega)⟩
        have htl := (List.getElem?_eq_some_iff.mp ht1).1
        rw [List.length_dropLast] at htl
        rw [List.dropLast_eq_take, List.getElem?_take_of_lt htl] at ht1
        obtain ⟨g1, g2⟩ := e3 t R1 ht1
        exact ⟨g1, fun x hx3 => by rw [hne _ (by omega) (by omega)]; exact g2 x hx3⟩
      · have hj2 : j < 1953 := nI_nle' (by omega) (by omega) c26
        refine x_aload_n d_Mo_undo_29 rfl ?_
        refine x_getR hM.f0 rfl fs_Mo_7 d_Mo_undo_30 ?_
        refine x_iload_n d_Mo_undo_33 rfl ?_
        refine x_aload_n d_Mo_undo_34 rfl ?_
        refine x_getR hM.f0 rfl fs_Mo_22 d_Mo_undo_35 ?_
        refine x_sipush (v := nI 1953) d_Mo_undo_38 (by decide) ?_
        refine x_aload_n d_Mo_undo_41 rfl ?_
        refine x_getI hM.f0 rfl fs_Mo_31 d_Mo_undo_42 ?_
        rw [hm _ (by omega), um_eq]
        refine x_imul d_Mo_undo_45 ?_
        rw [pk_mul]
        refine x_iload_n d_Mo_undo_46 rfl ?_
        refine x_iadd d_Mo_undo_47 ?_
        rw [nI_add]
        refine x_iald hM.f5 (vp_in_nI (by omega) (by omega)) d_Mo_undo_48 ?_
        rw [nI_clamp (by omega), hm _ (by omega), um_ne _ _ _ (by omega), hrow _ hj2]
        refine x_iast hM.f1 (vp_in_nI (by omega) (by omega)) d_Mo_undo_49 ?_
        rw [nI_clamp (by omega)]
        refine x_iinc d_Mo_undo_50 rfl (by first | exact inc1 _ | rfl) (by decide) ?_
        refine x_goto (tgt := 22) d_Mo_undo_53 (by decide) ?_
        exact ih hj2 _ (hm.tr F1.um) (fun x hx2 => by by_cases h : x = j; (· rw [h, um_eq]); (· rw [um_k _ _ h]; exact hx x (by omega)))
    · exact absurd c4 (nI_ne0 hlen (by omega))
end
