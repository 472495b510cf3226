/-! the reference: rooms come from the text -/
theorem MR.actedG {mem m1 m2 : Mem} {μ : Nat} {G : GS} {R' : RS} (h : MR mem μ G) (f1 : ∀ o, o ≠ μ → o ≠ μ + 5 → m1 o = mem o) (f2 : ∀ k, k ≠ 8 → m1 μ k = mem μ k) (hh : MHist m1 μ (pushH G.2.1 G.1)) (F : FG μ m1 m2) (hI : Inv R') (hn : NowR m2 (μ + 1) R') : MR m2 μ (actG G R') ∧ Fr μ (μ + 8) mem m2 := by
  obtain ⟨h1, h2, -, ⟨t1, t2, t3⟩, h5⟩ := h
  have e : ∀ o, o ≠ μ → o ≠ μ + 1 → o ≠ μ + 3 → o ≠ μ + 4 → o ≠ μ + 7 → o ≠ μ + 5 → m2 o = mem o := fun o a b c d e f => (F.1 o a b c d e).trans (f1 o a f)
  obtain ⟨a1, a2, a3⟩ := hh
  refine ⟨⟨hI, hn, ⟨a1, by rw [F.2 _ (by omega) (by omega)]; exact a2, fun t R ht => ⟨(a3 t R ht).1, fun i hi => by rw [F.1 _ (by omega) (by omega) (by omega) (by omega) (by omega)]; exact (a3 t R ht).2 i hi⟩⟩, ⟨t1, by rw [F.2 _ (by omega) (by omega), f2 _ (by omega)]; exact t2, fun i c hi => by rw [e _ (by omega) (by omega) (by omega) (by omega) (by omega) (by omega)]; exact t3 i c hi⟩, ?_⟩, fun o ho => e o (by omega) (by omega) (by omega) (by omega) (by omega) (by omega)⟩
  show MSnap m2 μ G.2.2.1
  cases hS : G.2.2.1 with
  | none => rw [hS] at h5; exact ((F.2 10 (by omega) (by omega)).trans (f2 10 (by omega))).trans h5
  | some S =>
    rw [hS] at h5
    exact ⟨((F.2 10 (by omega) (by omega)).trans (f2 10 (by omega))).trans h5.1, h5.2.1, h5.2.2.mv (e _ (by omega) (by omega) (by omega) (by omega) (by omega) (by omega))⟩
section
variable {l : Launch} {g : XG} {sh : Nat → Sh} {mem : Mem} {μ : Nat} {G : GS}
theorem ct_Mo_rooms (hM : LayMo sh μ) (hC : MR mem μ G) : Ct l g M_Mo_rooms [rf g μ] none sh mem (Ri none sh (MP μ mem (spRooms G))) := by
  obtain ⟨hI, hn, hh, ht, hs⟩ := id hC
  have h20 := hI.1.2.2
  have t1 := ht.1
  refine x_begin rfl rfl rfl (by decide) rfl ?_
  refine x_aload_n d_Mo_rooms_0 rfl ?_
  refine x_v0i d_Mo_rooms_1 ml_Mo_129 v_Mo_readAll rfl ⟨rfl, rfl⟩ hM.io (Nat.le_of_ble_eq_true rfl) (ct_Mo_readAll hM ht) (fun r1 mem1 h1 => ?_)
  obtain ⟨hT, hR⟩ := h1
  have n1 : NowR mem1 (μ + 1) G.1 := hn.mv (hT.1 _ (by omega) (by omega))
  have hC1 := hC.fg hT.fg n1
  have ht1 := hT.txt ht
  rcases hR with ⟨i, hp, hi, rfl⟩ | ⟨L, hp, h60, rfl, hrs⟩
  · obtain ⟨n1, n2⟩ := neg100 i (by omega)
    rw [show spRooms G = (-100 - nI i, G) by unfold spRooms; rw [hp]]
    refine x_istore_n d_Mo_rooms_4 (by decide) ?_
    refine x_iload_n d_Mo_rooms_5 rfl ?_
    refine x_if_ge (tgt := 11) d_Mo_rooms_6 (by decide) (fun c6 => ?_) (fun c6 => ?_)
    · exact absurd c6 (i_nle.mpr n1)
    · refine x_iload_n d_Mo_rooms_9 rfl ?_
      refine x_iret rfl rfl d_Mo_rooms_10 (Nat.zero_le _) (Nat.zero_le _) ?_
      exact ⟨_, rfl, rfl, rfl, rfl, hC1⟩
  · rw [show spRooms G = if 20 < G.1 2 + L.length then (-3, G) else (nI L.length, actG G (addRooms G.1 L)) by unfold spRooms; rw [hp]]
    refine x_istore_n d_Mo_rooms_4 (by decide) ?_
    refine x_iload_n d_Mo_rooms_5 rfl ?_
    refine x_if_ge (tgt := 11) d_Mo_rooms_6 (by decide) (fun c6 => ?_) (fun c6 => ?_)
    · refine x_aload_n d_Mo_rooms_11 rfl ?_
      refine x_getR hM.f0 rfl fs_Mo_7 d_Mo_rooms_12 ?_
      refine x_iconst (v := nI 2) d_Mo_rooms_15 (by decide) ?_
      refine x_iald hM.f1 (vp_in_nI (by omega) (by omega)) d_Mo_rooms_16 ?_
      rw [nI_clamp (by omega), n1 _ (by omega)]
      refine x_iload_n d_Mo_rooms_17 rfl ?_
      refine x_iadd d_Mo_rooms_18 ?_
      rw [nI_add]
      refine x_bipush (v := nI 20) d_Mo_rooms_19 (by decide) ?_
      refine x_icmp_le (tgt := 27) d_Mo_rooms_21 (by decide) (fun c21 => ?_) (fun c21 => ?_)
      · have c21 := nI_le' (by omega) (by omega) c21
        rw [if_neg (show ¬ 20 < G.1 2 + L.length by omega)]
        refine x_aload_n d_Mo_rooms_27 rfl ?_
        refine x_v0v d_Mo_rooms_28 ml_Mo_126 v_Mo_record rfl ⟨rfl, rfl⟩ hM.io (Nat.le_of_ble_eq_true rfl) (ct_Mo_record hM n1 hI hC1.1.2.2.1) (fun mem28 h28 => ?_)
        obtain ⟨f28, g28, hh28⟩ := h28
        have n28 : NowR mem28 (μ + 1) G.1 := n1.mv (f28 _ (by omega) (by omega))
        refine x_aload_n d_Mo_rooms_31 rfl ?_
        refine x_iconst (v := nI 0) d_Mo_rooms_32 (by decide) ?_
        refine x_putI hM.f0 rfl ps_Mo_132 rfl rfl d_Mo_rooms_33 ?_
        refine x_iconst (v := nI 0) d_Mo_rooms_36 (by decide) ?_
        refine x_istore_n d_Mo_rooms_37 (by decide) ?_
        refine up_ind L.length (P := fun k => ∀ (m : Mem) (u3 : Option Value), (∀ o, o ≠ μ → o ≠ μ + 1 → o ≠ μ + 7 → m o = mem28 o) → (∀ s, s ≠ 7 → m μ s = mem28 μ s) → NowR m (μ + 1) (addRooms G.1 (L.take k)) → (k < L.length → ∃ q f, m μ 7 = nI q ∧ q ≤ G.2.2.2.length ∧ goP G.2.2.2 q (0, 0, f, [], L.take k) = .inr L) → X l g M_Mo_rooms (XF g (Ri none sh (MP μ mem (nI L.length, actG G (addRooms G.1 L)))) M_Mo_rooms) 38 [some (rf g μ), some (.int (nI L.length)), some (.int (nI k)), u3] [] none sh m 0 0) (fun k hk ih m u3 hm1 hm2 hnm hq => ?_) 0 (Nat.zero_le _) _ _ (fun o h1 h2 h3 => um_ne _ _ _ h1) (fun s hs => um_k _ _ hs) (n28.mv (um_ne _ _ _ (by omega))) (fun _ => ⟨0, 0, um_eq _ _ _ _, Nat.zero_le _, (goP_0 _).trans hp⟩)
        refine x_iload_n d_Mo_rooms_38 rfl ?_
        refine x_iload_n d_Mo_rooms_39 rfl ?_
        refine x_icmp_ge (tgt := 105) d_Mo_rooms_40 (by decide) (fun c40 => ?_) (fun c40 => ?_)
        · have hk2 : k = L.length := by have := nI_le' (by omega) (by omega) c40; omega
          rw [hk2, List.take_length] at hnm
          refine x_iload_n d_Mo_rooms_105 rfl ?_
          refine x_iret rfl rfl d_Mo_rooms_106 (Nat.zero_le _) (Nat.zero_le _) ?_
          have hI2 := (addRooms_inv L _ hI hrs c21).1
          have hA := hC1.1.actedG f28 g28 hh28 ⟨fun o a b _ _ e => hm1 o a b e, fun s a b => hm2 s (by omega)⟩ hI2 hnm
          exact ⟨_, rfl, rfl, rfl, rfl, hA.1, hC1.2.tr hA.2⟩
        · have hk2 := nI_nle' (by omega) (by omega) c40
          obtain ⟨q, f, hq1, hq2, hq3⟩ := hq hk2
          have htm : MTxt m μ G.2.2.2 := ⟨t1, (hm2 9 (by omega)).trans ((g28 9 (by omega)).trans ht1.2.1), fun i c hi => by rw [hm1 _ (by omega) (by omega) (by omega), f28 _ (by omega) (by omega)]; exact ht1.2.2 i c hi⟩
          obtain ⟨-, h2k⟩ := addRooms_inv (L.take k) G.1 hI (fun rs hr => hrs rs (List.mem_of_mem_take hr)) (by rw [List.length_take]; omega)
          rw [List.length_take, Nat.min_eq_left hk] at h2k
          refine x_aload_n d_Mo_rooms_43 rfl ?_
          refine x_v0i d_Mo_rooms_44 ml_Mo_135 v_Mo_readRoom rfl ⟨rfl, rfl⟩ hM.io (Nat.le_of_ble_eq_true rfl) (ct_Mo_readRoom hM (f0 := f) (done := L.take k) htm hq1 hq2) (fun r44 mem44 h44 => ?_)
          obtain ⟨x1, ⟨q1, y1, y2, y3, y4⟩ | ⟨q1, n', f', rs, y1, y2, y3, y4, y5, y6, y7⟩⟩ := h44
          · rw [hq3] at y4
            cases y4
          · subst y3
            rw [hq3] at y7
            obtain ⟨t, ht9⟩ := goP_done y7.symm
            have ht9 : L = L.take k ++ [rs] ++ t := ht9
            have htk : L.take (k + 1) = L.take k ++ [rs] := by
              have e := congrArg (List.take (k + 1)) ht9
              rw [e, List.take_append_of_le_length (by rw [List.length_append, List.length_singleton, List.length_take]; omega), List.take_of_length_le (by rw [List.length_append, List.length_singleton, List.length_take]; omega)]
            have hadd : addRooms G.1 (L.take (k + 1)) = addRoom (addRooms G.1 (L.take k)) rs := by
              rw [htk]
              exact List.foldl_append ..
            have hn44 : NowR mem44 (μ + 1) (addRooms G.1 (L.take k)) := hnm.mv (x1.1 _ (by omega) (by omega))
            have hnext : k + 1 < L.length → ∃ f2, goP G.2.2.2 (q1 + 1) (0, 0, f2, [], L.take (k + 1)) = .inr L ∧ q1 + 1 ≤ G.2.2.2.length := fun hk3 => by
              have h3 := goP_3 (n := n') (f := f') (done := L.take k ++ [rs]) y2
              by_cases s1 : G.2.2.2[q1]? = some 59
              · exact ⟨f', by rw [htk, ← h3.1 s1]; exact y7.symm, (List.getElem?_eq_some_iff.mp s1).1⟩
              · by_cases s2 : G.2.2.2[q1]? = none
                · rw [h3.2.1 s2] at y7
                  have y7 := Sum.inr.inj y7
                  have e := congrArg List.length y7
                  rw [List.length_append, List.length_singleton, List.length_take] at e
                  omega
                · rw [h3.2.2 s1 s2] at y7
                  cases y7
            generalize addRooms G.1 (L.take k) = R1 at hn44 h2k hadd
            refine x_pop d_Mo_rooms_47 rfl ?_
            refine x_iconst (v := nI 0) d_Mo_rooms_48 (by decide) ?_
            refine x_istore_n d_Mo_rooms_49 (by decide) ?_
            refine up_ind 8 (P := fun w => ∀ (m2 : Mem), (∀ o, o ≠ μ + 1 → m2 o = mem44 o) → (∀ x, x < 1953 → m2 (μ + 1) x = nI (if 993 + 12 * R1 2 ≤ x ∧ x < 993 + 12 * R1 2 + w then qOf rs (x - (993 + 12 * R1 2)) else R1 x)) → X l g M_Mo_rooms (XF g (Ri none sh (MP μ mem (nI L.length, actG G (addRooms G.1 L)))) M_Mo_rooms) 50 [some (rf g μ), some (.int (nI L.length)), some (.int (nI k)), some (.int (nI w))] [] none sh m2 0 0) (fun w hw ih2 m2 hm3 hx => ?_) 0 (Nat.zero_le _) mem44 (fun _ _ => rfl) (fun x hx => by rw [if_neg (by omega)]; exact hn44 x hx)
            refine x_iload_n d_Mo_rooms_50 rfl ?_
            refine x_bipush (v := nI 8) d_Mo_rooms_51 (by decide) ?_
            refine x_icmp_ge (tgt := 79) d_Mo_rooms_53 (by decide) (fun c53 => ?_) (fun c53 => ?_)
            · have hw2 : w = 8 := by have := nI_le' (by omega) (by omega) c53; omega
              subst hw2
              refine x_aload_n d_Mo_rooms_79 rfl ?_
              refine x_getR hM.f0 rfl fs_Mo_7 d_Mo_rooms_80 ?_
              refine x_iconst (v := nI 2) d_Mo_rooms_83 (by decide) ?_
              refine x_dup2 d_Mo_rooms_84 rfl rfl ?_
              refine x_iald hM.f1 (vp_in_nI (by omega) (by omega)) d_Mo_rooms_85 ?_
              rw [nI_clamp (by omega), hx 2 (by omega), if_neg (by omega)]
              refine x_iconst (v := nI 1) d_Mo_rooms_86 (by decide) ?_
              refine x_iadd d_Mo_rooms_87 ?_
              rw [nI_add]
              refine x_iast hM.f1 (vp_in_nI (by omega) (by omega)) d_Mo_rooms_88 ?_
              rw [nI_clamp (by omega)]
              refine x_aload_n d_Mo_rooms_89 rfl ?_
              refine x_dup d_Mo_rooms_90 rfl ?_
              refine x_getI hM.f0 rfl fs_Mo_132 d_Mo_rooms_91 ?_
              rw [um_ne _ _ _ (by omega), hm3 _ (by omega), y4]
              refine x_iconst (v := nI 1) d_Mo_rooms_94 (by decide) ?_
              refine x_iadd d_Mo_rooms_95 ?_
              rw [nI_add]
              refine x_putI hM.f0 rfl ps_Mo_132 rfl rfl d_Mo_rooms_96 ?_
              refine x_iinc d_Mo_rooms_99 rfl (by first | exact inc1 _ | rfl) (by decide) ?_
              refine x_goto (tgt := 38) d_Mo_rooms_102 (by decide) ?_
              refine ih hk2 _ _ (fun o h1 h2 h3 => ?_) (fun s hs => ?_) ?_ (fun hk3 => ?_)
              · rw [um_ne _ _ _ h1, um_ne _ _ _ h2, hm3 _ h2, x1.1 _ h1 h3]
                exact hm1 o h1 h2 h3
              · rw [um_k _ _ hs, um_ne _ _ _ (by omega), hm3 _ (by omega), x1.2 _ hs]
                exact hm2 s hs
              · rw [hadd]
                intro x hx2
                rw [um_ne _ _ _ (by omega)]
                unfold addRoom
                by_cases h : x = 2
                · rw [h, um_eq, un_at]
                · rw [um_k _ _ h, un_ne _ _ h, hx x hx2]
              · obtain ⟨f2, z1, z2⟩ := hnext hk3
                exact ⟨q1 + 1, f2, um_eq _ _ _ _, z2, z1⟩
            · have hw2 := nI_nle' (by omega) (by omega) c53
              refine x_aload_n d_Mo_rooms_56 rfl ?_
              refine x_aload_n d_Mo_rooms_57 rfl ?_
              refine x_getR hM.f0 rfl fs_Mo_7 d_Mo_rooms_58 ?_
              refine x_iconst (v := nI 2) d_Mo_rooms_61 (by decide) ?_
              refine x_iald hM.f1 (vp_in_nI (by omega) (by omega)) d_Mo_rooms_62 ?_
              rw [nI_clamp (by omega), hx 2 (by omega), if_neg (by omega)]
              refine x_iload_n d_Mo_rooms_63 rfl ?_
              refine x_aload_n d_Mo_rooms_64 rfl ?_
              refine x_getR hM.f0 rfl fs_Mo_28 d_Mo_rooms_65 ?_
              refine x_iload_n d_Mo_rooms_68 rfl ?_
              refine x_iald hM.f7 (vp_in_nI (by omega) (by omega)) d_Mo_rooms_69 ?_
              rw [nI_clamp (by omega), hm3 _ (by omega), y6 w hw2]
              refine x_v3v d_Mo_rooms_70 ml_Mo_123 v_Mo_put rfl ⟨rfl, rfl⟩ hM.io (Nat.le_of_ble_eq_true rfl) (ct_Mo_put hM (by omega) (by omega)) (fun _ hE => ?_)
              subst hE
              refine x_iinc d_Mo_rooms_73 rfl (by first | exact inc1 _ | rfl) (by decide) ?_
              refine x_goto (tgt := 50) d_Mo_rooms_76 (by decide) ?_
              refine ih2 hw2 _ (fun o ho => by rw [um_ne _ _ _ ho]; exact hm3 o ho) (fun x hx2 => ?_)
              by_cases h : x = 993 + 12 * R1 2 + w
              · rw [h, um_eq, if_pos (by omega), show 993 + 12 * R1 2 + w - (993 + 12 * R1 2) = w by omega]
              · rw [um_k _ _ h, hx x hx2]
                by_cases h2 : 993 + 12 * R1 2 ≤ x ∧ x < 993 + 12 * R1 2 + w
                · rw [if_pos h2, if_pos (by omega)]
                · rw [if_neg h2, if_neg (by omega)]
      · have c21 := nI_nle' (by omega) (by omega) c21
        rw [if_pos c21]
        refine x_bipush (v := -3) d_Mo_rooms_24 (by decide) ?_
        refine x_iret rfl rfl d_Mo_rooms_26 (Nat.zero_le _) (Nat.zero_le _) ?_
        exact ⟨_, rfl, rfl, rfl, rfl, hC1⟩
    · exact absurd (nI_pos' (by omega)) c6
end
