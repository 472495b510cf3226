/-! the reference: recording, laying aside -/
def MP (μ : Nat) (mem : Mem) (q : Int32 × GS) (x : Int32) (m : Mem) : Prop := x = q.1 ∧ MR m μ q.2 ∧ Fr μ (μ + 8) mem m
section
variable {l : Launch} {g : XG} {sh : Nat → Sh} {mem : Mem} {μ : Nat} {R : RS}
theorem ct_Mo_lay (hM : LayMo sh μ) (hn : NowR mem (μ + 1) R) : Ct l g M_Mo_lay [rf g μ] none sh mem (Rv none sh (fun m => (∀ o, o ≠ μ + 3 → m o = mem o) ∧ NowR m (μ + 3) R)) := by
  refine x_begin rfl rfl rfl (by decide) rfl ?_
  refine x_iconst (v := nI 0) d_Mo_lay_0 (by decide) ?_
  refine x_istore_n d_Mo_lay_1 (by decide) ?_
  refine up_ind 1953 (P := fun j => ∀ (m : Mem), (∀ o, o ≠ μ + 3 → m o = mem o) → (∀ x, x < j → m (μ + 3) x = nI (R x)) → X l g M_Mo_lay (XF g (Rv none sh (fun m => (∀ o, o ≠ μ + 3 → m o = mem o) ∧ NowR m (μ + 3) R)) M_Mo_lay) 2 [some (rf g μ), some (.int (nI j))] [] none sh m 0 0) (fun j hj ih m hm hx => ?_) 0 (Nat.zero_le _) mem (fun _ _ => rfl) (fun x hx => absurd hx (by omega))
  refine x_iload_n d_Mo_lay_2 rfl ?_
  refine x_sipush (v := nI 1953) d_Mo_lay_3 (by decide) ?_
  refine x_icmp_ge (tgt := 27) d_Mo_lay_6 (by decide) (fun c6 => ?_) (fun c6 => ?_)
  · have hj2 : j = 1953 := by have := nI_le' (by omega) (by omega) c6; omega
    subst hj2
    refine x_vret rfl d_Mo_lay_27 (Nat.zero_le _) (Nat.zero_le _) ?_
    exact ⟨rfl, rfl, rfl, hm, fun x hx2 => hx x hx2⟩
  · have hj2 : j < 1953 := nI_nle' (by omega) (by omega) c6
    refine x_aload_n d_Mo_lay_9 rfl ?_
    refine x_getR hM.f0 rfl fs_Mo_16 d_Mo_lay_10 ?_
    refine x_iload_n d_Mo_lay_13 rfl ?_
    refine x_aload_n d_Mo_lay_14 rfl ?_
    refine x_getR hM.f0 rfl fs_Mo_7 d_Mo_lay_15 ?_
    refine x_iload_n d_Mo_lay_18 rfl ?_
    refine x_iald hM.f1 (vp_in_nI (by omega) (by omega)) d_Mo_lay_19 ?_
    rw [nI_clamp (by omega), hm _ (by omega), hn _ (by omega)]
    refine x_iast hM.f3 (vp_in_nI (by omega) (by omega)) d_Mo_lay_20 ?_
    rw [nI_clamp (by omega)]
    refine x_iinc d_Mo_lay_21 rfl (by first | exact inc1 _ | rfl) (by decide) ?_
    refine x_goto (tgt := 2) d_Mo_lay_24 (by decide) ?_
    exact ih hj2 _ (fun o ho => by rw [um_ne _ _ _ ho]; exact hm o ho) (fun x hx2 => by by_cases h : x = j; (· rw [h, um_eq]); (· rw [um_k _ _ h]; exact hx x (by omega)))
theorem ct_Mo_takeBack (hM : LayMo sh μ) (hn : NowR mem (μ + 3) R) : Ct l g M_Mo_takeBack [rf g μ] none sh mem (Rv none sh (fun m => F1 μ mem m ∧ NowR m (μ + 1) R)) := by
  refine x_begin rfl rfl rfl (by decide) rfl ?_
  refine x_iconst (v := nI 0) d_Mo_takeBack_0 (by decide) ?_
  refine x_istore_n d_Mo_takeBack_1 (by decide) ?_
  refine up_ind 1953 (P := fun j => ∀ (m : Mem), F1 μ mem m → (∀ x, x < j → m (μ + 1) x = nI (R x)) → X l g M_Mo_takeBack (XF g (Rv none sh (fun m => F1 μ mem m ∧ NowR m (μ + 1) R)) M_Mo_takeBack) 2 [some (rf g μ), some (.int (nI j))] [] none sh m 0 0) (fun j hj ih m hm hx => ?_) 0 (Nat.zero_le _) mem F1.rf (fun x hx => absurd hx (by omega))
  refine x_iload_n d_Mo_takeBack_2 rfl ?_
  refine x_sipush (v := nI 1953) d_Mo_takeBack_3 (by decide) ?_
  refine x_icmp_ge (tgt := 27) d_Mo_takeBack_6 (by decide) (fun c6 => ?_) (fun c6 => ?_)
  · have hj2 : j = 1953 := by have := nI_le' (by omega) (by omega) c6; omega
    subst hj2
    refine x_vret rfl d_Mo_takeBack_27 (Nat.zero_le _) (Nat.zero_le _) ?_
    exact ⟨rfl, rfl, rfl, hm, fun x hx2 => hx x hx2⟩
  · have hj2 : j < 1953 := nI_nle' (by omega) (by omega) c6
    refine x_aload_n d_Mo_takeBack_9 rfl ?_
    refine x_getR hM.f0 rfl fs_Mo_7 d_Mo_takeBack_10 ?_
    refine x_iload_n d_Mo_takeBack_13 rfl ?_
    refine x_aload_n d_Mo_takeBack_14 rfl ?_
    refine x_getR hM.f0 rfl fs_Mo_16 d_Mo_takeBack_15 ?_
    refine x_iload_n d_Mo_takeBack_18 rfl ?_
    refine x_iald hM.f3 (vp_in_nI (by omega) (by omega)) d_Mo_takeBack_19 ?_
    rw [nI_clamp (by omega), hm _ (by omega), hn _ (by omega)]
    refine x_iast hM.f1 (vp_in_nI (by omega) (by omega)) d_Mo_takeBack_20 ?_
    rw [nI_clamp (by omega)]
    refine x_iinc d_Mo_takeBack_21 rfl (by first | exact inc1 _ | rfl) (by decide) ?_
    refine x_goto (tgt := 2) d_Mo_takeBack_24 (by decide) ?_
    exact ih hj2 _ (hm.tr F1.um) (fun x hx2 => by by_cases h : x = j; (· rw [h, um_eq]); (· rw [um_k _ _ h]; exact hx x (by omega)))
theorem ct_Mo_check (hM : LayMo sh μ) (hn : NowR mem (μ + 1) R) (h12 : R 0 ≤ 12) (h20 : R 2 ≤ 20) {i r y : Int32} : Ct l g M_Mo_check [rf g μ, .int i, .int r, .int y] none sh mem (Pq (.int (if hasI i (R 2) ∧ hasI r (R 0) then (if inI y 0 1 then nI 0 else -2) else -1)) none sh mem) := by
  refine x_begin rfl rfl rfl (by decide) rfl ?_
  refine x_aload_n d_Mo_check_0 rfl ?_
  refine x_iload_n d_Mo_check_1 rfl ?_
  refine x_v1p d_Mo_check_2 ml_Mo_139 v_Mo_isRoom rfl ⟨rfl, rfl⟩ hM.io (Nat.le_of_ble_eq_true rfl) (ct_Mo_isRoom hM hn h20) ?_
  refine x_if_eq (tgt := 16) d_Mo_check_5 (by decide) (fun c5 => ?_) (fun c5 => ?_)
  · rw [if_neg (fun z => bI_0.mp c5 z.1)]
    refine x_iconst (v := -1) d_Mo_check_16 (by decide) ?_
    refine x_goto (tgt := 35) d_Mo_check_17 (by decide) ?_
    refine x_iret rfl rfl d_Mo_check_35 (Nat.zero_le _) (Nat.zero_le _) ?_
    exact ⟨rfl, rfl, rfl, rfl⟩
  · refine x_aload_n d_Mo_check_8 rfl ?_
    refine x_iload_n d_Mo_check_9 rfl ?_
    refine x_v1p d_Mo_check_10 ml_Mo_142 v_Mo_isRoll rfl ⟨rfl, rfl⟩ hM.io (Nat.le_of_ble_eq_true rfl) (ct_Mo_isRoll hM hn h12) ?_
    refine x_if_ne (tgt := 20) d_Mo_check_13 (by decide) (fun c13 => ?_) (fun c13 => ?_)
    · rw [if_pos ⟨bI_n.mp c5, bI_n.mp c13⟩]
      refine x_iload_n d_Mo_check_20 rfl ?_
      refine x_iconst (v := nI 0) d_Mo_check_21 (by decide) ?_
      refine x_iconst (v := nI 1) d_Mo_check_22 (by decide) ?_
      refine x_s3p d_Mo_check_23 ml_Mo_35 v_Mo_in rfl ⟨rfl, rfl⟩ rfl (Nat.le_of_ble_eq_true rfl) (ct_Mo_in) ?_
      refine x_if_eq (tgt := 33) d_Mo_check_26 (by decide) (fun c26 => ?_) (fun c26 => ?_)
      · rw [if_neg (bI_0.mp c26)]
        refine x_bipush (v := -2) d_Mo_check_33 (by decide) ?_
        refine x_iret rfl rfl d_Mo_check_35 (Nat.zero_le _) (Nat.zero_le _) ?_
        exact ⟨rfl, rfl, rfl, rfl⟩
      · rw [if_pos (bI_n.mp c26)]
        refine x_iconst (v := nI 0) d_Mo_check_29 (by decide) ?_
        refine x_goto (tgt := 35) d_Mo_check_30 (by decide) ?_
        refine x_iret rfl rfl d_Mo_check_35 (Nat.zero_le _) (Nat.zero_le _) ?_
        exact ⟨rfl, rfl, rfl, rfl⟩
    · rw [if_neg (fun z => bI_0.mp c13 z.2)]
      refine x_iconst (v := -1) d_Mo_check_16 (by decide) ?_
      refine x_goto (tgt := 35) d_Mo_check_17 (by decide) ?_
      refine x_iret rfl rfl d_Mo_check_35 (Nat.zero_le _) (Nat.zero_le _) ?_
      exact ⟨rfl, rfl, rfl, rfl⟩
theorem ct_Mo_record {H : List RS} (hM : LayMo sh μ) (hn : NowR mem (μ + 1) R) (hI : Inv R) (hh : MHist mem μ H) : Ct l g M_Mo_record [rf g μ] none sh mem (Rv none sh (fun m => (∀ o, o ≠ μ → o ≠ μ + 5 → m o = mem o) ∧ (∀ k, k ≠ 8 → m μ k = mem μ k) ∧ MHist m μ (pushH H R))) := by
  obtain ⟨e1, e2, e3⟩ := id hh
  refine x_begin rfl rfl rfl (by decide) rfl ?_
  have hJ : ∀ (m1 : Mem) (H1 : List RS) (u1 : Option Value), MHist m1 μ H1 → H1.length ≤ 3 → pushH H R = H1 ++ [R] → (∀ o, o ≠ μ → o ≠ μ + 5 → m1 o = mem o) → (∀ k, k ≠ 8 → m1 μ k = mem μ k) → X l g M_Mo_record (XF g (Rv none sh (fun m => (∀ o, o ≠ μ → o ≠ μ + 5 → m o = mem o) ∧ (∀ k, k ≠ 8 → m μ k = mem μ k) ∧ MHist m μ (pushH H R))) M_Mo_record) 49 [some (rf g μ), u1] [] none sh m1 0 0 := by
    intro m1 H1 u1 hh1 hl1 hp1 f1 f2
    obtain ⟨d1, d2, d3⟩ := id hh1
    refine x_iconst (v := nI 0) d_Mo_record_49 (by decide) ?_
    refine x_istore_n d_Mo_record_50 (by decide) ?_
    refine up_ind 1953 (P := fun j => ∀ (m : Mem), (∀ o, o ≠ μ + 5 → m o = m1 o) → (∀ x, x < j → m (μ + 5) (1953 * H1.length + x) = nI (R x)) → (∀ x, x < 1953 * H1.length → m (μ + 5) x = m1 (μ + 5) x) → X l g M_Mo_record (XF g (Rv none sh (fun m => (∀ o, o ≠ μ → o ≠ μ + 5 → m o = mem o) ∧ (∀ k, k ≠ 8 → m μ k = mem μ k) ∧ MHist m μ (pushH H R))) M_Mo_record) 51 [some (rf g μ), some (.int (nI j))] [] none sh m 0 0) (fun j hj ih m hm hx hy => ?_) 0 (Nat.zero_le _) m1 (fun _ _ => rfl) (fun x hx => absurd hx (by omega)) (fun _ _ => rfl)
    refine x_iload_n d_Mo_record_51 rfl ?_
    refine x_sipush (v := nI 1953) d_Mo_record_52 (by decide) ?_
    refine x_icmp_ge (tgt := 85) d_Mo_record_55 (by decide) (fun c55 => ?_) (fun c55 => ?_)
    · have hj2 : j = 1953 := by have := nI_le' (by omega) (by omega) c55; omega
      subst hj2
      refine x_aload_n d_Mo_record_85 rfl ?_
      refine x_dup d_Mo_record_86 rfl ?_
      refine x_getI hM.f0 rfl fs_Mo_31 d_Mo_record_87 ?_
      rw [hm _ (by omega), d2]
      refine x_iconst (v := nI 1) d_Mo_record_90 (by decide) ?_
      refine x_iadd d_Mo_record_91 ?_
      rw [nI_add]
      refine x_putI hM.f0 rfl ps_Mo_31 rfl rfl d_Mo_record_92 ?_
      refine x_vret rfl d_Mo_record_95 (Nat.zero_le _) (Nat.zero_le _) ?_
      refine ⟨rfl, rfl, rfl, fun o h1 h2 => by rw [um_ne _ _ _ h1, hm _ h2]; exact f1 o h1 h2, fun k hk => by rw [um_k _ _ hk, hm _ (by omega)]; exact f2 k hk, ?_⟩
      rw [hp1]
      refine ⟨by rw [List.length_append, List.length_singleton]; omega, by rw [um_eq, List.length_append, List.length_singleton], fun t R1 ht => ?_⟩
      by_cases htl : t < H1.length
      · rw [List.getElem?_append_left htl] at ht
        obtain ⟨g1, g2⟩ := d3 t R1 ht
        refine ⟨g1, fun x hx3 => ?_⟩
        rw [um_ne _ _ _ (by omega), hy _ (by omega)]
        exact g2 x hx3
      · have htl2 : t = H1.length := by
          have := (List.getElem?_eq_some_iff.mp ht).1
          rw [List.length_append, List.length_singleton] at this
          omega
        subst htl2
        rw [List.getElem?_append_right (Nat.le_refl _), Nat.sub_self] at ht
        cases ht
        refine ⟨hI, fun x hx3 => ?_⟩
        rw [um_ne _ _ _ (by omega)]
        exact hx x hx3
    · have hj2 : j < 1953 := nI_nle' (by omega) (by omega) c55
      refine x_aload_n d_Mo_record_58 rfl ?_
      refine x_getR hM.f0 rfl fs_Mo_22 d_Mo_record_59 ?_
      refine x_sipush (v := nI 1953) d_Mo_record_62 (by decide) ?_
      refine x_aload_n d_Mo_record_65 rfl ?_
      refine x_getI hM.f0 rfl fs_Mo_31 d_Mo_record_66 ?_
      rw [hm _ (by omega), d2]
      refine x_imul d_Mo_record_69 ?_
      rw [pk_mul]
      refine x_iload_n d_Mo_record_70 rfl ?_
      refine x_iadd d_Mo_record_71 ?_
      rw [nI_add]
      refine x_aload_n d_Mo_record_72 rfl ?_
      refine x_getR hM.f0 rfl fs_Mo_7 d_Mo_record_73 ?_
      refine x_iload_n d_Mo_record_76 rfl ?_
      refine x_iald hM.f1 (vp_in_nI (by omega) (by omega)) d_Mo_record_77 ?_
      rw [nI_clamp (by omega), hm _ (by omega), f1 _ (by omega) (by omega), hn _ (by omega)]
      refine x_iast hM.f5 (vp_in_nI (by omega) (by omega)) d_Mo_record_78 ?_
      rw [nI_clamp (by omega)]
      refine x_iinc d_Mo_record_79 rfl (by first | exact inc1 _ | rfl) (by decide) ?_
      refine x_goto (tgt := 51) d_Mo_record_82 (by decide) ?_
      refine ih hj2 _ (fun o ho => by rw [um_ne _ _ _ ho]; exact hm o ho) (fun x hx2 => ?_) (fun x hx2 => by rw [um_k _ _ (by omega)]; exact hy x hx2)
      by_cases h : x = j
      · rw [h, um_eq]
      · rw [um_k _ _ (by omega)]
        exact hx x (by omega)
  refine x_aload_n d_Mo_record_0 rfl ?_
  refine x_getI hM.f0 rfl fs_Mo_31 d_Mo_record_1 ?_
  rw [e2]
  refine x_iconst (v := nI 4) d_Mo_record_4 (by decide) ?_
  refine x_icmp_ne (tgt := 49) d_Mo_record_5 (by decide) (fun c5 => ?_) (fun c5 => ?_)
  · have c5 := nI_ne' c5
    exact hJ mem H _ hh (by omega) (by rw [pushH, if_pos (by omega)]) (fun _ _ _ => rfl) (fun _ _ => rfl)
  · have c5 := nI_eq' (by omega) (by omega) c5
    refine x_iconst (v := nI 0) d_Mo_record_8 (by decide) ?_
    refine x_istore_n d_Mo_record_9 (by decide) ?_
    refine up_ind 5859 (P := fun j => ∀ (m : Mem), (∀ o, o ≠ μ + 5 → m o = mem o) → (∀ x, x < j → m (μ + 5) x = mem (μ + 5) (x + 1953)) → (∀ x, j ≤ x → m (μ + 5) x = mem (μ + 5) x) → X l g M_Mo_record (XF g (Rv none sh (fun m => (∀ o, o ≠ μ → o ≠ μ + 5 → m o = mem o) ∧ (∀ k, k ≠ 8 → m μ k = mem μ k) ∧ MHist m μ (pushH H R))) M_Mo_record) 10 [some (rf g μ), some (.int (nI j))] [] none sh m 0 0) (fun j hj ih m hm hx hy => ?_) 0 (Nat.zero_le _) mem (fun _ _ => rfl) (fun x hx => absurd hx (by omega)) (fun _ _ => rfl)
    refine x_iload_n d_Mo_record_10 rfl ?_
    refine x_sipush (v := nI 5859) d_Mo_record_11 (by decide) ?_
    refine x_icmp_ge (tgt := 39) d_Mo_record_14 (by decide) (fun c14 => ?_) (fun c14 => ?_)
    · have hj2 : j = 5859 := by have := nI_le' (by omega) (by omega) c14; omega
      subst hj2
      refine x_aload_n d_Mo_record_39 rfl ?_
      refine x_dup d_Mo_record_40 rfl ?_
      refine x_getI hM.f0 rfl fs_Mo_31 d_Mo_record_41 ?_
      rw [hm _ (by omega), e2]
      refine x_iconst (v := nI 1) d_Mo_record_44 (by decide) ?_
      refine x_isub d_Mo_record_45 ?_
      rw [pk_sub (by omega)]
      refine x_putI hM.f0 rfl ps_Mo_31 rfl rfl d_Mo_record_46 ?_
      refine hJ _ H.tail _ ⟨by rw [List.length_tail]; omega, by rw [um_eq, List.length_tail], fun t R1 ht => ?_⟩ (by rw [List.length_tail]; omega) (by rw [pushH, if_neg (by omega)]) (fun o h1 h2 => by rw [um_ne _ _ _ h1]; exact hm o h2) (fun k hk => by rw [um_k _ _ hk, hm _ (by omega)])
      rw [List.getElem?_tail] at ht
      have htl := (List.getElem?_eq_some_iff.mp ht).1
      obtain ⟨g1, g2⟩ := e3 (t + 1) R1 ht
      refine ⟨g1, fun x hx3 => ?_⟩
      rw [um_ne _ _ _ (by omega), hx _ (by omega), show 1953 * t + x + 1953 = 1953 * (t + 1) + x by omega]
      exact g2 x hx3
    · have hj2 : j < 5859 := nI_nle' (by omega) (by omega) c14
      refine x_aload_n d_Mo_record_17 rfl ?_
      refine x_getR hM.f0 rfl fs_Mo_22 d_Mo_record_18 ?_
      refine x_iload_n d_Mo_record_21 rfl ?_
      refine x_aload_n d_Mo_record_22 rfl ?_
      refine x_getR hM.f0 rfl fs_Mo_22 d_Mo_record_23 ?_
      refine x_iload_n d_Mo_record_26 rfl ?_
      refine x_sipush (v := nI 1953) d_Mo_record_27 (by decide) ?_
      refine x_iadd d_Mo_record_30 ?_
      rw [nI_add]
      refine x_iald hM.f5 (vp_in_nI (by omega) (by omega)) d_Mo_record_31 ?_
      rw [nI_clamp (by omega), hy _ (by omega)]
      refine x_iast hM.f5 (vp_in_nI (by omega) (by omega)) d_Mo_record_32 ?_
      rw [nI_clamp (by omega)]
      refine x_iinc d_Mo_record_33 rfl (by first | exact inc1 _ | rfl) (by decide) ?_
      refine x_goto (tgt := 10) d_Mo_record_36 (by decide) ?_
      refine ih hj2 _ (fun o ho => by rw [um_ne _ _ _ ho]; exact hm o ho) (fun x hx2 => ?_) (fun x hx2 => by rw [um_k _ _ (by omega)]; exact hy x (by omega))
      by_cases h : x = j
      · rw [h, um_eq]
      · rw [um_k _ _ h]
        exact hx x (by omega)
end
