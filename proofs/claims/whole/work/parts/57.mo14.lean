/-! the reference: a setting -/
section
variable {l : Launch} {g : XG} {sh : Nat → Sh} {mem : Mem} {μ : Nat} {G : GS}
theorem ct_Mo_most {k : Nat} (hk : k < 5) : Ct l g M_Mo_most [.int (nI k)] none sh mem (Pq (.int (nI (if k = 0 then 2 else if k = 1 then 20 else if k = 2 then 99 else if k = 3 then 9 else 1))) none sh mem) := by
  refine x_begin rfl rfl rfl (by decide) rfl ?_
  refine x_iload_n d_Mo_most_0 rfl ?_
  refine x_if_ne (tgt := 8) d_Mo_most_1 (by decide) (fun c1 => ?_) (fun c1 => ?_)
  · have c1 : k ≠ 0 := fun z => c1 (by rw [z]; rfl)
    rw [if_neg c1]
    refine x_iload_n d_Mo_most_8 rfl ?_
    refine x_iconst (v := nI 1) d_Mo_most_9 (by decide) ?_
    refine x_icmp_ne (tgt := 18) d_Mo_most_10 (by decide) (fun c10 => ?_) (fun c10 => ?_)
    · rw [if_neg (nI_ne' c10)]
      refine x_iload_n d_Mo_most_18 rfl ?_
      refine x_iconst (v := nI 2) d_Mo_most_19 (by decide) ?_
      refine x_icmp_ne (tgt := 28) d_Mo_most_20 (by decide) (fun c20 => ?_) (fun c20 => ?_)
      · rw [if_neg (nI_ne' c20)]
        refine x_iload_n d_Mo_most_28 rfl ?_
        refine x_iconst (v := nI 3) d_Mo_most_29 (by decide) ?_
        refine x_icmp_ne (tgt := 38) d_Mo_most_30 (by decide) (fun c30 => ?_) (fun c30 => ?_)
        · rw [if_neg (nI_ne' c30)]
          refine x_iconst (v := nI 1) d_Mo_most_38 (by decide) ?_
          refine x_iret rfl rfl d_Mo_most_39 (Nat.zero_le _) (Nat.zero_le _) ?_
          exact ⟨rfl, rfl, rfl, rfl⟩
        · rw [if_pos (nI_eq' (by omega) (by omega) c30)]
          refine x_bipush (v := nI 9) d_Mo_most_33 (by decide) ?_
          refine x_goto (tgt := 39) d_Mo_most_35 (by decide) ?_
          refine x_iret rfl rfl d_Mo_most_39 (Nat.zero_le _) (Nat.zero_le _) ?_
          exact ⟨rfl, rfl, rfl, rfl⟩
      · rw [if_pos (nI_eq' (by omega) (by omega) c20)]
        refine x_bipush (v := nI 99) d_Mo_most_23 (by decide) ?_
        refine x_goto (tgt := 39) d_Mo_most_25 (by decide) ?_
        refine x_iret rfl rfl d_Mo_most_39 (Nat.zero_le _) (Nat.zero_le _) ?_
        exact ⟨rfl, rfl, rfl, rfl⟩
    · rw [if_pos (nI_eq' (by omega) (by omega) c10)]
      refine x_bipush (v := nI 20) d_Mo_most_13 (by decide) ?_
      refine x_goto (tgt := 39) d_Mo_most_15 (by decide) ?_
      refine x_iret rfl rfl d_Mo_most_39 (Nat.zero_le _) (Nat.zero_le _) ?_
      exact ⟨rfl, rfl, rfl, rfl⟩
  · have c1 := nI_eq' (b := 0) (by omega) (by omega) c1
    rw [if_pos c1]
    refine x_iconst (v := nI 2) d_Mo_most_4 (by decide) ?_
    refine x_goto (tgt := 39) d_Mo_most_5 (by decide) ?_
    refine x_iret rfl rfl d_Mo_most_39 (Nat.zero_le _) (Nat.zero_le _) ?_
    exact ⟨rfl, rfl, rfl, rfl⟩
theorem setI_nI {i : Nat} (hi : i < 5) (v : Int32) : setI (nI i) v ↔ inI v (if i = 1 ∨ i = 3 then 1 else 0) (if i = 0 then 2 else if i = 1 then 20 else if i = 2 then 99 else if i = 3 then 9 else 1) := by
  rcases (show i = 0 ∨ i = 1 ∨ i = 2 ∨ i = 3 ∨ i = 4 by omega) with rfl | rfl | rfl | rfl | rfl
  · exact ⟨fun h => by rcases h with ⟨h, q⟩ | ⟨h, q⟩ | ⟨h, q⟩ | ⟨h, q⟩ | ⟨h, q⟩ <;> first | exact absurd h (by decide) | exact q, fun q => Or.inl ⟨rfl, q⟩⟩
  · exact ⟨fun h => by rcases h with ⟨h, q⟩ | ⟨h, q⟩ | ⟨h, q⟩ | ⟨h, q⟩ | ⟨h, q⟩ <;> first | exact absurd h (by decide) | exact q, fun q => Or.inr (Or.inl ⟨rfl, q⟩)⟩
  · exact ⟨fun h => by rcases h with ⟨h, q⟩ | ⟨h, q⟩ | ⟨h, q⟩ | ⟨h, q⟩ | ⟨h, q⟩ <;> first | exact absurd h (by decide) | exact q, fun q => Or.inr (Or.inr (Or.inl ⟨rfl, q⟩))⟩
  · exact ⟨fun h => by rcases h with ⟨h, q⟩ | ⟨h, q⟩ | ⟨h, q⟩ | ⟨h, q⟩ | ⟨h, q⟩ <;> first | exact absurd h (by decide) | exact q, fun q => Or.inr (Or.inr (Or.inr (Or.inl ⟨rfl, q⟩)))⟩
  · exact ⟨fun h => by rcases h with ⟨h, q⟩ | ⟨h, q⟩ | ⟨h, q⟩ | ⟨h, q⟩ | ⟨h, q⟩ <;> first | exact absurd h (by decide) | exact q, fun q => Or.inr (Or.inr (Or.inr (Or.inr ⟨rfl, q⟩)))⟩
theorem ct_Mo_set (hM : LayMo sh μ) (hC : MR mem μ G) {k v : Int32} : Ct l g M_Mo_set [rf g μ, .int k, .int v] none sh mem (Ri none sh (MP μ mem (spSet G k v))) := by
  obtain ⟨hI, hn, hh, ht, hs⟩ := id hC
  obtain ⟨-, ⟨i4, ⟨i5, i6⟩, i7, ⟨i8, i9⟩, i10⟩, -⟩ := id hI
  have h99 : ∀ i, i < 5 → G.1 (4 + i) ≤ 99 := fun i hi => by
    rcases (show i = 0 ∨ i = 1 ∨ i = 2 ∨ i = 3 ∨ i = 4 by omega) with rfl | rfl | rfl | rfl | rfl
    · exact Nat.le_trans i4 (by omega)
    · exact Nat.le_trans i6 (by omega)
    · exact i7
    · exact Nat.le_trans i9 (by omega)
    · exact Nat.le_trans i10 (by omega)
  refine x_begin rfl rfl rfl (by decide) rfl ?_
  refine x_iload_n d_Mo_set_0 rfl ?_
  refine x_iconst (v := nI 0) d_Mo_set_1 (by decide) ?_
  refine x_iconst (v := nI 4) d_Mo_set_2 (by decide) ?_
  refine x_s3p d_Mo_set_3 ml_Mo_35 v_Mo_in rfl ⟨rfl, rfl⟩ rfl (Nat.le_of_ble_eq_true rfl) (ct_Mo_in) ?_
  refine x_if_eq (tgt := 35) d_Mo_set_6 (by decide) (fun c6 => ?_) (fun c6 => ?_)
  · rw [show spSet G k v = (-2, G) from if_neg (fun z => by obtain ⟨i, j, h1, rfl, -⟩ := setI_of z; exact bI_0.mp c6 ⟨nI_pos' (by omega), nI_le (by omega) (by omega)⟩)]
    refine x_bipush (v := -2) d_Mo_set_35 (by decide) ?_
    refine x_iret rfl rfl d_Mo_set_37 (Nat.zero_le _) (Nat.zero_le _) ?_
    exact ⟨_, rfl, rfl, rfl, rfl, hC, Fr.rf⟩
  · obtain ⟨i, hi0, rfl⟩ := inI_of (x := k) (a := 0) (b := 4) (by omega) (by omega) (bI_n.mp c6)
    have hi : i < 5 := by omega
    have hset := setI_nI hi v
    refine x_iload_n d_Mo_set_9 rfl ?_
    refine x_iload_n d_Mo_set_10 rfl ?_
    refine x_iconst (v := nI 1) d_Mo_set_11 (by decide) ?_
    refine x_icmp_eq (tgt := 20) d_Mo_set_12 (by decide) (fun c12 => ?_) (fun c12 => ?_)
    · have c12 := nI_eq' (by omega) (by omega) c12
      rw [if_pos (Or.inl c12)] at hset
      refine x_iconst (v := nI 1) d_Mo_set_20 (by decide) ?_
      refine x_goto (tgt := 25) d_Mo_set_21 (by decide) ?_
      refine x_iload_n d_Mo_set_25 rfl ?_
      refine x_s1p d_Mo_set_26 ml_Mo_172 v_Mo_most rfl ⟨rfl, rfl⟩ rfl (Nat.le_of_ble_eq_true rfl) (ct_Mo_most  (by omega)) ?_
      refine x_s3p d_Mo_set_29 ml_Mo_35 v_Mo_in rfl ⟨rfl, rfl⟩ rfl (Nat.le_of_ble_eq_true rfl) (ct_Mo_in) ?_
      refine x_if_ne (tgt := 38) d_Mo_set_32 (by decide) (fun c32 => ?_) (fun c32 => ?_)
      · have hv := hset.mpr (bI_n.mp c32)
        rw [show spSet G (nI i) v = if tN v = G.1 (4 + tN (nI i)) then (-5, G) else (nI (G.1 (4 + tN (nI i))), actG G (un G.1 (4 + tN (nI i)) (tN v))) from if_pos hv]
        obtain ⟨i2, v, hk, hie, rfl, hv, hd⟩ := setI_of hv
        have hie := nI_eq' (by omega) (by omega) hie
        subst hie
        rw [tN_nI (by omega), tN_nI (by omega)]
        have h9 := h99 i hi
        refine x_aload_n d_Mo_set_38 rfl ?_
        refine x_getR hM.f0 rfl fs_Mo_7 d_Mo_set_39 ?_
        refine x_iconst (v := nI 4) d_Mo_set_42 (by decide) ?_
        refine x_iload_n d_Mo_set_43 rfl ?_
        refine x_iadd d_Mo_set_44 ?_
        rw [nI_add]
        refine x_iald hM.f1 (vp_in_nI (by omega) (by omega)) d_Mo_set_45 ?_
        rw [nI_clamp (by omega), hn _ (by omega)]
        refine x_istore_n d_Mo_set_46 (by decide) ?_
        refine x_iload_n d_Mo_set_47 rfl ?_
        refine x_iload_n d_Mo_set_48 rfl ?_
        refine x_icmp_ne (tgt := 55) d_Mo_set_49 (by decide) (fun c49 => ?_) (fun c49 => ?_)
        · rw [if_neg (fun z => c49 (by rw [z]))]
          refine x_aload_n d_Mo_set_55 rfl ?_
          refine x_v0v d_Mo_set_56 ml_Mo_126 v_Mo_record rfl ⟨rfl, rfl⟩ hM.io (Nat.le_of_ble_eq_true rfl) (ct_Mo_record hM hn hI hh) (fun mem56 h56 => ?_)
          obtain ⟨f56, g56, hh56⟩ := h56
          have n56 : NowR mem56 (μ + 1) G.1 := hn.mv (f56 _ (by omega) (by omega))
          refine x_aload_n d_Mo_set_59 rfl ?_
          refine x_getR hM.f0 rfl fs_Mo_7 d_Mo_set_60 ?_
          refine x_iconst (v := nI 4) d_Mo_set_63 (by decide) ?_
          refine x_iload_n d_Mo_set_64 rfl ?_
          refine x_iadd d_Mo_set_65 ?_
          rw [nI_add]
          refine x_iload_n d_Mo_set_66 rfl ?_
          refine x_iast hM.f1 (vp_in_nI (by omega) (by omega)) d_Mo_set_67 ?_
          rw [nI_clamp (by omega)]
          refine x_iload_n d_Mo_set_68 rfl ?_
          refine x_iret rfl rfl d_Mo_set_69 (Nat.zero_le _) (Nat.zero_le _) ?_
          exact ⟨_, rfl, rfl, rfl, rfl, hC.acted f56 g56 hh56 F1.um.fn (setS_inv hI hd) (n56.up rfl)⟩
        · rw [if_pos (nI_eq' (by omega) (by omega) c49).symm]
          refine x_bipush (v := -5) d_Mo_set_52 (by decide) ?_
          refine x_iret rfl rfl d_Mo_set_54 (Nat.zero_le _) (Nat.zero_le _) ?_
          exact ⟨_, rfl, rfl, rfl, rfl, hC, Fr.rf⟩
      · rw [show spSet G (nI i) v = (-2, G) from if_neg (fun z => bI_0.mp c32 (hset.mp z))]
        refine x_bipush (v := -2) d_Mo_set_35 (by decide) ?_
        refine x_iret rfl rfl d_Mo_set_37 (Nat.zero_le _) (Nat.zero_le _) ?_
        exact ⟨_, rfl, rfl, rfl, rfl, hC, Fr.rf⟩
    · have c12 := nI_ne' c12
      refine x_iload_n d_Mo_set_15 rfl ?_
      refine x_iconst (v := nI 3) d_Mo_set_16 (by decide) ?_
      refine x_icmp_ne (tgt := 24) d_Mo_set_17 (by decide) (fun c17 => ?_) (fun c17 => ?_)
      · have c17 := nI_ne' c17
        rw [if_neg (show ¬ (i = 1 ∨ i = 3) by omega)] at hset
        refine x_iconst (v := nI 0) d_Mo_set_24 (by decide) ?_
        refine x_iload_n d_Mo_set_25 rfl ?_
        refine x_s1p d_Mo_set_26 ml_Mo_172 v_Mo_most rfl ⟨rfl, rfl⟩ rfl (Nat.le_of_ble_eq_true rfl) (ct_Mo_most  (by omega)) ?_
        refine x_s3p d_Mo_set_29 ml_Mo_35 v_Mo_in rfl ⟨rfl, rfl⟩ rfl (Nat.le_of_ble_eq_true rfl) (ct_Mo_in) ?_
        refine x_if_ne (tgt := 38) d_Mo_set_32 (by decide) (fun c32 => ?_) (fun c32 => ?_)
        · have hv := hset.mpr (bI_n.mp c32)
          rw [show spSet G (nI i) v = if tN v = G.1 (4 + tN (nI i)) then (-5, G) else (nI (G.1 (4 + tN (nI i))), actG G (un G.1 (4 + tN (nI i)) (tN v))) from if_pos hv]
          obtain ⟨i2, v, hk, hie, rfl, hv, hd⟩ := setI_of hv
          have hie := nI_eq' (by omega) (by omega) hie
          subst hie
          rw [tN_nI (by omega), tN_nI (by omega)]
          have h9 := h99 i hi
          refine x_aload_n d_Mo_set_38 rfl ?_
          refine x_getR hM.f0 rfl fs_Mo_7 d_Mo_set_39 ?_
          refine x_iconst (v := nI 4) d_Mo_set_42 (by decide) ?_
          refine x_iload_n d_Mo_set_43 rfl ?_
          refine x_iadd d_Mo_set_44 ?_
          rw [nI_add]
          refine x_iald hM.f1 (vp_in_nI (by omega) (by omega)) d_Mo_set_45 ?_
          rw [nI_clamp (by omega), hn _ (by omega)]
          refine x_istore_n d_Mo_set_46 (by decide) ?_
          refine x_iload_n d_Mo_set_47 rfl ?_
          refine x_iload_n d_Mo_set_48 rfl ?_
          refine x_icmp_ne (tgt := 55) d_Mo_set_49 (by decide) (fun c49 => ?_) (fun c49 => ?_)
          · rw [if_neg (fun z => c49 (by rw [z]))]
            refine x_aload_n d_Mo_set_55 rfl ?_
            refine x_v0v d_Mo_set_56 ml_Mo_126 v_Mo_record rfl ⟨rfl, rfl⟩ hM.io (Nat.le_of_ble_eq_true rfl) (ct_Mo_record hM hn hI hh) (fun mem56 h56 => ?_)
            obtain ⟨f56, g56, hh56⟩ := h56
            have n56 : NowR mem56 (μ + 1) G.1 := hn.mv (f56 _ (by omega) (by omega))
            refine x_aload_n d_Mo_set_59 rfl ?_
            refine x_getR hM.f0 rfl fs_Mo_7 d_Mo_set_60 ?_
            refine x_iconst (v := nI 4) d_Mo_set_63 (by decide) ?_
            refine x_iload_n d_Mo_set_64 rfl ?_
            refine x_iadd d_Mo_set_65 ?_
            rw [nI_add]
            refine x_iload_n d_Mo_set_66 rfl ?_
            refine x_iast hM.f1 (vp_in_nI (by omega) (by omega)) d_Mo_set_67 ?_
            rw [nI_clamp (by omega)]
            refine x_iload_n d_Mo_set_68 rfl ?_
            refine x_iret rfl rfl d_Mo_set_69 (Nat.zero_le _) (Nat.zero_le _) ?_
            exact ⟨_, rfl, rfl, rfl, rfl, hC.acted f56 g56 hh56 F1.um.fn (setS_inv hI hd) (n56.up rfl)⟩
          · rw [if_pos (nI_eq' (by omega) (by omega) c49).symm]
            refine x_bipush (v := -5) d_Mo_set_52 (by decide) ?_
            refine x_iret rfl rfl d_Mo_set_54 (Nat.zero_le _) (Nat.zero_le _) ?_
            exact ⟨_, rfl, rfl, rfl, rfl, hC, Fr.rf⟩
        · rw [show spSet G (nI i) v = (-2, G) from if_neg (fun z => bI_0.mp c32 (hset.mp z))]
          refine x_bipush (v := -2) d_Mo_set_35 (by decide) ?_
          refine x_iret rfl rfl d_Mo_set_37 (Nat.zero_le _) (Nat.zero_le _) ?_
          exact ⟨_, rfl, rfl, rfl, rfl, hC, Fr.rf⟩
      · have c17 := nI_eq' (by omega) (by omega) c17
        rw [if_pos (Or.inr c17)] at hset
        refine x_iconst (v := nI 1) d_Mo_set_20 (by decide) ?_
        refine x_goto (tgt := 25) d_Mo_set_21 (by decide) ?_
        refine x_iload_n d_Mo_set_25 rfl ?_
        refine x_s1p d_Mo_set_26 ml_Mo_172 v_Mo_most rfl ⟨rfl, rfl⟩ rfl (Nat.le_of_ble_eq_true rfl) (ct_Mo_most  (by omega)) ?_
        refine x_s3p d_Mo_set_29 ml_Mo_35 v_Mo_in rfl ⟨rfl, rfl⟩ rfl (Nat.le_of_ble_eq_true rfl) (ct_Mo_in) ?_
        refine x_if_ne (tgt := 38) d_Mo_set_32 (by decide) (fun c32 => ?_) (fun c32 => ?_)
        · have hv := hset.mpr (bI_n.mp c32)
          rw [show spSet G (nI i) v = if tN v = G.1 (4 + tN (nI i)) then (-5, G) else (nI (G.1 (4 + tN (nI i))), actG G (un G.1 (4 + tN (nI i)) (tN v))) from if_pos hv]
          obtain ⟨i2, v, hk, hie, rfl, hv, hd⟩ := setI_of hv
          have hie := nI_eq' (by omega) (by omega) hie
          subst hie
          rw [tN_nI (by omega), tN_nI (by omega)]
          have h9 := h99 i hi
          refine x_aload_n d_Mo_set_38 rfl ?_
          refine x_getR hM.f0 rfl fs_Mo_7 d_Mo_set_39 ?_
          refine x_iconst (v := nI 4) d_Mo_set_42 (by decide) ?_
          refine x_iload_n d_Mo_set_43 rfl ?_
          refine x_iadd d_Mo_set_44 ?_
          rw [nI_add]
          refine x_iald hM.f1 (vp_in_nI (by omega) (by omega)) d_Mo_set_45 ?_
          rw [nI_clamp (by omega), hn _ (by omega)]
          refine x_istore_n d_Mo_set_46 (by decide) ?_
          refine x_iload_n d_Mo_set_47 rfl ?_
          refine x_iload_n d_Mo_set_48 rfl ?_
          refine x_icmp_ne (tgt := 55) d_Mo_set_49 (by decide) (fun c49 => ?_) (fun c49 => ?_)
          · rw [if_neg (fun z => c49 (by rw [z]))]
            refine x_aload_n d_Mo_set_55 rfl ?_
            refine x_v0v d_Mo_set_56 ml_Mo_126 v_Mo_record rfl ⟨rfl, rfl⟩ hM.io (Nat.le_of_ble_eq_true rfl) (ct_Mo_record hM hn hI hh) (fun mem56 h56 => ?_)
            obtain ⟨f56, g56, hh56⟩ := h56
            have n56 : NowR mem56 (μ + 1) G.1 := hn.mv (f56 _ (by omega) (by omega))
            refine x_aload_n d_Mo_set_59 rfl ?_
            refine x_getR hM.f0 rfl fs_Mo_7 d_Mo_set_60 ?_
            refine x_iconst (v := nI 4) d_Mo_set_63 (by decide) ?_
            refine x_iload_n d_Mo_set_64 rfl ?_
            refine x_iadd d_Mo_set_65 ?_
            rw [nI_add]
            refine x_iload_n d_Mo_set_66 rfl ?_
            refine x_iast hM.f1 (vp_in_nI (by omega) (by omega)) d_Mo_set_67 ?_
            rw [nI_clamp (by omega)]
            refine x_iload_n d_Mo_set_68 rfl ?_
            refine x_iret rfl rfl d_Mo_set_69 (Nat.zero_le _) (Nat.zero_le _) ?_
            exact ⟨_, rfl, rfl, rfl, rfl, hC.acted f56 g56 hh56 F1.um.fn (setS_inv hI hd) (n56.up rfl)⟩
          · rw [if_pos (nI_eq' (by omega) (by omega) c49).symm]
            refine x_bipush (v := -5) d_Mo_set_52 (by decide) ?_
            refine x_iret rfl rfl d_Mo_set_54 (Nat.zero_le _) (Nat.zero_le _) ?_
            exact ⟨_, rfl, rfl, rfl, rfl, hC, Fr.rf⟩
        · rw [show spSet G (nI i) v = (-2, G) from if_neg (fun z => bI_0.mp c32 (hset.mp z))]
          refine x_bipush (v := -2) d_Mo_set_35 (by decide) ?_
          refine x_iret rfl rfl d_Mo_set_37 (Nat.zero_le _) (Nat.zero_le _) ?_
          exact ⟨_, rfl, rfl, rfl, rfl, hC, Fr.rf⟩
end
