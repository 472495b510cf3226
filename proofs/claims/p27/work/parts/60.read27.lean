/-! p27: a text is typed, rooms are read -/
theorem CI.tr {κ : Nat} {mem0 m m' : Mem} {G G' : GS} (h : CI κ mem0 G m) (q : CI κ m G' m') : CI κ mem0 G' m' := ⟨q.1, h.2.tr q.2⟩
section
variable {l : Launch} {g : XG} {sh : Nat → Sh} {mem : Mem} {κ : Nat} {G : GS}
theorem ct_Cc_typeA (hL : LayCc sh κ) (hC : CR mem κ G) {c : Nat} (hc : c < 65536) (hT : G.2.2.2.length < 60) : Ct l g M_Cc_type [rf g κ, .int (nI c)] none sh mem (Ri none sh (CP κ mem (nI (G.2.2.2.length + 1), (G.1, G.2.1, G.2.2.1, G.2.2.2 ++ [c])))) := by
  have h := ct_Cc_type (l := l) (g := g) hL hC hc
  rw [show spType G c = (nI (G.2.2.2.length + 1), (G.1, G.2.1, G.2.2.1, G.2.2.2 ++ [c])) from if_neg (by omega)] at h
  exact h
theorem ct_La_number (hL : LayCc sh κ) (hC : CR mem κ G) {n : Nat} (hn : n ≤ 99) (hT : G.2.2.2.length + 2 ≤ 60) : Ct l g M_La_number [rf g κ, .int (nI n)] none sh mem (Rv none sh (fun m => CI κ mem (G.1, G.2.1, G.2.2.1, G.2.2.2 ++ numT n) m)) := by
  have hC0 : CI κ mem G mem := ⟨hC, Fr.rf⟩
  refine x_begin rfl rfl rfl (by decide) rfl ?_
  refine x_iload_n d_La_number_0 rfl ?_
  refine x_bipush (v := nI 9) d_La_number_1 (by decide) ?_
  refine x_icmp_le (tgt := 19) d_La_number_3 (by decide) (fun c3 => ?_) (fun c3 => ?_)
  · have h9 := nI_le' (by omega) (by omega) c3
    have e : numT n = [48 + n % 10] := by
      unfold numT
      rw [if_neg (by omega)]
      rfl
    rw [e]
    refine x_aload_n d_La_number_19 rfl ?_
    refine x_bipush (v := nI 48) d_La_number_20 (by decide) ?_
    refine x_iload_n d_La_number_22 rfl ?_
    refine x_bipush (v := nI 10) d_La_number_23 (by decide) ?_
    refine x_irem d_La_number_25 (by decide) ?_
    rw [pk_rem (by omega) (by omega) (by omega)]
    refine x_iadd d_La_number_26 ?_
    rw [nI_add]
    refine x_i2c d_La_number_27 (i2c_at (by omega)) ?_
    refine x_v1i d_La_number_28 ml_La_30 v_Cc_type rfl ⟨rfl, rfl⟩ hL.io (Nat.le_of_ble_eq_true rfl) (ct_Cc_typeA hL hC0.1 (by omega) (by omega)) (fun r28 mem28 h28 => ?_)
    obtain ⟨rfl, hC28⟩ := CI.st hC0 h28
    refine x_pop d_La_number_31 rfl ?_
    refine x_vret rfl d_La_number_32 (Nat.zero_le _) (Nat.zero_le _) ?_
    exact ⟨rfl, rfl, rfl, hC28⟩
  · have h9 := nI_nle' (by omega) (by omega) c3
    have e : G.2.2.2 ++ numT n = (G.2.2.2 ++ [48 + n / 10]) ++ [48 + n % 10] := by
      unfold numT
      rw [if_pos h9, List.append_assoc]
    rw [e]
    refine x_aload_n d_La_number_6 rfl ?_
    refine x_bipush (v := nI 48) d_La_number_7 (by decide) ?_
    refine x_iload_n d_La_number_9 rfl ?_
    refine x_bipush (v := nI 10) d_La_number_10 (by decide) ?_
    refine x_idiv d_La_number_12 (by decide) ?_
    rw [pk_div (by omega) (by omega) (by omega)]
    refine x_iadd d_La_number_13 ?_
    rw [nI_add]
    refine x_i2c d_La_number_14 (i2c_at (by omega)) ?_
    refine x_v1i d_La_number_15 ml_La_30 v_Cc_type rfl ⟨rfl, rfl⟩ hL.io (Nat.le_of_ble_eq_true rfl) (ct_Cc_typeA hL hC0.1 (by omega) (by omega)) (fun r15 mem15 h15 => ?_)
    obtain ⟨rfl, hC15⟩ := CI.st hC0 h15
    refine x_pop d_La_number_18 rfl ?_
    refine x_aload_n d_La_number_19 rfl ?_
    refine x_bipush (v := nI 48) d_La_number_20 (by decide) ?_
    refine x_iload_n d_La_number_22 rfl ?_
    refine x_bipush (v := nI 10) d_La_number_23 (by decide) ?_
    refine x_irem d_La_number_25 (by decide) ?_
    rw [pk_rem (by omega) (by omega) (by omega)]
    refine x_iadd d_La_number_26 ?_
    rw [nI_add]
    refine x_i2c d_La_number_27 (i2c_at (by omega)) ?_
    refine x_v1i d_La_number_28 ml_La_30 v_Cc_type rfl ⟨rfl, rfl⟩ hL.io (Nat.le_of_ble_eq_true rfl) (ct_Cc_typeA hL hC15.1 (by omega) (by simp only [List.length_append, List.length_cons, List.length_nil]; omega)) (fun r28 mem28 h28 => ?_)
    obtain ⟨rfl, hC28⟩ := CI.st hC15 h28
    refine x_pop d_La_number_31 rfl ?_
    refine x_vret rfl d_La_number_32 (Nat.zero_le _) (Nat.zero_le _) ?_
    exact ⟨rfl, rfl, rfl, hC28⟩
theorem ct_La_read (hL : LayCc sh κ) (hC : CR mem κ G) {x : Int32} : Ct l g M_La_read [rf g κ, .int x] none sh mem (Ri none sh (CP κ mem (spRooms (G.1, G.2.1, G.2.2.1, txtT x)))) := by
  have hC0 : CI κ mem G mem := ⟨hC, Fr.rf⟩
  have l1 : lowN x 30 < 30 := lowN_lt (by omega)
  have l2 : lowN (shN x 5) 30 < 30 := lowN_lt (by omega)
  have l3 : lowN (shN x 2) 9 < 9 := lowN_lt (by omega)
  have l4 : lowN (shN x 7) 9 < 9 := lowN_lt (by omega)
  have l5 : lowN (shN x 11) 5 < 5 := lowN_lt (by omega)
  have l6 : lowN (shN x 9) 2 < 2 := lowN_lt (by omega)
  have n1 := numT_len (1 + lowN x 30)
  have n2 := numT_len (1 + lowN (shN x 5) 30)
  have n3 := numT_len (1 + lowN (shN x 2) 9)
  have n4 := numT_len (1 + lowN (shN x 7) 9)
  refine x_begin rfl rfl rfl (by decide) rfl ?_
  refine x_aload_n d_La_read_0 rfl ?_
  refine x_v0i d_La_read_1 ml_La_34 v_Cc_clearText rfl ⟨rfl, rfl⟩ hL.io (Nat.le_of_ble_eq_true rfl) (ct_Cc_clearText hL hC0.1) (fun r1 mem1 h1 => ?_)
  obtain ⟨rfl, hC1⟩ := CI.st hC0 h1
  refine x_pop d_La_read_4 rfl ?_
  refine x_aload_n d_La_read_5 rfl ?_
  refine x_iconst (v := nI 1) d_La_read_6 (by decide) ?_
  refine x_iload_n d_La_read_7 rfl ?_
  refine x_bipush (v := nI 30) d_La_read_8 (by decide) ?_
  refine x_s2p d_La_read_10 ml_La_38 v_La_low rfl ⟨rfl, rfl⟩ rfl (Nat.le_of_ble_eq_true rfl) (ct_La_low  (by omega) (by omega)) ?_
  refine x_iadd d_La_read_13 ?_
  rw [nI_add]
  refine x_s2v d_La_read_14 ml_La_43 v_La_number rfl ⟨rfl, rfl⟩ rfl (Nat.le_of_ble_eq_true rfl) (ct_La_number hL hC1.1 (by omega) (by simp only [List.length_nil]; omega)) (fun mem14 h14 => ?_)
  have hC14 := hC1.tr h14
  refine x_aload_n d_La_read_17 rfl ?_
  refine x_bipush (v := nI 120) d_La_read_18 (by decide) ?_
  refine x_v1i d_La_read_20 ml_La_30 v_Cc_type rfl ⟨rfl, rfl⟩ hL.io (Nat.le_of_ble_eq_true rfl) (ct_Cc_typeA hL hC14.1 (by omega) (by simp only [List.length_append, List.length_cons, List.length_nil]; omega)) (fun r20 mem20 h20 => ?_)
  obtain ⟨rfl, hC20⟩ := CI.st hC14 h20
  refine x_pop d_La_read_23 rfl ?_
  refine x_aload_n d_La_read_24 rfl ?_
  refine x_iconst (v := nI 1) d_La_read_25 (by decide) ?_
  refine x_iload_n d_La_read_26 rfl ?_
  refine x_iconst (v := nI 5) d_La_read_27 (by decide) ?_
  refine x_ishrN d_La_read_28 ?_
  refine x_bipush (v := nI 30) d_La_read_29 (by decide) ?_
  refine x_s2p d_La_read_31 ml_La_38 v_La_low rfl ⟨rfl, rfl⟩ rfl (Nat.le_of_ble_eq_true rfl) (ct_La_low  (by omega) (by omega)) ?_
  refine x_iadd d_La_read_34 ?_
  rw [nI_add]
  refine x_s2v d_La_read_35 ml_La_43 v_La_number rfl ⟨rfl, rfl⟩ rfl (Nat.le_of_ble_eq_true rfl) (ct_La_number hL hC20.1 (by omega) (by simp only [List.length_append, List.length_cons, List.length_nil]; omega)) (fun mem35 h35 => ?_)
  have hC35 := hC20.tr h35
  refine x_iload_n d_La_read_38 rfl ?_
  refine x_bipush (v := nI 9) d_La_read_39 (by decide) ?_
  refine x_ishrN d_La_read_41 ?_
  refine x_iconst (v := nI 2) d_La_read_42 (by decide) ?_
  refine x_s2p d_La_read_43 ml_La_38 v_La_low rfl ⟨rfl, rfl⟩ rfl (Nat.le_of_ble_eq_true rfl) (ct_La_low  (by omega) (by omega)) ?_
  refine x_if_ne (tgt := 92) d_La_read_46 (by decide) (fun c46 => ?_) (fun c46 => ?_)
  · have e : txtB x = txtA x := if_neg (fun z => c46 (by rw [z]; rfl))
    refine x_aload_n d_La_read_92 rfl ?_
    refine x_bipush (v := nI 64) d_La_read_93 (by decide) ?_
    refine x_v1i d_La_read_95 ml_La_30 v_Cc_type rfl ⟨rfl, rfl⟩ hL.io (Nat.le_of_ble_eq_true rfl) (ct_Cc_typeA hL hC35.1 (by omega) (by simp only [List.length_append, List.length_cons, List.length_nil]; omega)) (fun r95 mem95 h95 => ?_)
    obtain ⟨rfl, hC95⟩ := CI.st hC35 h95
    refine x_pop d_La_read_98 rfl ?_
    refine x_aload_n d_La_read_99 rfl ?_
    refine x_bipush (v := nI 48) d_La_read_100 (by decide) ?_
    refine x_iload_n d_La_read_102 rfl ?_
    refine x_bipush (v := nI 11) d_La_read_103 (by decide) ?_
    refine x_ishrN d_La_read_105 ?_
    refine x_iconst (v := nI 5) d_La_read_106 (by decide) ?_
    refine x_s2p d_La_read_107 ml_La_38 v_La_low rfl ⟨rfl, rfl⟩ rfl (Nat.le_of_ble_eq_true rfl) (ct_La_low  (by omega) (by omega)) ?_
    refine x_iadd d_La_read_110 ?_
    rw [nI_add]
    refine x_i2c d_La_read_111 (i2c_at (by omega)) ?_
    refine x_v1i d_La_read_112 ml_La_30 v_Cc_type rfl ⟨rfl, rfl⟩ hL.io (Nat.le_of_ble_eq_true rfl) (ct_Cc_typeA hL hC95.1 (by omega) (by simp only [List.length_append, List.length_cons, List.length_nil]; omega)) (fun r112 mem112 h112 => ?_)
    obtain ⟨rfl, hC112⟩ := CI.st hC95 h112
    refine x_pop d_La_read_115 rfl ?_
    refine x_aload_n d_La_read_116 rfl ?_
    refine x_v0i d_La_read_117 ml_La_47 v_Cc_rooms rfl ⟨rfl, rfl⟩ hL.io (Nat.le_of_ble_eq_true rfl) (ct_Cc_rooms hL hC112.1) (fun r117 mem117 h117 => ?_)
    obtain ⟨rfl, hC117⟩ := CI.act hC112 h117
    refine x_iret rfl rfl d_La_read_120 (Nat.zero_le _) (Nat.zero_le _) ?_
    refine ⟨_, rfl, rfl, rfl, ?_⟩
    unfold txtT
    rw [e]
    exact ⟨rfl, hC117.1, hC117.2⟩
  · have e : txtB x = txtA x ++ [43] ++ numT (1 + lowN (shN x 2) 9) ++ [120] ++ numT (1 + lowN (shN x 7) 9) := if_pos (nI_eq' (a := lowN (shN x 9) 2) (b := 0) (by omega) (by omega) c46)
    refine x_aload_n d_La_read_49 rfl ?_
    refine x_bipush (v := nI 43) d_La_read_50 (by decide) ?_
    refine x_v1i d_La_read_52 ml_La_30 v_Cc_type rfl ⟨rfl, rfl⟩ hL.io (Nat.le_of_ble_eq_true rfl) (ct_Cc_typeA hL hC35.1 (by omega) (by simp only [List.length_append, List.length_cons, List.length_nil]; omega)) (fun r52 mem52 h52 => ?_)
    obtain ⟨rfl, hC52⟩ := CI.st hC35 h52
    refine x_pop d_La_read_55 rfl ?_
    refine x_aload_n d_La_read_56 rfl ?_
    refine x_iconst (v := nI 1) d_La_read_57 (by decide) ?_
    refine x_iload_n d_La_read_58 rfl ?_
    refine x_iconst (v := nI 2) d_La_read_59 (by decide) ?_
    refine x_ishrN d_La_read_60 ?_
    refine x_bipush (v := nI 9) d_La_read_61 (by decide) ?_
    refine x_s2p d_La_read_63 ml_La_38 v_La_low rfl ⟨rfl, rfl⟩ rfl (Nat.le_of_ble_eq_true rfl) (ct_La_low  (by omega) (by omega)) ?_
    refine x_iadd d_La_read_66 ?_
    rw [nI_add]
    refine x_s2v d_La_read_67 ml_La_43 v_La_number rfl ⟨rfl, rfl⟩ rfl (Nat.le_of_ble_eq_true rfl) (ct_La_number hL hC52.1 (by omega) (by simp only [List.length_append, List.length_cons, List.length_nil]; omega)) (fun mem67 h67 => ?_)
    have hC67 := hC52.tr h67
    refine x_aload_n d_La_read_70 rfl ?_
    refine x_bipush (v := nI 120) d_La_read_71 (by decide) ?_
    refine x_v1i d_La_read_73 ml_La_30 v_Cc_type rfl ⟨rfl, rfl⟩ hL.io (Nat.le_of_ble_eq_true rfl) (ct_Cc_typeA hL hC67.1 (by omega) (by simp only [List.length_append, List.length_cons, List.length_nil]; omega)) (fun r73 mem73 h73 => ?_)
    obtain ⟨rfl, hC73⟩ := CI.st hC67 h73
    refine x_pop d_La_read_76 rfl ?_
    refine x_aload_n d_La_read_77 rfl ?_
    refine x_iconst (v := nI 1) d_La_read_78 (by decide) ?_
    refine x_iload_n d_La_read_79 rfl ?_
    refine x_bipush (v := nI 7) d_La_read_80 (by decide) ?_
    refine x_ishrN d_La_read_82 ?_
    refine x_bipush (v := nI 9) d_La_read_83 (by decide) ?_
    refine x_s2p d_La_read_85 ml_La_38 v_La_low rfl ⟨rfl, rfl⟩ rfl (Nat.le_of_ble_eq_true rfl) (ct_La_low  (by omega) (by omega)) ?_
    refine x_iadd d_La_read_88 ?_
    rw [nI_add]
    refine x_s2v d_La_read_89 ml_La_43 v_La_number rfl ⟨rfl, rfl⟩ rfl (Nat.le_of_ble_eq_true rfl) (ct_La_number hL hC73.1 (by omega) (by simp only [List.length_append, List.length_cons, List.length_nil]; omega)) (fun mem89 h89 => ?_)
    have hC89 := hC73.tr h89
    refine x_aload_n d_La_read_92 rfl ?_
    refine x_bipush (v := nI 64) d_La_read_93 (by decide) ?_
    refine x_v1i d_La_read_95 ml_La_30 v_Cc_type rfl ⟨rfl, rfl⟩ hL.io (Nat.le_of_ble_eq_true rfl) (ct_Cc_typeA hL hC89.1 (by omega) (by simp only [List.length_append, List.length_cons, List.length_nil]; omega)) (fun r95 mem95 h95 => ?_)
    obtain ⟨rfl, hC95⟩ := CI.st hC89 h95
    refine x_pop d_La_read_98 rfl ?_
    refine x_aload_n d_La_read_99 rfl ?_
    refine x_bipush (v := nI 48) d_La_read_100 (by decide) ?_
    refine x_iload_n d_La_read_102 rfl ?_
    refine x_bipush (v := nI 11) d_La_read_103 (by decide) ?_
    refine x_ishrN d_La_read_105 ?_
    refine x_iconst (v := nI 5) d_La_read_106 (by decide) ?_
    refine x_s2p d_La_read_107 ml_La_38 v_La_low rfl ⟨rfl, rfl⟩ rfl (Nat.le_of_ble_eq_true rfl) (ct_La_low  (by omega) (by omega)) ?_
    refine x_iadd d_La_read_110 ?_
    rw [nI_add]
    refine x_i2c d_La_read_111 (i2c_at (by omega)) ?_
    refine x_v1i d_La_read_112 ml_La_30 v_Cc_type rfl ⟨rfl, rfl⟩ hL.io (Nat.le_of_ble_eq_true rfl) (ct_Cc_typeA hL hC95.1 (by omega) (by simp only [List.length_append, List.length_cons, List.length_nil]; omega)) (fun r112 mem112 h112 => ?_)
    obtain ⟨rfl, hC112⟩ := CI.st hC95 h112
    refine x_pop d_La_read_115 rfl ?_
    refine x_aload_n d_La_read_116 rfl ?_
    refine x_v0i d_La_read_117 ml_La_47 v_Cc_rooms rfl ⟨rfl, rfl⟩ hL.io (Nat.le_of_ble_eq_true rfl) (ct_Cc_rooms hL hC112.1) (fun r117 mem117 h117 => ?_)
    obtain ⟨rfl, hC117⟩ := CI.act hC112 h117
    refine x_iret rfl rfl d_La_read_120 (Nat.zero_le _) (Nat.zero_le _) ?_
    refine ⟨_, rfl, rfl, rfl, ?_⟩
    unfold txtT
    rw [e]
    exact ⟨rfl, hC117.1, hC117.2⟩
end
