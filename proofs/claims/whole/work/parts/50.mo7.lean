/-! the reference: roll, type, restore -/
section
variable {l : Launch} {g : XG} {sh : Nat → Sh} {mem : Mem} {μ : Nat} {G : GS}
theorem ct_Mo_roll (hM : LayMo sh μ) (hC : MR mem μ G) {k w len p : Int32} : Ct l g M_Mo_roll [rf g μ, .int k, .int w, .int len, .int p] none sh mem (Ri none sh (MP μ mem (spRoll G k w len p))) := by
  obtain ⟨hI, hn, hh, ht, hs⟩ := id hC
  have h12 := hI.1.1
  refine x_begin rfl rfl rfl (by decide) rfl ?_
  have no : ¬ ((inI k 0 9 ∧ inI w 5 60) ∧ inI len 1 999 ∧ inI p 0 99) → spRoll G k w len p = (-2, G) := fun z => if_neg z
  refine x_iload_n d_Mo_roll_0 rfl ?_
  refine x_iconst (v := nI 0) d_Mo_roll_1 (by decide) ?_
  refine x_bipush (v := nI 9) d_Mo_roll_2 (by decide) ?_
  refine x_s3p d_Mo_roll_4 ml_Mo_35 v_Mo_in rfl ⟨rfl, rfl⟩ rfl (Nat.le_of_ble_eq_true rfl) (ct_Mo_in) ?_
  refine x_if_eq (tgt := 42) d_Mo_roll_7 (by decide) (fun c7 => ?_) (fun c7 => ?_)
  · rw [no (fun z => bI_0.mp c7 z.1.1)]
    refine x_bipush (v := -2) d_Mo_roll_42 (by decide) ?_
    refine x_iret rfl rfl d_Mo_roll_44 (Nat.zero_le _) (Nat.zero_le _) ?_
    exact ⟨_, rfl, rfl, rfl, rfl, hC, Fr.rf⟩
  · refine x_iload_n d_Mo_roll_10 rfl ?_
    refine x_iconst (v := nI 5) d_Mo_roll_11 (by decide) ?_
    refine x_bipush (v := nI 60) d_Mo_roll_12 (by decide) ?_
    refine x_s3p d_Mo_roll_14 ml_Mo_35 v_Mo_in rfl ⟨rfl, rfl⟩ rfl (Nat.le_of_ble_eq_true rfl) (ct_Mo_in) ?_
    refine x_if_eq (tgt := 42) d_Mo_roll_17 (by decide) (fun c17 => ?_) (fun c17 => ?_)
    · rw [no (fun z => bI_0.mp c17 z.1.2)]
      refine x_bipush (v := -2) d_Mo_roll_42 (by decide) ?_
      refine x_iret rfl rfl d_Mo_roll_44 (Nat.zero_le _) (Nat.zero_le _) ?_
      exact ⟨_, rfl, rfl, rfl, rfl, hC, Fr.rf⟩
    · refine x_iload_n d_Mo_roll_20 rfl ?_
      refine x_iconst (v := nI 1) d_Mo_roll_21 (by decide) ?_
      refine x_sipush (v := nI 999) d_Mo_roll_22 (by decide) ?_
      refine x_s3p d_Mo_roll_25 ml_Mo_35 v_Mo_in rfl ⟨rfl, rfl⟩ rfl (Nat.le_of_ble_eq_true rfl) (ct_Mo_in) ?_
      refine x_if_eq (tgt := 42) d_Mo_roll_28 (by decide) (fun c28 => ?_) (fun c28 => ?_)
      · rw [no (fun z => bI_0.mp c28 z.2.1)]
        refine x_bipush (v := -2) d_Mo_roll_42 (by decide) ?_
        refine x_iret rfl rfl d_Mo_roll_44 (Nat.zero_le _) (Nat.zero_le _) ?_
        exact ⟨_, rfl, rfl, rfl, rfl, hC, Fr.rf⟩
      · refine x_iload d_Mo_roll_31 rfl ?_
        refine x_iconst (v := nI 0) d_Mo_roll_33 (by decide) ?_
        refine x_bipush (v := nI 99) d_Mo_roll_34 (by decide) ?_
        refine x_s3p d_Mo_roll_36 ml_Mo_35 v_Mo_in rfl ⟨rfl, rfl⟩ rfl (Nat.le_of_ble_eq_true rfl) (ct_Mo_in) ?_
        refine x_if_ne (tgt := 45) d_Mo_roll_39 (by decide) (fun c39 => ?_) (fun c39 => ?_)
        · have yes : ((inI k 0 9 ∧ inI w 5 60) ∧ inI len 1 999 ∧ inI p 0 99) := ⟨⟨bI_n.mp c7, bI_n.mp c17⟩, bI_n.mp c28, bI_n.mp c39⟩
          rw [show spRoll G k w len p = if 12 ≤ G.1 0 then (-3, G) else (nI (G.1 0), actG G (rollS G.1 (tN k) (tN w) (tN len) (tN p))) from if_pos yes]
          obtain ⟨⟨y1, y2⟩, y3, y4⟩ := yes
          obtain ⟨k, q1, rfl⟩ := inI_of (by omega) (by omega) y1
          obtain ⟨w, q2, rfl⟩ := inI_of (by omega) (by omega) y2
          obtain ⟨len, q3, rfl⟩ := inI_of (by omega) (by omega) y3
          obtain ⟨p, q4, rfl⟩ := inI_of (by omega) (by omega) y4
          rw [tN_nI (by omega), tN_nI (by omega), tN_nI (by omega), tN_nI (by omega)]
          refine x_aload_n d_Mo_roll_45 rfl ?_
          refine x_getR hM.f0 rfl fs_Mo_7 d_Mo_roll_46 ?_
          refine x_iconst (v := nI 0) d_Mo_roll_49 (by decide) ?_
          refine x_iald hM.f1 (vp_in_nI (by omega) (by omega)) d_Mo_roll_50 ?_
          rw [nI_clamp (by omega), hn _ (by omega)]
          refine x_bipush (v := nI 12) d_Mo_roll_51 (by decide) ?_
          refine x_icmp_ne (tgt := 59) d_Mo_roll_53 (by decide) (fun c53 => ?_) (fun c53 => ?_)
          · have c53 := nI_ne' c53
            rw [if_neg (by omega)]
            refine x_aload_n d_Mo_roll_59 rfl ?_
            refine x_v0v d_Mo_roll_60 ml_Mo_126 v_Mo_record rfl ⟨rfl, rfl⟩ hM.io (Nat.le_of_ble_eq_true rfl) (ct_Mo_record hM hn hI hh) (fun mem60 h60 => ?_)
            obtain ⟨f60, g60, hh60⟩ := h60
            have n0 : NowR mem60 (μ + 1) G.1 := hn.mv (f60 _ (by omega) (by omega))
            refine x_aload_n d_Mo_roll_63 rfl ?_
            refine x_getR hM.f0 rfl fs_Mo_7 d_Mo_roll_64 ?_
            refine x_iconst (v := nI 0) d_Mo_roll_67 (by decide) ?_
            refine x_iald hM.f1 (vp_in_nI (by omega) (by omega)) d_Mo_roll_68 ?_
            rw [nI_clamp (by omega), n0 _ (by omega)]
            refine x_istore d_Mo_roll_69 (by decide) ?_
            refine x_aload_n d_Mo_roll_71 rfl ?_
            refine x_getR hM.f0 rfl fs_Mo_7 d_Mo_roll_72 ?_
            refine x_iconst (v := nI 0) d_Mo_roll_75 (by decide) ?_
            refine x_dup2 d_Mo_roll_76 rfl rfl ?_
            refine x_iald hM.f1 (vp_in_nI (by omega) (by omega)) d_Mo_roll_77 ?_
            rw [nI_clamp (by omega), n0 _ (by omega)]
            refine x_iconst (v := nI 1) d_Mo_roll_78 (by decide) ?_
            refine x_iadd d_Mo_roll_79 ?_
            rw [nI_add]
            refine x_iast hM.f1 (vp_in_nI (by omega) (by omega)) d_Mo_roll_80 ?_
            rw [nI_clamp (by omega)]
            have n1 := n0.up (j := 0) (v := nI (G.1 0 + 1)) rfl
            refine x_aload_n d_Mo_roll_81 rfl ?_
            refine x_iload d_Mo_roll_82 rfl ?_
            refine x_iconst (v := nI 0) d_Mo_roll_84 (by decide) ?_
            refine x_iload_n d_Mo_roll_85 rfl ?_
            refine x_v3v d_Mo_roll_86 ml_Mo_50 v_Mo_add rfl ⟨rfl, rfl⟩ hM.io (Nat.le_of_ble_eq_true rfl) (ct_Mo_add hM n1 (by omega) (by omega)) (fun _ hE => ?_)
            subst hE
            have e2 : ro (un G.1 0 (G.1 0 + 1)) (G.1 0) 0 = ro G.1 (G.1 0) 0 := un_ne _ _ (by omega)
            rw [e2]
            have n2 := n1.up (j := 9 + 7 * G.1 0 + 0) (nI_add (ro G.1 (G.1 0) 0) k)
            refine x_aload_n d_Mo_roll_89 rfl ?_
            refine x_iload d_Mo_roll_90 rfl ?_
            refine x_iconst (v := nI 1) d_Mo_roll_92 (by decide) ?_
            refine x_iload_n d_Mo_roll_93 rfl ?_
            refine x_v3v d_Mo_roll_94 ml_Mo_50 v_Mo_add rfl ⟨rfl, rfl⟩ hM.io (Nat.le_of_ble_eq_true rfl) (ct_Mo_add hM n2 (by omega) (by omega)) (fun _ hE => ?_)
            subst hE
            have e3 : ro (un (un G.1 0 (G.1 0 + 1)) (9 + 7 * G.1 0 + 0) (ro G.1 (G.1 0) 0 + k)) (G.1 0) 1 = ro G.1 (G.1 0) 1 := (un_ne _ _ (by omega)).trans (un_ne _ _ (by omega))
            rw [e3]
            have n3 := n2.up (j := 9 + 7 * G.1 0 + 1) (nI_add (ro G.1 (G.1 0) 1) w)
            refine x_aload_n d_Mo_roll_97 rfl ?_
            refine x_iload d_Mo_roll_98 rfl ?_
            refine x_iconst (v := nI 2) d_Mo_roll_100 (by decide) ?_
            refine x_iload_n d_Mo_roll_101 rfl ?_
            refine x_v3v d_Mo_roll_102 ml_Mo_50 v_Mo_add rfl ⟨rfl, rfl⟩ hM.io (Nat.le_of_ble_eq_true rfl) (ct_Mo_add hM n3 (by omega) (by omega)) (fun _ hE => ?_)
            subst hE
            have e4 : ro (un (un (un G.1 0 (G.1 0 + 1)) (9 + 7 * G.1 0 + 0) (ro G.1 (G.1 0) 0 + k)) (9 + 7 * G.1 0 + 1) (ro G.1 (G.1 0) 1 + w)) (G.1 0) 2 = ro G.1 (G.1 0) 2 := (un_ne _ _ (by omega)).trans ((un_ne _ _ (by omega)).trans (un_ne _ _ (by omega)))
            rw [e4]
            have n4 := n3.up (j := 9 + 7 * G.1 0 + 2) (nI_add (ro G.1 (G.1 0) 2) len)
            refine x_aload_n d_Mo_roll_105 rfl ?_
            refine x_iload d_Mo_roll_106 rfl ?_
            refine x_iconst (v := nI 3) d_Mo_roll_108 (by decide) ?_
            refine x_iload d_Mo_roll_109 rfl ?_
            refine x_v3v d_Mo_roll_111 ml_Mo_50 v_Mo_add rfl ⟨rfl, rfl⟩ hM.io (Nat.le_of_ble_eq_true rfl) (ct_Mo_add hM n4 (by omega) (by omega)) (fun _ hE => ?_)
            subst hE
            have e5 : ro (un (un (un (un G.1 0 (G.1 0 + 1)) (9 + 7 * G.1 0 + 0) (ro G.1 (G.1 0) 0 + k)) (9 + 7 * G.1 0 + 1) (ro G.1 (G.1 0) 1 + w)) (9 + 7 * G.1 0 + 2) (ro G.1 (G.1 0) 2 + len)) (G.1 0) 3 = ro G.1 (G.1 0) 3 := (un_ne _ _ (by omega)).trans ((un_ne _ _ (by omega)).trans ((un_ne _ _ (by omega)).trans (un_ne _ _ (by omega))))
            rw [e5]
            have n5 := n4.up (j := 9 + 7 * G.1 0 + 3) (nI_add (ro G.1 (G.1 0) 3) p)
            refine x_aload_n d_Mo_roll_114 rfl ?_
            refine x_iload d_Mo_roll_115 rfl ?_
            refine x_iconst (v := nI 4) d_Mo_roll_117 (by decide) ?_
            refine x_iload_n d_Mo_roll_118 rfl ?_
            refine x_v3v d_Mo_roll_119 ml_Mo_50 v_Mo_add rfl ⟨rfl, rfl⟩ hM.io (Nat.le_of_ble_eq_true rfl) (ct_Mo_add hM n5 (by omega) (by omega)) (fun _ hE => ?_)
            subst hE
            have e6 : ro (un (un (un (un (un G.1 0 (G.1 0 + 1)) (9 + 7 * G.1 0 + 0) (ro G.1 (G.1 0) 0 + k)) (9 + 7 * G.1 0 + 1) (ro G.1 (G.1 0) 1 + w)) (9 + 7 * G.1 0 + 2) (ro G.1 (G.1 0) 2 + len)) (9 + 7 * G.1 0 + 3) (ro G.1 (G.1 0) 3 + p)) (G.1 0) 4 = ro G.1 (G.1 0) 4 := (un_ne _ _ (by omega)).trans ((un_ne _ _ (by omega)).trans ((un_ne _ _ (by omega)).trans ((un_ne _ _ (by omega)).trans (un_ne _ _ (by omega)))))
            rw [e6]
            have n6 := n5.up (j := 9 + 7 * G.1 0 + 4) (nI_add (ro G.1 (G.1 0) 4) len)
            refine x_iload d_Mo_roll_122 rfl ?_
            refine x_iret rfl rfl d_Mo_roll_124 (Nat.zero_le _) (Nat.zero_le _) ?_
            exact ⟨_, rfl, rfl, rfl, rfl, hC.acted f60 g60 hh60 ((F1.um.tr (F1.um.tr (F1.um.tr (F1.um.tr (F1.um.tr F1.um))))).fn) (rollS_inv hI (by omega) q1.2 q2 q3 q4.2) n6⟩
          · have c53 := nI_eq' (by omega) (by omega) c53
            rw [if_pos (by omega)]
            refine x_bipush (v := -3) d_Mo_roll_56 (by decide) ?_
            refine x_iret rfl rfl d_Mo_roll_58 (Nat.zero_le _) (Nat.zero_le _) ?_
            exact ⟨_, rfl, rfl, rfl, rfl, hC, Fr.rf⟩
        · rw [no (fun z => bI_0.mp c39 z.2.2)]
          refine x_bipush (v := -2) d_Mo_roll_42 (by decide) ?_
          refine x_iret rfl rfl d_Mo_roll_44 (Nat.zero_le _) (Nat.zero_le _) ?_
          exact ⟨_, rfl, rfl, rfl, rfl, hC, Fr.rf⟩
theorem ct_Mo_restore (hM : LayMo sh μ) (hC : MR mem μ G) : Ct l g M_Mo_restore [rf g μ] none sh mem (Ri none sh (MP μ mem (spRestore G))) := by
  obtain ⟨hI, hn, hh, ht, hs⟩ := id hC
  refine x_begin rfl rfl rfl (by decide) rfl ?_
  cases hS : G.2.2.1 with
  | none =>
    rw [hS] at hs
    have hs : mem μ 10 = nI 0 := hs
    rw [show spRestore G = (-5, G) by unfold spRestore; rw [hS]]
    refine x_aload_n d_Mo_restore_0 rfl ?_
    refine x_getI hM.f0 rfl fs_Mo_187 d_Mo_restore_1 ?_
    rw [hs]
    refine x_if_ne (tgt := 10) d_Mo_restore_4 (by decide) (fun c4 => ?_) (fun c4 => ?_)
    · exact absurd rfl c4
    · refine x_bipush (v := -5) d_Mo_restore_7 (by decide) ?_
      refine x_iret rfl rfl d_Mo_restore_9 (Nat.zero_le _) (Nat.zero_le _) ?_
      exact ⟨_, rfl, rfl, rfl, rfl, hC, Fr.rf⟩
  | some S =>
    rw [hS] at hs
    obtain ⟨s1, s2, s3⟩ : mem μ 10 = nI 1 ∧ Inv S ∧ NowR mem (μ + 2) S := hs
    rw [show spRestore G = (nI (S 2), actG G S) by unfold spRestore; rw [hS]]
    refine x_aload_n d_Mo_restore_0 rfl ?_
    refine x_getI hM.f0 rfl fs_Mo_187 d_Mo_restore_1 ?_
    rw [s1]
    refine x_if_ne (tgt := 10) d_Mo_restore_4 (by decide) (fun c4 => ?_) (fun c4 => ?_)
    · refine x_aload_n d_Mo_restore_10 rfl ?_
      refine x_v0v d_Mo_restore_11 ml_Mo_126 v_Mo_record rfl ⟨rfl, rfl⟩ hM.io (Nat.le_of_ble_eq_true rfl) (ct_Mo_record hM hn hI hh) (fun mem11 h11 => ?_)
      obtain ⟨f11, g11, hh11⟩ := h11
      refine x_iconst (v := nI 0) d_Mo_restore_14 (by decide) ?_
      refine x_istore_n d_Mo_restore_15 (by decide) ?_
      refine up_ind 1953 (P := fun j => ∀ (m : Mem), F1 μ mem11 m → (∀ x, x < j → m (μ + 1) x = nI (S x)) → X l g M_Mo_restore (XF g (Ri none sh (MP μ mem (nI (S 2), actG G S))) M_Mo_restore) 16 [some (rf g μ), some (.int (nI j))] [] none sh m 0 0) (fun j hj ih m hm hx => ?_) 0 (Nat.zero_le _) mem11 F1.rf (fun x hx => absurd hx (by omega))
      refine x_iload_n d_Mo_restore_16 rfl ?_
      refine x_sipush (v := nI 1953) d_Mo_restore_17 (by decide) ?_
      refine x_icmp_ge (tgt := 41) d_Mo_restore_20 (by decide) (fun c20 => ?_) (fun c20 => ?_)
      · have hj2 : j = 1953 := by have := nI_le' (by omega) (by omega) c20; omega
        subst hj2
        refine x_aload_n d_Mo_restore_41 rfl ?_
        refine x_getR hM.f0 rfl fs_Mo_7 d_Mo_restore_42 ?_
        refine x_iconst (v := nI 2) d_Mo_restore_45 (by decide) ?_
        refine x_iald hM.f1 (vp_in_nI (by omega) (by omega)) d_Mo_restore_46 ?_
        rw [nI_clamp (by omega), hx 2 (by omega)]
        refine x_iret rfl rfl d_Mo_restore_47 (Nat.zero_le _) (Nat.zero_le _) ?_
        exact ⟨_, rfl, rfl, rfl, rfl, hC.acted f11 g11 hh11 hm.fn s2 (fun x hx2 => hx x hx2)⟩
      · have hj2 : j < 1953 := nI_nle' (by omega) (by omega) c20
        refine x_aload_n d_Mo_restore_23 rfl ?_
        refine x_getR hM.f0 rfl fs_Mo_7 d_Mo_restore_24 ?_
        refine x_iload_n d_Mo_restore_27 rfl ?_
        refine x_aload_n d_Mo_restore_28 rfl ?_
        refine x_getR hM.f0 rfl fs_Mo_13 d_Mo_restore_29 ?_
        refine x_iload_n d_Mo_restore_32 rfl ?_
        refine x_iald hM.f2 (vp_in_nI (by omega) (by omega)) d_Mo_restore_33 ?_
        rw [nI_clamp (by omega), hm _ (by omega), f11 _ (by omega) (by omega), s3 _ (by omega)]
        refine x_iast hM.f1 (vp_in_nI (by omega) (by omega)) d_Mo_restore_34 ?_
        rw [nI_clamp (by omega)]
        refine x_iinc d_Mo_restore_35 rfl (by first | exact inc1 _ | rfl) (by decide) ?_
        refine x_goto (tgt := 16) d_Mo_restore_38 (by decide) ?_
        exact ih hj2 _ (hm.tr F1.um) (fun x hx2 => by by_cases h : x = j; (· rw [h, um_eq]); (· rw [um_k _ _ h]; exact hx x (by omega)))
    · exact absurd c4 (by decide)
end
