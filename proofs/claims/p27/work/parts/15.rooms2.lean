/-! Rooms: counts, sources, copies; Rolls -/
def roApp (mem : Mem) (ρ c : Nat) (a b d e : Int32) : Mem := um (um (um (um (um (um mem (ρ + 2) c a) (ρ + 4) c b) (ρ + 6) c d) (ρ + 8) c e) (ρ + 10) c (b * d)) ρ 0 (nI (c + 1))
def cpRo (mem : Mem) (a b : Nat) : Mem := cpm (cpm (cpm (cpm (cpm (cpm (cpm (cpm (um mem b 0 (mem a 0)) (a + 2) (b + 2) 12) (a + 4) (b + 4) 12) (a + 6) (b + 6) 12) (a + 8) (b + 8) 12) (a + 10) (b + 10) 12) (a + 12) (b + 12) 12) (a + 14) (b + 14) 12) (a + 16) (b + 16) 12
def cpRm (mem : Mem) (a b : Nat) : Mem := cpm (cpm (cpm (cpm (cpm (cpm (cpm (cpm (cpm (um mem b 0 (mem a 0)) (a + 2) (b + 2) 20) (a + 4) (b + 4) 60) (a + 6) (b + 6) 60) (a + 8) (b + 8) 20) (a + 10) (b + 10) 20) (a + 12) (b + 12) 20) (a + 14) (b + 14) 20) (a + 16) (b + 16) 20) (a + 18) (b + 18) 720
section
variable {l : Launch} {g : XG} {sh : Nat → Sh} {mem : Mem} {ρ : Nat}
theorem ct_Ro_append (hO : LayRo sh ρ) {c : Nat} {a b d e : Int32} (hc : mem ρ 0 = nI c) (hc2 : c < 12) : Ct l g M_Ro_append [rf g ρ, .int a, .int b, .int d, .int e] none sh mem (Ri none sh (fun x m => x = nI c ∧ m = roApp mem ρ c a b d e)) := by
  refine x_begin rfl rfl rfl (by decide) rfl ?_
  refine x_aload_n d_Ro_append_0 rfl ?_
  refine x_getI hO.f0 rfl fs_Ro_41 d_Ro_append_1 ?_
  rw [hc]
  refine x_istore d_Ro_append_4 (by decide) ?_
  refine x_aload_n d_Ro_append_6 rfl ?_
  refine x_getR hO.f0 rfl fs_Ro_14 d_Ro_append_7 ?_
  refine x_iload d_Ro_append_10 rfl ?_
  refine x_iload_n d_Ro_append_12 rfl ?_
  refine x_v2v d_Ro_append_13 ml_Ro_45 v_Rw_put rfl ⟨rfl, rfl⟩ (row_io hO.f1) (Nat.le_of_ble_eq_true rfl) (ct_Rw_put hO.f1 hO.f2 (by omega)) (fun _ hE => ?_)
  subst hE
  refine x_aload_n d_Ro_append_16 rfl ?_
  refine x_getR hO.f0 rfl fs_Ro_20 d_Ro_append_17 ?_
  refine x_iload d_Ro_append_20 rfl ?_
  refine x_iload_n d_Ro_append_22 rfl ?_
  refine x_v2v d_Ro_append_23 ml_Ro_45 v_Rw_put rfl ⟨rfl, rfl⟩ (row_io hO.f3) (Nat.le_of_ble_eq_true rfl) (ct_Rw_put hO.f3 hO.f4 (by omega)) (fun _ hE => ?_)
  subst hE
  refine x_aload_n d_Ro_append_26 rfl ?_
  refine x_getR hO.f0 rfl fs_Ro_23 d_Ro_append_27 ?_
  refine x_iload d_Ro_append_30 rfl ?_
  refine x_iload_n d_Ro_append_32 rfl ?_
  refine x_v2v d_Ro_append_33 ml_Ro_45 v_Rw_put rfl ⟨rfl, rfl⟩ (row_io hO.f5) (Nat.le_of_ble_eq_true rfl) (ct_Rw_put hO.f5 hO.f6 (by omega)) (fun _ hE => ?_)
  subst hE
  refine x_aload_n d_Ro_append_36 rfl ?_
  refine x_getR hO.f0 rfl fs_Ro_26 d_Ro_append_37 ?_
  refine x_iload d_Ro_append_40 rfl ?_
  refine x_iload d_Ro_append_42 rfl ?_
  refine x_v2v d_Ro_append_44 ml_Ro_45 v_Rw_put rfl ⟨rfl, rfl⟩ (row_io hO.f7) (Nat.le_of_ble_eq_true rfl) (ct_Rw_put hO.f7 hO.f8 (by omega)) (fun _ hE => ?_)
  subst hE
  refine x_aload_n d_Ro_append_47 rfl ?_
  refine x_getR hO.f0 rfl fs_Ro_29 d_Ro_append_48 ?_
  refine x_iload d_Ro_append_51 rfl ?_
  refine x_iload_n d_Ro_append_53 rfl ?_
  refine x_iload_n d_Ro_append_54 rfl ?_
  refine x_imul d_Ro_append_55 ?_
  refine x_v2v d_Ro_append_56 ml_Ro_45 v_Rw_put rfl ⟨rfl, rfl⟩ (row_io hO.f9) (Nat.le_of_ble_eq_true rfl) (ct_Rw_put hO.f9 hO.f10 (by omega)) (fun _ hE => ?_)
  subst hE
  refine x_aload_n d_Ro_append_59 rfl ?_
  refine x_dup d_Ro_append_60 rfl ?_
  refine x_getI hO.f0 rfl fs_Ro_41 d_Ro_append_61 ?_
  rw [um_o _ _ (show ρ ≠ ρ + 10 by omega), um_o _ _ (show ρ ≠ ρ + 8 by omega), um_o _ _ (show ρ ≠ ρ + 6 by omega), um_o _ _ (show ρ ≠ ρ + 4 by omega), um_o _ _ (show ρ ≠ ρ + 2 by omega), hc]
  refine x_iconst (v := nI 1) d_Ro_append_64 (by decide) ?_
  refine x_iadd d_Ro_append_65 ?_
  rw [nI_add]
  refine x_putI hO.f0 rfl ps_Ro_41 rfl rfl d_Ro_append_66 ?_
  refine x_iload d_Ro_append_69 rfl ?_
  refine x_iret rfl rfl d_Ro_append_71 (Nat.zero_le _) (Nat.zero_le _) ?_
  exact ⟨_, rfl, rfl, rfl, rfl, rfl⟩
theorem ct_Ro_copyFrom {α : Nat} (hO : LayRo sh ρ) (hA : LayRo sh α) : Ct l g M_Ro_copyFrom [rf g ρ, rf g α] none sh mem (Rv none sh (fun m => m = cpRo mem α ρ)) := by
  refine x_begin rfl rfl rfl (by decide) rfl ?_
  refine x_aload_n d_Ro_copyFrom_0 rfl ?_
  refine x_aload_n d_Ro_copyFrom_1 rfl ?_
  refine x_getI hA.f0 rfl fs_Ro_41 d_Ro_copyFrom_2 ?_
  refine x_putI hO.f0 rfl ps_Ro_41 rfl rfl d_Ro_copyFrom_5 ?_
  refine x_aload_n d_Ro_copyFrom_8 rfl ?_
  refine x_getR hO.f0 rfl fs_Ro_14 d_Ro_copyFrom_9 ?_
  refine x_aload_n d_Ro_copyFrom_12 rfl ?_
  refine x_getR hA.f0 rfl fs_Ro_14 d_Ro_copyFrom_13 ?_
  refine x_v1v d_Ro_copyFrom_16 ml_Ro_49 v_Rw_copyFrom rfl ⟨rfl, rfl⟩ (row_io hO.f1) (Nat.le_of_ble_eq_true rfl) (ct_Rw_copyFrom hO.f1 hO.f2 hA.f1 hA.f2 (by omega)) (fun _ hE => ?_)
  subst hE
  refine x_aload_n d_Ro_copyFrom_19 rfl ?_
  refine x_getR hO.f0 rfl fs_Ro_20 d_Ro_copyFrom_20 ?_
  refine x_aload_n d_Ro_copyFrom_23 rfl ?_
  refine x_getR hA.f0 rfl fs_Ro_20 d_Ro_copyFrom_24 ?_
  refine x_v1v d_Ro_copyFrom_27 ml_Ro_49 v_Rw_copyFrom rfl ⟨rfl, rfl⟩ (row_io hO.f3) (Nat.le_of_ble_eq_true rfl) (ct_Rw_copyFrom hO.f3 hO.f4 hA.f3 hA.f4 (by omega)) (fun _ hE => ?_)
  subst hE
  refine x_aload_n d_Ro_copyFrom_30 rfl ?_
  refine x_getR hO.f0 rfl fs_Ro_23 d_Ro_copyFrom_31 ?_
  refine x_aload_n d_Ro_copyFrom_34 rfl ?_
  refine x_getR hA.f0 rfl fs_Ro_23 d_Ro_copyFrom_35 ?_
  refine x_v1v d_Ro_copyFrom_38 ml_Ro_49 v_Rw_copyFrom rfl ⟨rfl, rfl⟩ (row_io hO.f5) (Nat.le_of_ble_eq_true rfl) (ct_Rw_copyFrom hO.f5 hO.f6 hA.f5 hA.f6 (by omega)) (fun _ hE => ?_)
  subst hE
  refine x_aload_n d_Ro_copyFrom_41 rfl ?_
  refine x_getR hO.f0 rfl fs_Ro_26 d_Ro_copyFrom_42 ?_
  refine x_aload_n d_Ro_copyFrom_45 rfl ?_
  refine x_getR hA.f0 rfl fs_Ro_26 d_Ro_copyFrom_46 ?_
  refine x_v1v d_Ro_copyFrom_49 ml_Ro_49 v_Rw_copyFrom rfl ⟨rfl, rfl⟩ (row_io hO.f7) (Nat.le_of_ble_eq_true rfl) (ct_Rw_copyFrom hO.f7 hO.f8 hA.f7 hA.f8 (by omega)) (fun _ hE => ?_)
  subst hE
  refine x_aload_n d_Ro_copyFrom_52 rfl ?_
  refine x_getR hO.f0 rfl fs_Ro_29 d_Ro_copyFrom_53 ?_
  refine x_aload_n d_Ro_copyFrom_56 rfl ?_
  refine x_getR hA.f0 rfl fs_Ro_29 d_Ro_copyFrom_57 ?_
  refine x_v1v d_Ro_copyFrom_60 ml_Ro_49 v_Rw_copyFrom rfl ⟨rfl, rfl⟩ (row_io hO.f9) (Nat.le_of_ble_eq_true rfl) (ct_Rw_copyFrom hO.f9 hO.f10 hA.f9 hA.f10 (by omega)) (fun _ hE => ?_)
  subst hE
  refine x_aload_n d_Ro_copyFrom_63 rfl ?_
  refine x_getR hO.f0 rfl fs_Ro_32 d_Ro_copyFrom_64 ?_
  refine x_aload_n d_Ro_copyFrom_67 rfl ?_
  refine x_getR hA.f0 rfl fs_Ro_32 d_Ro_copyFrom_68 ?_
  refine x_v1v d_Ro_copyFrom_71 ml_Ro_49 v_Rw_copyFrom rfl ⟨rfl, rfl⟩ (row_io hO.f11) (Nat.le_of_ble_eq_true rfl) (ct_Rw_copyFrom hO.f11 hO.f12 hA.f11 hA.f12 (by omega)) (fun _ hE => ?_)
  subst hE
  refine x_aload_n d_Ro_copyFrom_74 rfl ?_
  refine x_getR hO.f0 rfl fs_Ro_35 d_Ro_copyFrom_75 ?_
  refine x_aload_n d_Ro_copyFrom_78 rfl ?_
  refine x_getR hA.f0 rfl fs_Ro_35 d_Ro_copyFrom_79 ?_
  refine x_v1v d_Ro_copyFrom_82 ml_Ro_49 v_Rw_copyFrom rfl ⟨rfl, rfl⟩ (row_io hO.f13) (Nat.le_of_ble_eq_true rfl) (ct_Rw_copyFrom hO.f13 hO.f14 hA.f13 hA.f14 (by omega)) (fun _ hE => ?_)
  subst hE
  refine x_aload_n d_Ro_copyFrom_85 rfl ?_
  refine x_getR hO.f0 rfl fs_Ro_38 d_Ro_copyFrom_86 ?_
  refine x_aload_n d_Ro_copyFrom_89 rfl ?_
  refine x_getR hA.f0 rfl fs_Ro_38 d_Ro_copyFrom_90 ?_
  refine x_v1v d_Ro_copyFrom_93 ml_Ro_49 v_Rw_copyFrom rfl ⟨rfl, rfl⟩ (row_io hO.f15) (Nat.le_of_ble_eq_true rfl) (ct_Rw_copyFrom hO.f15 hO.f16 hA.f15 hA.f16 (by omega)) (fun _ hE => ?_)
  subst hE
  refine x_vret rfl d_Ro_copyFrom_96 (Nat.zero_le _) (Nat.zero_le _) ?_
  exact ⟨rfl, rfl, rfl, rfl⟩
theorem ct_Rm_copyFrom {α : Nat} (hO : LayRm sh ρ) (hA : LayRm sh α) : Ct l g M_Rm_copyFrom [rf g ρ, rf g α] none sh mem (Rv none sh (fun m => m = cpRm mem α ρ)) := by
  refine x_begin rfl rfl rfl (by decide) rfl ?_
  refine x_aload_n d_Rm_copyFrom_0 rfl ?_
  refine x_aload_n d_Rm_copyFrom_1 rfl ?_
  refine x_getI hA.f0 rfl fs_Rm_44 d_Rm_copyFrom_2 ?_
  refine x_putI hO.f0 rfl ps_Rm_44 rfl rfl d_Rm_copyFrom_5 ?_
  refine x_aload_n d_Rm_copyFrom_8 rfl ?_
  refine x_getR hO.f0 rfl fs_Rm_14 d_Rm_copyFrom_9 ?_
  refine x_aload_n d_Rm_copyFrom_12 rfl ?_
  refine x_getR hA.f0 rfl fs_Rm_14 d_Rm_copyFrom_13 ?_
  refine x_v1v d_Rm_copyFrom_16 ml_Rm_100 v_Rw_copyFrom rfl ⟨rfl, rfl⟩ (row_io hO.f1) (Nat.le_of_ble_eq_true rfl) (ct_Rw_copyFrom hO.f1 hO.f2 hA.f1 hA.f2 (by omega)) (fun _ hE => ?_)
  subst hE
  refine x_aload_n d_Rm_copyFrom_19 rfl ?_
  refine x_getR hO.f0 rfl fs_Rm_20 d_Rm_copyFrom_20 ?_
  refine x_aload_n d_Rm_copyFrom_23 rfl ?_
  refine x_getR hA.f0 rfl fs_Rm_20 d_Rm_copyFrom_24 ?_
  refine x_v1v d_Rm_copyFrom_27 ml_Rm_100 v_Rw_copyFrom rfl ⟨rfl, rfl⟩ (row_io hO.f3) (Nat.le_of_ble_eq_true rfl) (ct_Rw_copyFrom hO.f3 hO.f4 hA.f3 hA.f4 (by omega)) (fun _ hE => ?_)
  subst hE
  refine x_aload_n d_Rm_copyFrom_30 rfl ?_
  refine x_getR hO.f0 rfl fs_Rm_23 d_Rm_copyFrom_31 ?_
  refine x_aload_n d_Rm_copyFrom_34 rfl ?_
  refine x_getR hA.f0 rfl fs_Rm_23 d_Rm_copyFrom_35 ?_
  refine x_v1v d_Rm_copyFrom_38 ml_Rm_100 v_Rw_copyFrom rfl ⟨rfl, rfl⟩ (row_io hO.f5) (Nat.le_of_ble_eq_true rfl) (ct_Rw_copyFrom hO.f5 hO.f6 hA.f5 hA.f6 (by omega)) (fun _ hE => ?_)
  subst hE
  refine x_aload_n d_Rm_copyFrom_41 rfl ?_
  refine x_getR hO.f0 rfl fs_Rm_26 d_Rm_copyFrom_42 ?_
  refine x_aload_n d_Rm_copyFrom_45 rfl ?_
  refine x_getR hA.f0 rfl fs_Rm_26 d_Rm_copyFrom_46 ?_
  refine x_v1v d_Rm_copyFrom_49 ml_Rm_100 v_Rw_copyFrom rfl ⟨rfl, rfl⟩ (row_io hO.f7) (Nat.le_of_ble_eq_true rfl) (ct_Rw_copyFrom hO.f7 hO.f8 hA.f7 hA.f8 (by omega)) (fun _ hE => ?_)
  subst hE
  refine x_aload_n d_Rm_copyFrom_52 rfl ?_
  refine x_getR hO.f0 rfl fs_Rm_29 d_Rm_copyFrom_53 ?_
  refine x_aload_n d_Rm_copyFrom_56 rfl ?_
  refine x_getR hA.f0 rfl fs_Rm_29 d_Rm_copyFrom_57 ?_
  refine x_v1v d_Rm_copyFrom_60 ml_Rm_100 v_Rw_copyFrom rfl ⟨rfl, rfl⟩ (row_io hO.f9) (Nat.le_of_ble_eq_true rfl) (ct_Rw_copyFrom hO.f9 hO.f10 hA.f9 hA.f10 (by omega)) (fun _ hE => ?_)
  subst hE
  refine x_aload_n d_Rm_copyFrom_63 rfl ?_
  refine x_getR hO.f0 rfl fs_Rm_32 d_Rm_copyFrom_64 ?_
  refine x_aload_n d_Rm_copyFrom_67 rfl ?_
  refine x_getR hA.f0 rfl fs_Rm_32 d_Rm_copyFrom_68 ?_
  refine x_v1v d_Rm_copyFrom_71 ml_Rm_100 v_Rw_copyFrom rfl ⟨rfl, rfl⟩ (row_io hO.f11) (Nat.le_of_ble_eq_true rfl) (ct_Rw_copyFrom hO.f11 hO.f12 hA.f11 hA.f12 (by omega)) (fun _ hE => ?_)
  subst hE
  refine x_aload_n d_Rm_copyFrom_74 rfl ?_
  refine x_getR hO.f0 rfl fs_Rm_35 d_Rm_copyFrom_75 ?_
  refine x_aload_n d_Rm_copyFrom_78 rfl ?_
  refine x_getR hA.f0 rfl fs_Rm_35 d_Rm_copyFrom_79 ?_
  refine x_v1v d_Rm_copyFrom_82 ml_Rm_100 v_Rw_copyFrom rfl ⟨rfl, rfl⟩ (row_io hO.f13) (Nat.le_of_ble_eq_true rfl) (ct_Rw_copyFrom hO.f13 hO.f14 hA.f13 hA.f14 (by omega)) (fun _ hE => ?_)
  subst hE
  refine x_aload_n d_Rm_copyFrom_85 rfl ?_
  refine x_getR hO.f0 rfl fs_Rm_38 d_Rm_copyFrom_86 ?_
  refine x_aload_n d_Rm_copyFrom_89 rfl ?_
  refine x_getR hA.f0 rfl fs_Rm_38 d_Rm_copyFrom_90 ?_
  refine x_v1v d_Rm_copyFrom_93 ml_Rm_100 v_Rw_copyFrom rfl ⟨rfl, rfl⟩ (row_io hO.f15) (Nat.le_of_ble_eq_true rfl) (ct_Rw_copyFrom hO.f15 hO.f16 hA.f15 hA.f16 (by omega)) (fun _ hE => ?_)
  subst hE
  refine x_aload_n d_Rm_copyFrom_96 rfl ?_
  refine x_getR hO.f0 rfl fs_Rm_41 d_Rm_copyFrom_97 ?_
  refine x_aload_n d_Rm_copyFrom_100 rfl ?_
  refine x_getR hA.f0 rfl fs_Rm_41 d_Rm_copyFrom_101 ?_
  refine x_v1v d_Rm_copyFrom_104 ml_Rm_100 v_Rw_copyFrom rfl ⟨rfl, rfl⟩ (row_io hO.f17) (Nat.le_of_ble_eq_true rfl) (ct_Rw_copyFrom hO.f17 hO.f18 hA.f17 hA.f18 (by omega)) (fun _ hE => ?_)
  subst hE
  refine x_vret rfl d_Rm_copyFrom_107 (Nat.zero_le _) (Nat.zero_le _) ?_
  exact ⟨rfl, rfl, rfl, rfl⟩
theorem ct_Rm_covered (hO : LayRm sh ρ) {c : Nat} {w : Nat → Nat} (hc : mem ρ 0 = nI c) (hc2 : c ≤ 20) (hw : ∀ i, i < c → mem (ρ + 12) i = nI (w i) ∧ w i ≤ 60) : Ct l g M_Rm_covered [rf g ρ] none sh mem (Pq (.int (nI (cnt (fun i => decide (0 < w i)) c))) none sh mem) := by
  refine x_begin rfl rfl rfl (by decide) rfl ?_
  refine x_iconst (v := nI 0) d_Rm_covered_0 (by decide) ?_
  refine x_istore_n d_Rm_covered_1 (by decide) ?_
  refine x_iconst (v := nI 0) d_Rm_covered_2 (by decide) ?_
  refine x_istore_n d_Rm_covered_3 (by decide) ?_
  refine up_ind c (P := fun j => X l g M_Rm_covered (XF g (Pq (.int (nI (cnt (fun i => decide (0 < w i)) c))) none sh mem) M_Rm_covered) 4 [some (rf g ρ), some (.int (nI (cnt (fun i => decide (0 < w i)) j))), some (.int (nI j))] [] none sh mem 0 0) (fun j hj ih => ?_) 0 (Nat.zero_le _)
  refine x_iload_n d_Rm_covered_4 rfl ?_
  refine x_aload_n d_Rm_covered_5 rfl ?_
  refine x_getI hO.f0 rfl fs_Rm_44 d_Rm_covered_6 ?_
  rw [hc]
  refine x_icmp_ge (tgt := 29) d_Rm_covered_9 (by decide) (fun c9 => ?_) (fun c9 => ?_)
  · have hj2 : j = c := by have := nI_le' (by omega) (by omega) c9; omega
    refine x_iload_n d_Rm_covered_29 rfl ?_
    refine x_iret rfl rfl d_Rm_covered_30 (Nat.zero_le _) (Nat.zero_le _) ?_
    exact ⟨by rw [hj2], rfl, rfl, rfl⟩
  · have hj3 := nI_nle' (by omega) (by omega) c9
    refine x_aload_n d_Rm_covered_12 rfl ?_
    refine x_iload_n d_Rm_covered_13 rfl ?_
    refine x_v1p d_Rm_covered_14 ml_Rm_72 v_Rm_isCovered rfl ⟨rfl, rfl⟩ hO.io (Nat.le_of_ble_eq_true rfl) (ct_Rm_isCovered hO (by omega) (hw j hj3).1 (hw j hj3).2) ?_
    refine x_if_eq (tgt := 23) d_Rm_covered_17 (by decide) (fun c17 => ?_) (fun c17 => ?_)
    · refine x_iinc d_Rm_covered_23 rfl (by first | exact inc1 _ | rfl) (by decide) ?_
      refine x_goto (tgt := 4) d_Rm_covered_26 (by decide) ?_
      have h9 := ih hj3
      first | (rw [cnt_f (by simpa using bI_0.mp c17)] at h9; exact h9) | (rw [cnt_t (by simpa using bI_n.mp c17)] at h9; exact h9)
    · refine x_iinc d_Rm_covered_20 rfl (by first | exact inc1 _ | rfl) (by decide) ?_
      refine x_iinc d_Rm_covered_23 rfl (by first | exact inc1 _ | rfl) (by decide) ?_
      refine x_goto (tgt := 4) d_Rm_covered_26 (by decide) ?_
      have h9 := ih hj3
      first | (rw [cnt_f (by simpa using bI_0.mp c17)] at h9; exact h9) | (rw [cnt_t (by simpa using bI_n.mp c17)] at h9; exact h9)
theorem ct_Rm_coveredArea (hO : LayRm sh ρ) {c : Nat} {w : Nat → Nat} {q : Nat → Nat → Nat} (hc : mem ρ 0 = nI c) (hc2 : c ≤ 20) (hw : ∀ i, i < c → mem (ρ + 12) i = nI (w i) ∧ w i ≤ 60) (hG : ∀ i, i < c → GeoAt mem ρ i (q i)) : Ct l g M_Rm_coveredArea [rf g ρ] none sh mem (Pq (.int (nI (sN (fun i => if 0 < w i then areaN (q i) else 0) c))) none sh mem) := by
  refine x_begin rfl rfl rfl (by decide) rfl ?_
  refine x_iconst (v := nI 0) d_Rm_coveredArea_0 (by decide) ?_
  refine x_istore_n d_Rm_coveredArea_1 (by decide) ?_
  refine x_iconst (v := nI 0) d_Rm_coveredArea_2 (by decide) ?_
  refine x_istore_n d_Rm_coveredArea_3 (by decide) ?_
  refine up_ind c (P := fun j => X l g M_Rm_coveredArea (XF g (Pq (.int (nI (sN (fun i => if 0 < w i then areaN (q i) else 0) c))) none sh mem) M_Rm_coveredArea) 4 [some (rf g ρ), some (.int (nI (sN (fun i => if 0 < w i then areaN (q i) else 0) j))), some (.int (nI j))] [] none sh mem 0 0) (fun j hj ih => ?_) 0 (Nat.zero_le _)
  refine x_iload_n d_Rm_coveredArea_4 rfl ?_
  refine x_aload_n d_Rm_coveredArea_5 rfl ?_
  refine x_getI hO.f0 rfl fs_Rm_44 d_Rm_coveredArea_6 ?_
  rw [hc]
  refine x_icmp_ge (tgt := 34) d_Rm_coveredArea_9 (by decide) (fun c9 => ?_) (fun c9 => ?_)
  · have hj2 : j = c := by have := nI_le' (by omega) (by omega) c9; omega
    refine x_iload_n d_Rm_coveredArea_34 rfl ?_
    refine x_iret rfl rfl d_Rm_coveredArea_35 (Nat.zero_le _) (Nat.zero_le _) ?_
    exact ⟨by rw [hj2], rfl, rfl, rfl⟩
  · have hj3 := nI_nle' (by omega) (by omega) c9
    refine x_aload_n d_Rm_coveredArea_12 rfl ?_
    refine x_iload_n d_Rm_coveredArea_13 rfl ?_
    refine x_v1p d_Rm_coveredArea_14 ml_Rm_72 v_Rm_isCovered rfl ⟨rfl, rfl⟩ hO.io (Nat.le_of_ble_eq_true rfl) (ct_Rm_isCovered hO (by omega) (hw j hj3).1 (hw j hj3).2) ?_
    refine x_if_eq (tgt := 28) d_Rm_coveredArea_17 (by decide) (fun c17 => ?_) (fun c17 => ?_)
    · refine x_iinc d_Rm_coveredArea_28 rfl (by first | exact inc1 _ | rfl) (by decide) ?_
      refine x_goto (tgt := 4) d_Rm_coveredArea_31 (by decide) ?_
      have h9 := ih hj3
      first | (rw [sN, if_neg (bI_0.mp c17)] at h9; exact h9) | (rw [sN, if_pos (bI_n.mp c17)] at h9; exact h9)
    · refine x_iload_n d_Rm_coveredArea_20 rfl ?_
      refine x_aload_n d_Rm_coveredArea_21 rfl ?_
      refine x_iload_n d_Rm_coveredArea_22 rfl ?_
      refine x_v1p d_Rm_coveredArea_23 ml_Rm_76 v_Rm_area rfl ⟨rfl, rfl⟩ hO.io (Nat.le_of_ble_eq_true rfl) (ct_Rm_area hO (hG j hj3)) ?_
      refine x_iadd d_Rm_coveredArea_26 ?_
      rw [nI_add]
      refine x_istore_n d_Rm_coveredArea_27 (by decide) ?_
      refine x_iinc d_Rm_coveredArea_28 rfl (by first | exact inc1 _ | rfl) (by decide) ?_
      refine x_goto (tgt := 4) d_Rm_coveredArea_31 (by decide) ?_
      have h9 := ih hj3
      first | (rw [sN, if_neg (bI_0.mp c17)] at h9; exact h9) | (rw [sN, if_pos (bI_n.mp c17)] at h9; exact h9)
end
