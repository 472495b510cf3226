/-! Book: what its cells are; cutting -/
def SetRep (mem : Mem) (β : Nat) (R : RS) : Prop := ∀ k, k < 5 → mem (β + 2) k = nI (R (4 + k))
def RoRep (mem : Mem) (ρ : Nat) (R : RS) (ld : Nat → Nat) : Prop := mem ρ 0 = nI (R 0) ∧ ∀ r, r < 12 → mem (ρ + 2) r = nI (ro R r 0) ∧ mem (ρ + 4) r = nI (ro R r 1) ∧ mem (ρ + 6) r = nI (ro R r 2) ∧ mem (ρ + 8) r = nI (ro R r 3) ∧ mem (ρ + 10) r = nI (ro R r 1 * ro R r 4) ∧ mem (ρ + 12) r = nI (ld r) ∧ mem (ρ + 14) r = nI (ro R r 5) ∧ mem (ρ + 16) r = nI (ro R r 6)
def RoomRep (mem : Mem) (ρ : Nat) (R : RS) (i : Nat) : Prop := GeoAt mem ρ i (rq R i) ∧ (rq R i 8 = 0 → mem (ρ + 12) i = nI 0) ∧ (rq R i 8 = 1 → CovAt mem ρ i (ro R (rq R i 9) 1) (rq R i 10) ∧ mem (ρ + 10) i = nI (rq R i 9) ∧ mem (ρ + 16) i = nI (rq R i 11) ∧ ∀ s, s < stripsN (rq R i) (rq R i 10) (ro R (rq R i 9) 1) → mem (ρ + 18) (i * 36 + s) = nI (sc R i s))
def BookRep (mem : Mem) (β : Nat) (R : RS) : Prop := SetRep mem β R ∧ mem β 4 = nI (R 3) ∧ RoRep mem (β + 3) R (laidN R) ∧ OfRep mem (β + 20) (EL R) (R 1) ∧ mem (β + 29) 0 = nI (R 2) ∧ ∀ i, i < R 2 → RoomRep mem (β + 29) R i
def LR (β r : Nat) (mem m : Mem) (R' : RS) : Prop := OfRep m (β + 20) (EL R') (R' 1) ∧ m (β + 3 + 14) r = nI (ro R' r 5) ∧ (∀ j, j ≠ r → m (β + 3 + 14) j = mem (β + 3 + 14) j) ∧ ∀ o, o ≠ β + 3 + 14 → (o < β + 20 ∨ β + 20 + 9 ≤ o) → m o = mem o
def TP (β r ix : Nat) (mem m : Mem) (R' : RS) (i s PW PL : Nat) : Prop := OfRep m (β + 20) (EL R') (R' 1) ∧ m (β + 3 + 6) r = nI (ro R' r 2) ∧ m β 5 = nI PW ∧ m β 6 = nI PL ∧ m β 4 = mem β 4 ∧ m (β + 29 + 18) ix = nI (sc R' i s) ∧ (∀ j, j ≠ ix → m (β + 29 + 18) j = mem (β + 29 + 18) j) ∧ (∀ j, j ≠ r → m (β + 3 + 6) j = mem (β + 3 + 6) j) ∧ ∀ o, o ≠ β → o ≠ β + 3 + 6 → o ≠ β + 29 + 18 → (o < β + 20 ∨ β + 20 + 9 ≤ o) → m o = mem o
theorem LR.fr {β r : Nat} {mem m : Mem} {R' : RS} (h : LR β r mem m R') : Fr β (β + 48) mem m := fun o ho => h.2.2.2 o (by omega) (by omega)
theorem LR.tr {β r : Nat} {m0 m1 m2 : Mem} {R1 R2 : RS} (h : LR β r m0 m1 R1) (k : LR β r m1 m2 R2) : LR β r m0 m2 R2 := ⟨k.1, k.2.1, fun j hj => (k.2.2.1 j hj).trans (h.2.2.1 j hj), fun o h1 h2 => (k.2.2.2 o h1 h2).trans (h.2.2.2 o h1 h2)⟩
theorem restS_keep {R R' : RS} {r a b : Nat} (h : restS R r a b = some R') : ∀ j, j ≠ 1 → j ≠ 9 + 7 * r + 5 → (j < 93 ∨ 993 ≤ j) → R 1 < 300 ∨ R' = wasteR R r (a * b) → R' j = R j := by
  intro j h1 h2 h3 h4
  unfold restS at h
  split at h
  · cases h
    exact un_ne R _ h2
  · split at h
    · cases h
    · rename_i h5
      cases h
      unfold addR
      rw [un_ne _ _ (by omega), un_ne _ _ (by omega), un_ne _ _ (by omega), un_ne _ _ (by omega)]
theorem restS_same {R R' : RS} {r a b : Nat} (h : restS R r a b = some R') (j : Nat) (h1 : j ≠ 1) (h2 : j ≠ 9 + 7 * r + 5) (h3 : j < 93 ∨ 993 ≤ j) : R' j = R j := by
  refine restS_keep h j h1 h2 h3 ?_
  unfold restS at h
  split at h
  · cases h
    exact Or.inr rfl
  · split at h
    · cases h
    · rename_i h5
      exact Or.inl (by omega)
theorem cutS_same {R R' : RS} {r PW PL w l : Nat} (h : cutS R r PW PL w l = some R') (j : Nat) (h1 : j ≠ 1) (h2 : j ≠ 9 + 7 * r + 5) (h3 : j < 93 ∨ 993 ≤ j) : R' j = R j := by
  unfold cutS at h
  cases h4 : restS R r (PW - w) (if lngB R PW PL w l then PL else l) with
  | none => rw [h4] at h; cases h
  | some R1 =>
    rw [h4] at h
    exact (restS_same h j h1 h2 h3).trans (restS_same h4 j h1 h2 h3)
section
variable {l : Launch} {g : XG} {sh : Nat → Sh} {mem : Mem} {β : Nat} {R : RS}
theorem ct_Bk_seamPrice (hB : LayBk sh β) (hS : SetRep mem β R) {i y : Nat} (hG : GeoAt mem (β + 29) i (rq R i)) (hy : y ≤ 1) : Ct l g M_Bk_seamPrice [rf g β, .int (nI i), .int (nI y)] none sh mem (Pq (.int (nI (R 6 * (if acr (rq R i) y then R 7 else 1)))) none sh mem) := by
  refine x_begin rfl rfl rfl (by decide) rfl ?_
  refine x_aload_n d_Bk_seamPrice_0 rfl ?_
  refine x_getR hB.f0 rfl fs_Bk_37 d_Bk_seamPrice_1 ?_
  refine x_iload_n d_Bk_seamPrice_4 rfl ?_
  refine x_iload_n d_Bk_seamPrice_5 rfl ?_
  refine x_v2p d_Bk_seamPrice_6 ml_Bk_70 v_Rm_isAcross rfl ⟨rfl, rfl⟩ hB.s29.io (Nat.le_of_ble_eq_true rfl) (ct_Rm_isAcross hB.s29 hG hy) ?_
  refine x_if_eq (tgt := 23) d_Bk_seamPrice_9 (by decide) (fun c9 => ?_) (fun c9 => ?_)
  · have c9 := bI_0.mp c9
    refine x_iconst (v := nI 1) d_Bk_seamPrice_23 (by decide) ?_
    refine x_istore_n d_Bk_seamPrice_24 (by decide) ?_
    refine x_aload_n d_Bk_seamPrice_25 rfl ?_
    refine x_getR hB.f0 rfl fs_Bk_14 d_Bk_seamPrice_26 ?_
    refine x_iconst (v := nI 2) d_Bk_seamPrice_29 (by decide) ?_
    refine x_v1p d_Bk_seamPrice_30 ml_Bk_66 v_Rw_at rfl ⟨rfl, rfl⟩ (row_io hB.f1) (Nat.le_of_ble_eq_true rfl) (ct_Rw_at hB.f1 hB.f2 (by omega)) ?_
    rw [hS 2 (by decide)]
    refine x_iload_n d_Bk_seamPrice_33 rfl ?_
    refine x_imul d_Bk_seamPrice_34 ?_
    rw [pk_mul]
    refine x_iret rfl rfl d_Bk_seamPrice_35 (Nat.zero_le _) (Nat.zero_le _) ?_
    exact ⟨by first | (rw [if_pos c9]; done) | (rw [if_neg c9]; done), rfl, rfl, rfl⟩
  · have c9 := bI_n.mp c9
    refine x_aload_n d_Bk_seamPrice_12 rfl ?_
    refine x_getR hB.f0 rfl fs_Bk_14 d_Bk_seamPrice_13 ?_
    refine x_iconst (v := nI 3) d_Bk_seamPrice_16 (by decide) ?_
    refine x_v1p d_Bk_seamPrice_17 ml_Bk_66 v_Rw_at rfl ⟨rfl, rfl⟩ (row_io hB.f1) (Nat.le_of_ble_eq_true rfl) (ct_Rw_at hB.f1 hB.f2 (by omega)) ?_
    rw [hS 3 (by decide)]
    refine x_goto (tgt := 24) d_Bk_seamPrice_20 (by decide) ?_
    refine x_istore_n d_Bk_seamPrice_24 (by decide) ?_
    refine x_aload_n d_Bk_seamPrice_25 rfl ?_
    refine x_getR hB.f0 rfl fs_Bk_14 d_Bk_seamPrice_26 ?_
    refine x_iconst (v := nI 2) d_Bk_seamPrice_29 (by decide) ?_
    refine x_v1p d_Bk_seamPrice_30 ml_Bk_66 v_Rw_at rfl ⟨rfl, rfl⟩ (row_io hB.f1) (Nat.le_of_ble_eq_true rfl) (ct_Rw_at hB.f1 hB.f2 (by omega)) ?_
    rw [hS 2 (by decide)]
    refine x_iload_n d_Bk_seamPrice_33 rfl ?_
    refine x_imul d_Bk_seamPrice_34 ?_
    rw [pk_mul]
    refine x_iret rfl rfl d_Bk_seamPrice_35 (Nat.zero_le _) (Nat.zero_le _) ?_
    exact ⟨by first | (rw [if_pos c9]; done) | (rw [if_neg c9]; done), rfl, rfl, rfl⟩
theorem ct_Bk_isLongBeside (hB : LayBk sh β) (hS : SetRep mem β R) (hR4 : R 4 ≤ 2) {PW PL w k : Nat} (h5 : mem β 5 = nI PW) (h6 : mem β 6 = nI PL) (hw : w ≤ PW) (hk : k ≤ PL) (hPW : PW ≤ 60) (hPL : PL ≤ 60) : Ct l g M_Bk_isLongBeside [rf g β, .int (nI w), .int (nI k)] none sh mem (Pq (.int (bI (lngB R PW PL w k = true))) none sh mem) := by
  have b1 := mul_b (show PW - w ≤ 60 by omega) hPL
  have b2 := mul_b (show w ≤ 60 by omega) (show PL - k ≤ 60 by omega)
  have b3 := mul_b (show PW - w ≤ 60 by omega) (show k ≤ 60 by omega)
  have b4 := mul_b hPW (show PL - k ≤ 60 by omega)
  have mx : ∀ a b : Nat, a ≤ 3600 → b ≤ 3600 → (if nI a < nI b then nI b else nI a) = nI (max a b) := by
    intro a b ha hb
    by_cases h : a < b
    · rw [if_pos (nI_lt h (by omega)), Nat.max_eq_right (by omega)]
    · rw [if_neg (fun z => h (nI_lt' (by omega) (by omega) z)), Nat.max_eq_left (by omega)]
  refine x_begin rfl rfl rfl (by decide) rfl ?_
  refine x_aload_n d_Bk_isLongBeside_0 rfl ?_
  refine x_getR hB.f0 rfl fs_Bk_14 d_Bk_isLongBeside_1 ?_
  refine x_iconst (v := nI 0) d_Bk_isLongBeside_4 (by decide) ?_
  refine x_v1p d_Bk_isLongBeside_5 ml_Bk_66 v_Rw_at rfl ⟨rfl, rfl⟩ (row_io hB.f1) (Nat.le_of_ble_eq_true rfl) (ct_Rw_at hB.f1 hB.f2 (by omega)) ?_
  rw [show mem (β + 2) 0 = nI (R 4) from hS 0 (by decide)]
  refine x_istore_n d_Bk_isLongBeside_8 (by decide) ?_
  refine x_iload_n d_Bk_isLongBeside_9 rfl ?_
  refine x_iconst (v := nI 2) d_Bk_isLongBeside_10 (by decide) ?_
  refine x_icmp_eq (tgt := 24) d_Bk_isLongBeside_11 (by decide) (fun c11 => ?_) (fun c11 => ?_)
  · have c11 := nI_eq' (b := 2) (by omega) (by omega) c11
    refine x_aload_n d_Bk_isLongBeside_24 rfl ?_
    refine x_getI hB.f0 rfl fs_Bk_123 d_Bk_isLongBeside_25 ?_
    rw [h5]
    refine x_iload_n d_Bk_isLongBeside_28 rfl ?_
    refine x_isub d_Bk_isLongBeside_29 ?_
    rw [pk_sub hw]
    refine x_istore d_Bk_isLongBeside_30 (by decide) ?_
    refine x_aload_n d_Bk_isLongBeside_32 rfl ?_
    refine x_getI hB.f0 rfl fs_Bk_129 d_Bk_isLongBeside_33 ?_
    rw [h6]
    refine x_iload_n d_Bk_isLongBeside_36 rfl ?_
    refine x_isub d_Bk_isLongBeside_37 ?_
    rw [pk_sub hk]
    refine x_istore d_Bk_isLongBeside_38 (by decide) ?_
    refine x_iload d_Bk_isLongBeside_40 rfl ?_
    refine x_aload_n d_Bk_isLongBeside_42 rfl ?_
    refine x_getI hB.f0 rfl fs_Bk_129 d_Bk_isLongBeside_43 ?_
    rw [h6]
    refine x_imul d_Bk_isLongBeside_46 ?_
    rw [pk_mul]
    refine x_iload_n d_Bk_isLongBeside_47 rfl ?_
    refine x_iload d_Bk_isLongBeside_48 rfl ?_
    refine x_imul d_Bk_isLongBeside_50 ?_
    rw [pk_mul]
    refine x_max ml_Bk_151 j_max1 j_math j_max2 d_Bk_isLongBeside_51 (Nat.le_of_ble_eq_true rfl) (Nat.le_of_ble_eq_true rfl) (Nat.zero_le _) (Nat.zero_le _) ?_
    rw [mx _ _ b1 b2]
    refine x_istore d_Bk_isLongBeside_54 (by decide) ?_
    refine x_iload d_Bk_isLongBeside_56 rfl ?_
    refine x_iload_n d_Bk_isLongBeside_58 rfl ?_
    refine x_imul d_Bk_isLongBeside_59 ?_
    rw [pk_mul]
    refine x_aload_n d_Bk_isLongBeside_60 rfl ?_
    refine x_getI hB.f0 rfl fs_Bk_123 d_Bk_isLongBeside_61 ?_
    rw [h5]
    refine x_iload d_Bk_isLongBeside_64 rfl ?_
    refine x_imul d_Bk_isLongBeside_66 ?_
    rw [pk_mul]
    refine x_max ml_Bk_151 j_max1 j_math j_max2 d_Bk_isLongBeside_67 (Nat.le_of_ble_eq_true rfl) (Nat.le_of_ble_eq_true rfl) (Nat.zero_le _) (Nat.zero_le _) ?_
    rw [mx _ _ b3 b4]
    refine x_istore d_Bk_isLongBeside_70 (by decide) ?_
    refine x_iload d_Bk_isLongBeside_72 rfl ?_
    refine x_iload d_Bk_isLongBeside_74 rfl ?_
    refine x_icmp_lt (tgt := 83) d_Bk_isLongBeside_76 (by decide) (fun c76 => ?_) (fun c76 => ?_)
    · have c76 := nI_lt' (by omega) (by omega) c76
      refine x_iconst (v := nI 0) d_Bk_isLongBeside_83 (by decide) ?_
      refine x_iret rfl (by decide) d_Bk_isLongBeside_84 (Nat.zero_le _) (Nat.zero_le _) ?_
      exact ⟨by first | (rw [bI_t (by simp only [lngB, show R 4 = 2 from c11, if_true]; simpa using c76)]; done) | (rw [bI_f (by simp only [lngB, show R 4 = 2 from c11, if_true]; simpa using c76)]; done), rfl, rfl, rfl⟩
    · have c76 := nI_nlt' (by omega) (by omega) c76
      refine x_iconst (v := nI 1) d_Bk_isLongBeside_79 (by decide) ?_
      refine x_goto (tgt := 84) d_Bk_isLongBeside_80 (by decide) ?_
      refine x_iret rfl (by decide) d_Bk_isLongBeside_84 (Nat.zero_le _) (Nat.zero_le _) ?_
      exact ⟨by first | (rw [bI_t (by simp only [lngB, show R 4 = 2 from c11, if_true]; simpa using c76)]; done) | (rw [bI_f (by simp only [lngB, show R 4 = 2 from c11, if_true]; simpa using c76)]; done), rfl, rfl, rfl⟩
  · have c11 : R 4 ≠ 2 := fun z => c11 (by rw [z])
    refine x_iload_n d_Bk_isLongBeside_14 rfl ?_
    refine x_if_ne (tgt := 22) d_Bk_isLongBeside_15 (by decide) (fun c15 => ?_) (fun c15 => ?_)
    · have c15 : R 4 ≠ 0 := fun z => c15 (by rw [z]; rfl)
      refine x_iconst (v := nI 0) d_Bk_isLongBeside_22 (by decide) ?_
      refine x_iret rfl (by decide) d_Bk_isLongBeside_23 (Nat.zero_le _) (Nat.zero_le _) ?_
      exact ⟨by first | (rw [bI_t (by simp [lngB, c11, c15])]; done) | (rw [bI_f (by simp [lngB, c11, c15])]; done), rfl, rfl, rfl⟩
    · have c15 : R 4 = 0 := nI_eq' (b := 0) (by omega) (by omega) c15
      refine x_iconst (v := nI 1) d_Bk_isLongBeside_18 (by decide) ?_
      refine x_goto (tgt := 23) d_Bk_isLongBeside_19 (by decide) ?_
      refine x_iret rfl (by decide) d_Bk_isLongBeside_23 (Nat.zero_le _) (Nat.zero_le _) ?_
      exact ⟨by first | (rw [bI_t (by simp [lngB, c11, c15])]; done) | (rw [bI_f (by simp [lngB, c11, c15])]; done), rfl, rfl, rfl⟩
theorem ct_Bk_leaveRest (hB : LayBk sh β) (hs : mem (β + 2) 1 = nI (R 5)) (hR5 : R 5 ≤ 20) (hE : OfRep mem (β + 20) (EL R) (R 1)) {r a b : Nat} (hr : r < 12) (hw : mem (β + 3 + 14) r = nI (ro R r 5)) (ha : a ≤ 60) (hb : b ≤ 60) : Ct l g M_Bk_leaveRest [rf g β, .int (nI r), .int (nI a), .int (nI b)] none sh mem (Ri none sh (fun x m => (restS R r a b = none ∧ x = nI 0 ∧ m = mem) ∨ ∃ R', restS R r a b = some R' ∧ x = nI 1 ∧ LR β r mem m R')) := by
  have h300 := hE.2.1
  refine x_begin rfl rfl rfl (by decide) rfl ?_
  refine x_aload_n d_Bk_leaveRest_0 rfl ?_
  refine x_getR hB.f0 rfl fs_Bk_14 d_Bk_leaveRest_1 ?_
  refine x_iconst (v := nI 1) d_Bk_leaveRest_4 (by decide) ?_
  refine x_v1p d_Bk_leaveRest_5 ml_Bk_66 v_Rw_at rfl ⟨rfl, rfl⟩ (row_io hB.f1) (Nat.le_of_ble_eq_true rfl) (ct_Rw_at hB.f1 hB.f2 (by omega)) ?_
  rw [hs]
  refine x_istore d_Bk_leaveRest_8 (by decide) ?_
  refine x_iload_n d_Bk_leaveRest_10 rfl ?_
  refine x_iload d_Bk_leaveRest_11 rfl ?_
  refine x_icmp_lt (tgt := 22) d_Bk_leaveRest_13 (by decide) (fun c13 => ?_) (fun c13 => ?_)
  · have c13 := nI_lt' (by omega) (by omega) c13
    have c19 : a < R 5 ∨ b < R 5 := Or.inl c13
    refine x_aload_n d_Bk_leaveRest_22 rfl ?_
    refine x_getR hB.f0 rfl fs_Bk_23 d_Bk_leaveRest_23 ?_
    refine x_getR hB.s3.f0 rfl fs_Bk_156 d_Bk_leaveRest_26 ?_
    refine x_iload_n d_Bk_leaveRest_29 rfl ?_
    refine x_iload_n d_Bk_leaveRest_30 rfl ?_
    refine x_iload_n d_Bk_leaveRest_31 rfl ?_
    refine x_imul d_Bk_leaveRest_32 ?_
    rw [pk_mul]
    refine x_v2v d_Bk_leaveRest_33 ml_Bk_98 v_Rw_add rfl ⟨rfl, rfl⟩ (row_io hB.s3.f13) (Nat.le_of_ble_eq_true rfl) (ct_Rw_add hB.s3.f13 hB.s3.f14 (by omega)) (fun _ hE => ?_)
    subst hE
    rw [hw, nI_add]
    refine x_iconst (v := nI 1) d_Bk_leaveRest_36 (by decide) ?_
    refine x_iret rfl (by decide) d_Bk_leaveRest_37 (Nat.zero_le _) (Nat.zero_le _) ?_
    have hrest : restS R r a b = some (wasteR R r (a * b)) := if_pos c19
    refine ⟨_, rfl, rfl, rfl, Or.inr ⟨_, hrest, rfl, ?_, ?_, fun j hj => um_k _ _ hj, fun o h1 h2 => um_ne _ _ _ h1⟩⟩
    · rw [EL_waste hr h300]
      rw [show wasteR R r (a * b) 1 = R 1 from un_ne R _ (by omega)]
      obtain ⟨q1, q2, q3, q4, q5⟩ := hE
      refine ⟨q1, q2, ?_, ?_, fun i hi => ?_⟩
      · rw [um_o _ _ (by omega)]; exact q3
      · rw [um_o _ _ (by omega)]; exact q4
      · rw [um_o _ _ (by omega), um_o _ _ (by omega), um_o _ _ (by omega), um_o _ _ (by omega)]; exact q5 i hi
    · rw [um_eq, show ro (wasteR R r (a * b)) r 5 = ro R r 5 + a * b from un_at _ _ _]
  · have c13 := nI_nlt' (by omega) (by omega) c13
    refine x_iload_n d_Bk_leaveRest_16 rfl ?_
    refine x_iload d_Bk_leaveRest_17 rfl ?_
    refine x_icmp_ge (tgt := 38) d_Bk_leaveRest_19 (by decide) (fun c19 => ?_) (fun c19 => ?_)
    · have c19 := nI_le' (by omega) (by omega) c19
      refine x_aload_n d_Bk_leaveRest_38 rfl ?_
      refine x_getR hB.f0 rfl fs_Bk_30 d_Bk_leaveRest_39 ?_
      refine x_iload_n d_Bk_leaveRest_42 rfl ?_
      refine x_iload_n d_Bk_leaveRest_43 rfl ?_
      refine x_iload_n d_Bk_leaveRest_44 rfl ?_
      refine x_v3i d_Bk_leaveRest_45 ml_Bk_159 v_Of_append rfl ⟨rfl, rfl⟩ hB.s20.io (Nat.le_of_ble_eq_true rfl) (ct_Of_append hB.s20 hE hr ha hb) (fun r45 mem45 h45 => ?_)
      refine x_iret rfl (by rcases h45 with ⟨-, h, -⟩ | ⟨-, h, -⟩ <;> rw [h] <;> decide) d_Bk_leaveRest_48 (Nat.zero_le _) (Nat.zero_le _) ?_
      have hn : ¬ (a < R 5 ∨ b < R 5) := by omega
      rcases h45 with ⟨h1, h2, h3⟩ | ⟨h1, h2, h3, h4⟩
      · have hrest : restS R r a b = none := by rw [restS, if_neg hn, if_pos (show 60 ≤ nK R ∨ 300 ≤ R 1 from h1)]
        exact ⟨_, rfl, rfl, rfl, Or.inl ⟨hrest, h2, h3⟩⟩
      · have hrest : restS R r a b = some (addR R r a b) := by rw [restS, if_neg hn, if_neg (show ¬ (60 ≤ nK R ∨ 300 ≤ R 1) from h1)]
        refine ⟨_, rfl, rfl, rfl, Or.inr ⟨_, hrest, h2, ?_, ?_, fun j hj => ?_, fun o h5 h6 => h4 o h6⟩⟩
        · rw [EL_add, show addR R r a b 1 = R 1 + 1 from un_at _ _ _]
          exact h3
        · rw [h4 _ (by omega), hw]
          congr 1
          unfold ro addR
          rw [un_ne _ _ (by omega), un_ne _ _ (by omega), un_ne _ _ (by omega), un_ne _ _ (by omega)]
        · rw [h4 _ (by omega)]
    · have c19 : a < R 5 ∨ b < R 5 := Or.inr (nI_nle' (by omega) (by omega) c19)
      refine x_aload_n d_Bk_leaveRest_22 rfl ?_
      refine x_getR hB.f0 rfl fs_Bk_23 d_Bk_leaveRest_23 ?_
      refine x_getR hB.s3.f0 rfl fs_Bk_156 d_Bk_leaveRest_26 ?_
      refine x_iload_n d_Bk_leaveRest_29 rfl ?_
      refine x_iload_n d_Bk_leaveRest_30 rfl ?_
      refine x_iload_n d_Bk_leaveRest_31 rfl ?_
      refine x_imul d_Bk_leaveRest_32 ?_
      rw [pk_mul]
      refine x_v2v d_Bk_leaveRest_33 ml_Bk_98 v_Rw_add rfl ⟨rfl, rfl⟩ (row_io hB.s3.f13) (Nat.le_of_ble_eq_true rfl) (ct_Rw_add hB.s3.f13 hB.s3.f14 (by omega)) (fun _ hE => ?_)
      subst hE
      rw [hw, nI_add]
      refine x_iconst (v := nI 1) d_Bk_leaveRest_36 (by decide) ?_
      refine x_iret rfl (by decide) d_Bk_leaveRest_37 (Nat.zero_le _) (Nat.zero_le _) ?_
      have hrest : restS R r a b = some (wasteR R r (a * b)) := if_pos c19
      refine ⟨_, rfl, rfl, rfl, Or.inr ⟨_, hrest, rfl, ?_, ?_, fun j hj => um_k _ _ hj, fun o h1 h2 => um_ne _ _ _ h1⟩⟩
      · rw [EL_waste hr h300]
        rw [show wasteR R r (a * b) 1 = R 1 from un_ne R _ (by omega)]
        obtain ⟨q1, q2, q3, q4, q5⟩ := hE
        refine ⟨q1, q2, ?_, ?_, fun i hi => ?_⟩
        · rw [um_o _ _ (by omega)]; exact q3
        · rw [um_o _ _ (by omega)]; exact q4
        · rw [um_o _ _ (by omega), um_o _ _ (by omega), um_o _ _ (by omega), um_o _ _ (by omega)]; exact q5 i hi
      · rw [um_eq, show ro (wasteR R r (a * b)) r 5 = ro R r 5 + a * b from un_at _ _ _]
theorem ct_Bk_leaveRests (hB : LayBk sh β) (hS : SetRep mem β R) (hR4 : R 4 ≤ 2) (hR5 : R 5 ≤ 20) (hE : OfRep mem (β + 20) (EL R) (R 1)) {r PW PL w k : Nat} (hr : r < 12) (hw5 : mem (β + 3 + 14) r = nI (ro R r 5)) (h5 : mem β 5 = nI PW) (h6 : mem β 6 = nI PL) (hw : w ≤ PW) (hk : k ≤ PL) (hPW : PW ≤ 60) (hPL : PL ≤ 60) : Ct l g M_Bk_leaveRests [rf g β, .int (nI r), .int (nI w), .int (nI k)] none sh mem (Ri none sh (fun x m => (cutS R r PW PL w k = none ∧ x = nI 0 ∧ Fr β (β + 48) mem m) ∨ ∃ R', cutS R r PW PL w k = some R' ∧ x = nI 1 ∧ LR β r mem m R')) := by
  refine x_begin rfl rfl rfl (by decide) rfl ?_
  refine x_aload_n d_Bk_leaveRests_0 rfl ?_
  refine x_iload_n d_Bk_leaveRests_1 rfl ?_
  refine x_iload_n d_Bk_leaveRests_2 rfl ?_
  refine x_v2p d_Bk_leaveRests_3 ml_Bk_145 v_Bk_isLongBeside rfl ⟨rfl, rfl⟩ hB.io (Nat.le_of_ble_eq_true rfl) (ct_Bk_isLongBeside hB hS hR4 h5 h6 hw hk hPW hPL) ?_
  refine x_istore d_Bk_leaveRests_6 (by decide) ?_
  refine x_iload d_Bk_leaveRests_8 rfl ?_
  refine x_if_eq (tgt := 20) d_Bk_leaveRests_10 (by decide) (fun c10 => ?_) (fun c10 => ?_)
  · have hl : lngB R PW PL w k = false := by simpa using bI_0.mp c10
    have hcut : cutS R r PW PL w k = (restS R r (PW - w) k).bind (fun R1 => restS R1 r PW (PL - k)) := by simp [cutS, hl]
    refine x_iload_n d_Bk_leaveRests_20 rfl ?_
    refine x_istore d_Bk_leaveRests_21 (by decide) ?_
    refine x_iload d_Bk_leaveRests_23 rfl ?_
    refine x_if_eq (tgt := 32) d_Bk_leaveRests_25 (by decide) (fun c25 => ?_) (fun c25 => ?_)
    · refine x_aload_n d_Bk_leaveRests_32 rfl ?_
      refine x_getI hB.f0 rfl fs_Bk_123 d_Bk_leaveRests_33 ?_
      rw [h5]
      refine x_istore d_Bk_leaveRests_36 (by decide) ?_
      refine x_aload_n d_Bk_leaveRests_38 rfl ?_
      refine x_iload_n d_Bk_leaveRests_39 rfl ?_
      refine x_aload_n d_Bk_leaveRests_40 rfl ?_
      refine x_getI hB.f0 rfl fs_Bk_123 d_Bk_leaveRests_41 ?_
      rw [h5]
      refine x_iload_n d_Bk_leaveRests_44 rfl ?_
      refine x_isub d_Bk_leaveRests_45 ?_
      rw [pk_sub hw]
      refine x_iload d_Bk_leaveRests_46 rfl ?_
      refine x_v3i d_Bk_leaveRests_48 ml_Bk_148 v_Bk_leaveRest rfl ⟨rfl, rfl⟩ hB.io (Nat.le_of_ble_eq_true rfl) (ct_Bk_leaveRest hB (hS 1 (by decide)) hR5 hE hr hw5 (by omega) (by omega)) (fun r48 mem48 h48 => ?_)
      refine x_if_eq (tgt := 74) d_Bk_leaveRests_51 (by decide) (fun c51 => ?_) (fun c51 => ?_)
      · rcases h48 with ⟨q1, q2, q3⟩ | ⟨R1, q1, q2, q3⟩
        · refine x_iconst (v := nI 0) d_Bk_leaveRests_74 (by decide) ?_
          refine x_iret rfl (by decide) d_Bk_leaveRests_75 (Nat.zero_le _) (Nat.zero_le _) ?_
          exact ⟨_, rfl, rfl, rfl, Or.inl ⟨by rw [hcut, q1]; rfl, rfl, by rw [q3]; exact Fr.rf⟩⟩
        · rw [q2] at c51
          exact absurd c51 (by decide)
      · rcases h48 with ⟨q1, q2, q3⟩ | ⟨R1, q1, q2, q3⟩
        · exact absurd (by rw [q2]; rfl) c51
        · rw [q1, Option.bind_some] at hcut
          have hR1 : R1 5 = R 5 := restS_same q1 5 (by omega) (by omega) (by omega)
          refine x_aload_n d_Bk_leaveRests_54 rfl ?_
          refine x_iload_n d_Bk_leaveRests_55 rfl ?_
          refine x_iload d_Bk_leaveRests_56 rfl ?_
          refine x_aload_n d_Bk_leaveRests_58 rfl ?_
          refine x_getI hB.f0 rfl fs_Bk_129 d_Bk_leaveRests_59 ?_
          rw [q3.2.2.2 β (by omega) (Or.inl (by omega)), h6]
          refine x_iload_n d_Bk_leaveRests_62 rfl ?_
          refine x_isub d_Bk_leaveRests_63 ?_
          rw [pk_sub hk]
          refine x_v3i d_Bk_leaveRests_64 ml_Bk_148 v_Bk_leaveRest rfl ⟨rfl, rfl⟩ hB.io (Nat.le_of_ble_eq_true rfl) (ct_Bk_leaveRest hB (R := R1) (by rw [q3.2.2.2 _ (by omega) (Or.inl (by omega)), hR1]; exact hS 1 (by decide)) (by rw [hR1]; exact hR5) q3.1 hr q3.2.1 (by omega) (by omega)) (fun r64 mem64 h64 => ?_)
          refine x_if_eq (tgt := 74) d_Bk_leaveRests_67 (by decide) (fun c67 => ?_) (fun c67 => ?_)
          · rcases h64 with ⟨p1, p2, p3⟩ | ⟨R2, p1, p2, p3⟩
            · refine x_iconst (v := nI 0) d_Bk_leaveRests_74 (by decide) ?_
              refine x_iret rfl (by decide) d_Bk_leaveRests_75 (Nat.zero_le _) (Nat.zero_le _) ?_
              exact ⟨_, rfl, rfl, rfl, Or.inl ⟨by rw [hcut]; exact p1, rfl, by rw [p3]; exact q3.fr⟩⟩
            · rw [p2] at c67
              exact absurd c67 (by decide)
          · rcases h64 with ⟨p1, p2, p3⟩ | ⟨R2, p1, p2, p3⟩
            · exact absurd (by rw [p2]; rfl) c67
            · refine x_iconst (v := nI 1) d_Bk_leaveRests_70 (by decide) ?_
              refine x_goto (tgt := 75) d_Bk_leaveRests_71 (by decide) ?_
              refine x_iret rfl (by decide) d_Bk_leaveRests_75 (Nat.zero_le _) (Nat.zero_le _) ?_
              exact ⟨_, rfl, rfl, rfl, Or.inr ⟨R2, by rw [hcut]; exact p1, rfl, q3.tr p3⟩⟩
    · exact absurd c10 c25
  · have hl : lngB R PW PL w k = true := by simpa using bI_n.mp c10
    have hcut : cutS R r PW PL w k = (restS R r (PW - w) PL).bind (fun R1 => restS R1 r w (PL - k)) := by simp [cutS, hl]
    refine x_aload_n d_Bk_leaveRests_13 rfl ?_
    refine x_getI hB.f0 rfl fs_Bk_129 d_Bk_leaveRests_14 ?_
    rw [h6]
    refine x_goto (tgt := 21) d_Bk_leaveRests_17 (by decide) ?_
    refine x_istore d_Bk_leaveRests_21 (by decide) ?_
    refine x_iload d_Bk_leaveRests_23 rfl ?_
    refine x_if_eq (tgt := 32) d_Bk_leaveRests_25 (by decide) (fun c25 => ?_) (fun c25 => ?_)
    · exact absurd c25 c10
    · refine x_iload_n d_Bk_leaveRests_28 rfl ?_
      refine x_goto (tgt := 36) d_Bk_leaveRests_29 (by decide) ?_
      refine x_istore d_Bk_leaveRests_36 (by decide) ?_
      refine x_aload_n d_Bk_leaveRests_38 rfl ?_
      refine x_iload_n d_Bk_leaveRests_39 rfl ?_
      refine x_aload_n d_Bk_leaveRests_40 rfl ?_
      refine x_getI hB.f0 rfl fs_Bk_123 d_Bk_leaveRests_41 ?_
      rw [h5]
      refine x_iload_n d_Bk_leaveRests_44 rfl ?_
      refine x_isub d_Bk_leaveRests_45 ?_
      rw [pk_sub hw]
      refine x_iload d_Bk_leaveRests_46 rfl ?_
      refine x_v3i d_Bk_leaveRests_48 ml_Bk_148 v_Bk_leaveRest rfl ⟨rfl, rfl⟩ hB.io (Nat.le_of_ble_eq_true rfl) (ct_Bk_leaveRest hB (hS 1 (by decide)) hR5 hE hr hw5 (by omega) (by omega)) (fun r48 mem48 h48 => ?_)
      refine x_if_eq (tgt := 74) d_Bk_leaveRests_51 (by decide) (fun c51 => ?_) (fun c51 => ?_)
      · rcases h48 with ⟨q1, q2, q3⟩ | ⟨R1, q1, q2, q3⟩
        · refine x_iconst (v := nI 0) d_Bk_leaveRests_74 (by decide) ?_
          refine x_iret rfl (by decide) d_Bk_leaveRests_75 (Nat.zero_le _) (Nat.zero_le _) ?_
          exact ⟨_, rfl, rfl, rfl, Or.inl ⟨by rw [hcut, q1]; rfl, rfl, by rw [q3]; exact Fr.rf⟩⟩
        · rw [q2] at c51
          exact absurd c51 (by decide)
      · rcases h48 with ⟨q1, q2, q3⟩ | ⟨R1, q1, q2, q3⟩
        · exact absurd (by rw [q2]; rfl) c51
        · rw [q1, Option.bind_some] at hcut
          have hR1 : R1 5 = R 5 := restS_same q1 5 (by omega) (by omega) (by omega)
          refine x_aload_n d_Bk_leaveRests_54 rfl ?_
          refine x_iload_n d_Bk_leaveRests_55 rfl ?_
          refine x_iload d_Bk_leaveRests_56 rfl ?_
          refine x_aload_n d_Bk_leaveRests_58 rfl ?_
          refine x_getI hB.f0 rfl fs_Bk_129 d_Bk_leaveRests_59 ?_
          rw [q3.2.2.2 β (by omega) (Or.inl (by omega)), h6]
          refine x_iload_n d_Bk_leaveRests_62 rfl ?_
          refine x_isub d_Bk_leaveRests_63 ?_
          rw [pk_sub hk]
          refine x_v3i d_Bk_leaveRests_64 ml_Bk_148 v_Bk_leaveRest rfl ⟨rfl, rfl⟩ hB.io (Nat.le_of_ble_eq_true rfl) (ct_Bk_leaveRest hB (R := R1) (by rw [q3.2.2.2 _ (by omega) (Or.inl (by omega)), hR1]; exact hS 1 (by decide)) (by rw [hR1]; exact hR5) q3.1 hr q3.2.1 (by omega) (by omega)) (fun r64 mem64 h64 => ?_)
          refine x_if_eq (tgt := 74) d_Bk_leaveRests_67 (by decide) (fun c67 => ?_) (fun c67 => ?_)
          · rcases h64 with ⟨p1, p2, p3⟩ | ⟨R2, p1, p2, p3⟩
            · refine x_iconst (v := nI 0) d_Bk_leaveRests_74 (by decide) ?_
              refine x_iret rfl (by decide) d_Bk_leaveRests_75 (Nat.zero_le _) (Nat.zero_le _) ?_
              exact ⟨_, rfl, rfl, rfl, Or.inl ⟨by rw [hcut]; exact p1, rfl, by rw [p3]; exact q3.fr⟩⟩
            · rw [p2] at c67
              exact absurd c67 (by decide)
          · rcases h64 with ⟨p1, p2, p3⟩ | ⟨R2, p1, p2, p3⟩
            · exact absurd (by rw [p2]; rfl) c67
            · refine x_iconst (v := nI 1) d_Bk_leaveRests_70 (by decide) ?_
              refine x_goto (tgt := 75) d_Bk_leaveRests_71 (by decide) ?_
              refine x_iret rfl (by decide) d_Bk_leaveRests_75 (Nat.zero_le _) (Nat.zero_le _) ?_
              exact ⟨_, rfl, rfl, rfl, Or.inr ⟨R2, by rw [hcut]; exact p1, rfl, q3.tr p3⟩⟩
theorem EL_dropP (R : RS) {p : Nat} (hp : p < nK R) : eN (EL R) p < R 1 ∧ kp R (eN (EL R) p) = true ∧ EL (dropR R (eN (EL R) p)) = (EL R).eraseIdx p := by
  obtain ⟨k, h1, h2, h3⟩ := EL_of R hp
  have h4 := (EL_e R h1 h2).1
  rw [h3] at h4
  rw [h4]
  exact ⟨h1, h2, by rw [EL_drop R h1 h2, h3]⟩
theorem neg_add {a b : Nat} (h : b ≤ a) : nI a + -nI b = nI (a - b) := by
  rw [← pk_sub h, Int32.sub_eq_add_neg]
theorem none_nI : (-5 : Int32) = nI NONE32 := by decide
theorem OfRep.mv {mem m : Mem} {ρ : Nat} {E : List OE} {cut : Nat} (h : OfRep mem ρ E cut) (hm : ∀ o, ρ ≤ o → o < ρ + 9 → m o = mem o) : OfRep m ρ E cut := by
  obtain ⟨q1, q2, q3, q4, q5⟩ := h
  refine ⟨q1, q2, ?_, ?_, fun i hi => ?_⟩
  · rw [hm _ (by omega) (by omega)]; exact q3
  · rw [hm _ (by omega) (by omega)]; exact q4
  · rw [hm _ (by omega) (by omega), hm _ (by omega) (by omega), hm _ (by omega) (by omega), hm _ (by omega) (by omega)]; exact q5 i hi
theorem ct_Bk_takePiece (hB : LayBk sh β) (hE : OfRep mem (β + 20) (EL R) (R 1)) {r W w k i s : Nat} (hr : r < 12) (hi : i < 20) (hs : s < 36) (hl : mem (β + 3 + 6) r = nI (ro R r 2)) (hl2 : ro R r 2 ≤ 999) (hW : mem (β + 3 + 4) r = nI W) (hw : w ≤ W) (hW2 : W ≤ 60) (hk : k ≤ 60) : Ct l g M_Bk_takePiece [rf g β, .int (nI r), .int (nI w), .int (nI k), .int (nI i), .int (nI s)] none sh mem (Ri none sh (fun x m => (takeS R r W w k i s = none ∧ x = nI 0 ∧ m = mem) ∨ ∃ R' PW PL, takeS R r W w k i s = some (R', PW, PL) ∧ x = nI 1 ∧ TP β r (i * 36 + s) mem m R' i s PW PL ∧ (w ≤ PW ∧ PW ≤ 60) ∧ k ≤ PL ∧ PL ≤ 60)) := by
  have h300 := hE.2.1
  have h60 := hE.1
  refine x_begin rfl rfl rfl (by decide) rfl ?_
  refine x_aload_n d_Bk_takePiece_0 rfl ?_
  refine x_getR hB.f0 rfl fs_Bk_30 d_Bk_takePiece_1 ?_
  refine x_iload_n d_Bk_takePiece_4 rfl ?_
  refine x_iload_n d_Bk_takePiece_5 rfl ?_
  refine x_iload_n d_Bk_takePiece_6 rfl ?_
  refine x_v3p d_Bk_takePiece_7 ml_Bk_118 v_Of_placeFor rfl ⟨rfl, rfl⟩ hB.s20.io (Nat.le_of_ble_eq_true rfl) (ct_Of_placeFor hB.s20 hE hr (by omega) (by omega)) ?_
  cases hq : pfo (EL R) r w k (EL R).length with
  | none =>
    have hT : takeS R r W w k i s = if ro R r 2 < k then none else some (un (un R (1233 + 36 * i + s) NONE32) (9 + 7 * r + 2) (ro R r 2 - k), W, k) := by rw [takeS, hq]
    refine x_istore d_Bk_takePiece_10 (by decide) ?_
    refine x_iload d_Bk_takePiece_12 rfl ?_
    refine x_if_lt (tgt := 83) d_Bk_takePiece_14 (by decide) (fun c14 => ?_) (fun c14 => ?_)
    · refine x_aload_n d_Bk_takePiece_83 rfl ?_
      refine x_getR hB.f0 rfl fs_Bk_23 d_Bk_takePiece_84 ?_
      refine x_getR hB.s3.f0 rfl fs_Bk_142 d_Bk_takePiece_87 ?_
      refine x_iload_n d_Bk_takePiece_90 rfl ?_
      refine x_v1p d_Bk_takePiece_91 ml_Bk_66 v_Rw_at rfl ⟨rfl, rfl⟩ (row_io hB.s3.f5) (Nat.le_of_ble_eq_true rfl) (ct_Rw_at hB.s3.f5 hB.s3.f6 (by omega)) ?_
      rw [hl]
      refine x_iload_n d_Bk_takePiece_94 rfl ?_
      refine x_icmp_ge (tgt := 100) d_Bk_takePiece_95 (by decide) (fun c95 => ?_) (fun c95 => ?_)
      · have c95 := nI_le' (by omega) (by omega) c95
        rw [if_neg (by omega)] at hT
        refine x_aload_n d_Bk_takePiece_100 rfl ?_
        refine x_getR hB.f0 rfl fs_Bk_23 d_Bk_takePiece_101 ?_
        refine x_getR hB.s3.f0 rfl fs_Bk_142 d_Bk_takePiece_104 ?_
        refine x_iload_n d_Bk_takePiece_107 rfl ?_
        refine x_iload_n d_Bk_takePiece_108 rfl ?_
        refine x_ineg d_Bk_takePiece_109 ?_
        refine x_v2v d_Bk_takePiece_110 ml_Bk_98 v_Rw_add rfl ⟨rfl, rfl⟩ (row_io hB.s3.f5) (Nat.le_of_ble_eq_true rfl) (ct_Rw_add hB.s3.f5 hB.s3.f6 (by omega)) (fun _ hE => ?_)
        subst hE
        rw [hl, neg_add c95]
        refine x_aload_n d_Bk_takePiece_113 rfl ?_
        refine x_aload_n d_Bk_takePiece_114 rfl ?_
        refine x_getR hB.f0 rfl fs_Bk_23 d_Bk_takePiece_115 ?_
        refine x_getR hB.s3.f0 rfl fs_Bk_74 d_Bk_takePiece_118 ?_
        refine x_iload_n d_Bk_takePiece_121 rfl ?_
        refine x_v1p d_Bk_takePiece_122 ml_Bk_66 v_Rw_at rfl ⟨rfl, rfl⟩ (row_io hB.s3.f3) (Nat.le_of_ble_eq_true rfl) (ct_Rw_at hB.s3.f3 hB.s3.f4 (by omega)) ?_
        rw [um_o _ _ (show β + 3 + 4 ≠ β + 3 + 6 by omega), hW]
        refine x_putI hB.f0 rfl ps_Bk_123 rfl rfl d_Bk_takePiece_125 ?_
        refine x_aload_n d_Bk_takePiece_128 rfl ?_
        refine x_iload_n d_Bk_takePiece_129 rfl ?_
        refine x_putI hB.f0 rfl ps_Bk_129 rfl rfl d_Bk_takePiece_130 ?_
        refine x_aload_n d_Bk_takePiece_133 rfl ?_
        refine x_getR hB.f0 rfl fs_Bk_37 d_Bk_takePiece_134 ?_
        refine x_iload d_Bk_takePiece_137 rfl ?_
        refine x_iload d_Bk_takePiece_139 rfl ?_
        refine x_bipush (v := -5) d_Bk_takePiece_141 (by decide) ?_
        refine x_v3v d_Bk_takePiece_143 ml_Bk_135 v_Rm_putSource rfl ⟨rfl, rfl⟩ hB.s29.io (Nat.le_of_ble_eq_true rfl) (ct_Rm_putSource hB.s29 hi hs) (fun _ hE => ?_)
        subst hE
        refine x_iconst (v := nI 1) d_Bk_takePiece_146 (by decide) ?_
        refine x_iret rfl (by decide) d_Bk_takePiece_147 (Nat.zero_le _) (Nat.zero_le _) ?_
        refine ⟨_, rfl, rfl, rfl, Or.inr ⟨_, _, _, hT, rfl, ⟨?_, ?_, ?_, ?_, ?_, ?_, fun j hj => ?_, fun j hj => ?_, fun o e1 e2 e3 e4 => ?_⟩, ⟨hw, hW2⟩, Nat.le_refl k, hk⟩⟩
        · rw [EL_far (by omega) (by rw [un_ne _ _ (by omega)]; exact h300) (Or.inl (by omega)), EL_far (by omega) h300 (by omega), un_ne _ _ (by omega), un_ne _ _ (by omega)]
          exact hE.mv (fun o h1 h2 => by rw [um_ne _ _ _ (by omega), um_ne _ _ _ (by omega), um_ne _ _ _ (by omega), um_ne _ _ _ (by omega)])
        · rw [um_o _ _ (by omega), um_o _ _ (by omega), um_o _ _ (by omega), um_eq]
          congr 1
          unfold ro
          rw [un_at]
        · rw [um_o _ _ (by omega), um_k _ _ (by omega), um_eq]
        · rw [um_o _ _ (by omega), um_eq]
        · rw [um_o _ _ (by omega), um_k _ _ (by omega), um_k _ _ (by omega), um_o _ _ (by omega)]
        · rw [um_eq, none_nI]
          congr 1
          unfold sc
          rw [un_ne _ _ (by omega), un_at]
        · rw [um_k _ _ hj, um_o _ _ (by omega), um_o _ _ (by omega), um_o _ _ (by omega)]
        · rw [um_o _ _ (by omega), um_o _ _ (by omega), um_o _ _ (by omega), um_k _ _ hj]
        · rw [um_ne _ _ _ e3, um_ne _ _ _ e1, um_ne _ _ _ e1, um_ne _ _ _ e2]
      · have c95 := nI_nle' (by omega) (by omega) c95
        rw [if_pos c95] at hT
        refine x_iconst (v := nI 0) d_Bk_takePiece_98 (by decide) ?_
        refine x_iret rfl (by decide) d_Bk_takePiece_99 (Nat.zero_le _) (Nat.zero_le _) ?_
        exact ⟨_, rfl, rfl, rfl, Or.inl ⟨hT, rfl, rfl⟩⟩
    · exact absurd oI_none c14
  | some p =>
    obtain ⟨hp, hfit⟩ := pfo_lt _ _ hq
    obtain ⟨hb, g1, g2, g3, g4⟩ := hE.2.2.2.2 p hp
    have hT : takeS R r W w k i s = some (dropR (un R (1233 + 36 * i + s) (eN (EL R) p)) (eN (EL R) p), eW (EL R) p, eL (EL R) p) := by rw [takeS, hq]
    have hfit2 : w ≤ eW (EL R) p ∧ k ≤ eL (EL R) p := by simp only [fit, Bool.and_eq_true, decide_eq_true_eq] at hfit; exact hfit.2
    refine x_istore d_Bk_takePiece_10 (by decide) ?_
    refine x_iload d_Bk_takePiece_12 rfl ?_
    refine x_if_lt (tgt := 83) d_Bk_takePiece_14 (by decide) (fun c14 => ?_) (fun c14 => ?_)
    · exact absurd c14 (oI_neg (by omega))
    · refine x_aload_n d_Bk_takePiece_17 rfl ?_
      refine x_aload_n d_Bk_takePiece_18 rfl ?_
      refine x_getR hB.f0 rfl fs_Bk_30 d_Bk_takePiece_19 ?_
      refine x_getR hB.s20.f0 rfl fs_Bk_122 d_Bk_takePiece_22 ?_
      refine x_iload d_Bk_takePiece_25 rfl ?_
      refine x_v1p d_Bk_takePiece_27 ml_Bk_66 v_Rw_at rfl ⟨rfl, rfl⟩ (row_io hB.s20.f5) (Nat.le_of_ble_eq_true rfl) (ct_Rw_at hB.s20.f5 hB.s20.f6 (i := p) (by omega)) ?_
      rw [g3]
      refine x_putI hB.f0 rfl ps_Bk_123 rfl rfl d_Bk_takePiece_30 ?_
      refine x_aload_n d_Bk_takePiece_33 rfl ?_
      refine x_aload_n d_Bk_takePiece_34 rfl ?_
      refine x_getR hB.f0 rfl fs_Bk_30 d_Bk_takePiece_35 ?_
      refine x_getR hB.s20.f0 rfl fs_Bk_126 d_Bk_takePiece_38 ?_
      refine x_iload d_Bk_takePiece_41 rfl ?_
      refine x_v1p d_Bk_takePiece_43 ml_Bk_66 v_Rw_at rfl ⟨rfl, rfl⟩ (row_io hB.s20.f7) (Nat.le_of_ble_eq_true rfl) (ct_Rw_at hB.s20.f7 hB.s20.f8 (i := p) (by omega)) ?_
      rw [um_o _ _ (show β + 20 + 8 ≠ β by omega), g4]
      refine x_putI hB.f0 rfl ps_Bk_129 rfl rfl d_Bk_takePiece_46 ?_
      refine x_aload_n d_Bk_takePiece_49 rfl ?_
      refine x_getR hB.f0 rfl fs_Bk_37 d_Bk_takePiece_50 ?_
      refine x_iload d_Bk_takePiece_53 rfl ?_
      refine x_iload d_Bk_takePiece_55 rfl ?_
      refine x_aload_n d_Bk_takePiece_57 rfl ?_
      refine x_getR hB.f0 rfl fs_Bk_30 d_Bk_takePiece_58 ?_
      refine x_getR hB.s20.f0 rfl fs_Bk_132 d_Bk_takePiece_61 ?_
      refine x_iload d_Bk_takePiece_64 rfl ?_
      refine x_v1p d_Bk_takePiece_66 ml_Bk_66 v_Rw_at rfl ⟨rfl, rfl⟩ (row_io hB.s20.f1) (Nat.le_of_ble_eq_true rfl) (ct_Rw_at hB.s20.f1 hB.s20.f2 (i := p) (by omega)) ?_
      rw [um_o _ _ (show β + 20 + 2 ≠ β by omega), um_o _ _ (show β + 20 + 2 ≠ β by omega), g1]
      refine x_v3v d_Bk_takePiece_69 ml_Bk_135 v_Rm_putSource rfl ⟨rfl, rfl⟩ hB.s29.io (Nat.le_of_ble_eq_true rfl) (ct_Rm_putSource hB.s29 hi hs) (fun _ hE => ?_)
      subst hE
      refine x_aload_n d_Bk_takePiece_72 rfl ?_
      refine x_getR hB.f0 rfl fs_Bk_30 d_Bk_takePiece_73 ?_
      refine x_iload d_Bk_takePiece_76 rfl ?_
      refine x_v1v d_Bk_takePiece_78 ml_Bk_139 v_Of_removeAt rfl ⟨rfl, rfl⟩ hB.s20.io (Nat.le_of_ble_eq_true rfl) (ct_Of_removeAt hB.s20 (E := EL R) (cut := R 1) (hE.mv (fun o h1 h2 => by rw [um_ne _ _ _ (by omega), um_ne _ _ _ (by omega), um_ne _ _ _ (by omega)])) hp) (fun mem78 h78 => ?_)
      refine x_iconst (v := nI 1) d_Bk_takePiece_81 (by decide) ?_
      refine x_iret rfl (by decide) d_Bk_takePiece_82 (Nat.zero_le _) (Nat.zero_le _) ?_
      obtain ⟨hO2, hF2⟩ := h78
      have hEu : EL (un R (1233 + 36 * i + s) (eN (EL R) p)) = EL R := EL_far (by omega) h300 (by omega)
      obtain ⟨d1, d2, d3⟩ := EL_dropP R (p := p) hp
      have d4 : EL (dropR (un R (1233 + 36 * i + s) (eN (EL R) p)) (eN (EL R) p)) = (EL R).eraseIdx p := by
        have d5 := (EL_dropP (un R (1233 + 36 * i + s) (eN (EL R) p)) (p := p) (by rw [nK, hEu]; exact hp)).2.2
        rw [hEu] at d5
        exact d5
      refine ⟨_, rfl, rfl, rfl, Or.inr ⟨_, _, _, hT, rfl, ⟨?_, ?_, ?_, ?_, ?_, ?_, fun j hj => ?_, fun j hj => ?_, fun o e1 e2 e3 e4 => ?_⟩, ⟨hfit2.1, by omega⟩, hfit2.2, by omega⟩⟩
      · rw [d4, show dropR (un R (1233 + 36 * i + s) (eN (EL R) p)) (eN (EL R) p) 1 = R 1 by rw [dropR, un_ne _ _ (by omega), un_ne _ _ (by omega)]]
        exact hO2
      · rw [hF2 _ (by omega), um_o _ _ (by omega), um_o _ _ (by omega), um_o _ _ (by omega), hl]
        congr 1
        unfold ro dropR
        rw [un_ne _ _ (by omega), un_ne _ _ (by omega)]
      · rw [hF2 _ (by omega), um_o _ _ (by omega), um_k _ _ (by omega), um_eq]
      · rw [hF2 _ (by omega), um_o _ _ (by omega), um_eq]
      · rw [hF2 _ (by omega), um_o _ _ (by omega), um_k _ _ (by omega), um_k _ _ (by omega)]
      · rw [hF2 _ (by omega), um_eq]
        congr 1
        unfold sc dropR
        rw [un_ne _ _ (by omega), un_at]
      · rw [hF2 _ (by omega), um_k _ _ hj, um_o _ _ (by omega), um_o _ _ (by omega)]
      · rw [hF2 _ (by omega), um_o _ _ (by omega), um_o _ _ (by omega), um_o _ _ (by omega)]
      · rw [hF2 _ e4, um_ne _ _ _ e3, um_ne _ _ _ e1, um_ne _ _ _ e1]
end
