/-! Book.lift, Book.throwSmallOnes -/
theorem sumA_drop {S : List (Nat × Nat)} {s : Nat} (h : s < S.length) : sumA (S.drop s) = sw S s * sl S s + sumA (S.drop (s + 1)) := by
  rw [drop_at h]
  rfl
theorem liftL_cons (r : Nat) (p : Nat × Nat) (ps : List (Nat × Nat)) (R : RS) (n : Nat) : liftL r (p :: ps) R n = if 60 ≤ nK R ∨ 300 ≤ R 1 then liftL r ps (wasteR R r (p.1 * p.2)) n else liftL r ps (addR R r p.1 p.2) (n + 1) := rfl
theorem addR_ne {R : RS} {r a b j : Nat} (h : R 1 < 300) (h1 : j ≠ 1) (h2 : j < 93 ∨ 993 ≤ j) : addR R r a b j = R j := by
  unfold addR
  rw [un_ne _ _ (by omega), un_ne _ _ (by omega), un_ne _ _ (by omega), un_ne _ _ (by omega)]
theorem dn_ind {P : Nat → Prop} (h : ∀ j, (∀ i, i + 1 = j → P i) → P j) : ∀ j, P j
  | 0 => h 0 (fun i hi => absurd hi (by omega))
  | j + 1 => h (j + 1) (fun i hi => by rw [show i = j by omega]; exact dn_ind h j)
theorem dec1 (a : Nat) : nI a + Int32.ofInt (-1) = nI a - nI 1 := by
  rw [Int32.sub_eq_add_neg]
  congr 1
theorem laid_cg {R R' : RS} (h2 : R' 2 = R 2) (h20 : R 2 ≤ 20) (hq : ∀ i, i < 20 → rq R' i = rq R i) : laidN R' = laidN R := by
  funext j
  unfold laidN
  rw [h2]
  exact sN_cong _ (fun i hi => by rw [hq i (by omega)])
section
variable {l : Launch} {g : XG} {sh : Nat → Sh} {mem : Mem} {β : Nat} {R : RS}
theorem ct_Bk_lift (hB : LayBk sh β) (hI : Inv R) (hb : BookRep mem β R) {i : Nat} (hi : i < R 2) (h8 : rq R i 8 = 1) : Ct l g M_Bk_lift [rf g β, .int (nI i)] none sh mem (Ri none sh (fun x m => Fr β (β + 48) mem m ∧ x = nI (liftS R i).2 ∧ BookRep m β (liftS R i).1)) := by
  have hroom := hI.room
  obtain ⟨r, hrq⟩ : ∃ r, rq R i 9 = r := ⟨_, rfl⟩
  obtain ⟨y, hyq⟩ : ∃ y, rq R i 10 = y := ⟨_, rfl⟩
  have hr0 : r < R 0 := by rw [← hrq]; exact ((hI.2.2.2.2.1 i hi).2.2 h8).1
  obtain ⟨hr12, hy⟩ := hroom i hi h8
  rw [hrq] at hr12
  rw [hyq] at hy
  have h20 := hI.1.2.2
  obtain ⟨b1, b2, b3, b4, b5, b6⟩ := id hb
  obtain ⟨g1, g2, g3⟩ := b6 i hi
  obtain ⟨g4, g5, g6, g7⟩ := g3 h8
  rw [hrq, hyq] at g4
  rw [hrq] at g5
  have hGok := g1.2.1
  have hW := g4.2.2.2
  have hlift : liftS R i = (bareR (liftL r (SL (rq R i) y (ro R r 1)) R 0).1 i, (liftL r (SL (rq R i) y (ro R r 1)) R 0).2) := by rw [liftS, hrq, hyq]
  have hS36 : (SL (rq R i) y (ro R r 1)).length ≤ 36 := by rw [SL_len]; exact stripsN_le hGok hy hW.1
  have hlb : ∀ j, laidN R j = laidN (bareR R i) j + if j = r then areaN (rq R i) else 0 := by rw [← hrq]; exact laid_bare hi h8
  refine x_begin rfl rfl rfl (by decide) rfl ?_
  refine x_aload_n d_Bk_lift_0 rfl ?_
  refine x_getR hB.f0 rfl fs_Bk_37 d_Bk_lift_1 ?_
  refine x_getR hB.s29.f0 rfl fs_Bk_162 d_Bk_lift_4 ?_
  refine x_iload_n d_Bk_lift_7 rfl ?_
  refine x_v1p d_Bk_lift_8 ml_Bk_66 v_Rw_at rfl ⟨rfl, rfl⟩ (row_io hB.s29.f9) (Nat.le_of_ble_eq_true rfl) (ct_Rw_at hB.s29.f9 hB.s29.f10 (by omega)) ?_
  rw [g5]
  refine x_istore_n d_Bk_lift_11 (by decide) ?_
  refine x_aload_n d_Bk_lift_12 rfl ?_
  refine x_getR hB.f0 rfl fs_Bk_37 d_Bk_lift_13 ?_
  refine x_iload_n d_Bk_lift_16 rfl ?_
  refine x_v1p d_Bk_lift_17 ml_Bk_81 v_Rm_strips rfl ⟨rfl, rfl⟩ hB.s29.io (Nat.le_of_ble_eq_true rfl) (ct_Rm_strips hB.s29 g1 g4) ?_
  rw [← SL_len]
  refine x_istore_n d_Bk_lift_20 (by decide) ?_
  refine x_iconst (v := nI 0) d_Bk_lift_21 (by decide) ?_
  refine x_istore d_Bk_lift_22 (by decide) ?_
  refine x_iconst (v := nI 0) d_Bk_lift_24 (by decide) ?_
  refine x_istore d_Bk_lift_25 (by decide) ?_
  refine up_ind (SL (rq R i) y (ro R r 1)).length (P := fun s => ∀ (m : Mem) (R' : RS) (n : Nat) (u6 u7 : Option Value), BL m β R' (fun j => laidN (bareR R i) j + if j = r then sumA ((SL (rq R i) y (ro R r 1)).drop s) else 0) → liftL r (SL (rq R i) y (ro R r 1)) R 0 = liftL r ((SL (rq R i) y (ro R r 1)).drop s) R' n → (∀ j, j ≠ 1 → j ≠ 9 + 7 * r + 5 → (j < 93 ∨ 993 ≤ j) → R' j = R j) → Fr β (β + 48) mem m → X l g M_Bk_lift (XF g (Ri none sh (fun x m => Fr β (β + 48) mem m ∧ x = nI (liftS R i).2 ∧ BookRep m β (liftS R i).1)) M_Bk_lift) 27 [some (rf g β), some (.int (nI i)), some (.int (nI r)), some (.int (nI (SL (rq R i) y (ro R r 1)).length)), some (.int (nI n)), some (.int (nI s)), u6, u7] [] none sh m 0 0) (fun s hs ih m R' n u6 u7 hM hL hsm hfr => ?_) 0 (Nat.zero_le _) mem R 0 _ _ (by
    refine Eq.mp (congrArg (BL mem β R) ?_) hb
    funext j
    rw [hlb j, List.drop_zero, SL_sum hGok hy (by omega)]) rfl (fun _ _ _ _ => rfl) Fr.rf
  have hq : ∀ i', i' < 20 → rq R' i' = rq R i' := fun i' h1 => rq_cong (fun w hw => hsm _ (by omega) (by omega) (by omega))
  have hR2 : R' 2 = R 2 := hsm 2 (by omega) (by omega) (by omega)
  obtain ⟨a1, a2, a3, a4, a5, a6⟩ := id hM
  obtain ⟨p1, p2, p3⟩ := a6 i (by omega)
  rw [hq i (by omega)] at p1 p3
  have eW : ro R' r 1 = ro R r 1 := hsm _ (by omega) (by omega) (by omega)
  obtain ⟨p4, p5, p6, p7⟩ := p3 h8
  rw [hrq, hyq, eW] at p4
  obtain ⟨d1, d2, d3, d4, d5, d6, d7, d8⟩ := a3.2 r hr12
  have hroom' : ∀ i', i' < R' 2 → rq R' i' 8 = 1 → rq R' i' 9 < 12 ∧ rq R' i' 10 ≤ 1 := by
    intro i' h1 h2
    rw [hR2] at h1
    rw [hq i' (by omega)] at h2 ⊢
    exact hroom i' h1 h2
  refine x_iload d_Bk_lift_27 rfl ?_
  refine x_iload_n d_Bk_lift_29 rfl ?_
  refine x_icmp_ge (tgt := 117) d_Bk_lift_30 (by decide) (fun c30 => ?_) (fun c30 => ?_)
  · have hs2 : s = (SL (rq R i) y (ro R r 1)).length := by have := nI_le' (by omega) (by omega) c30; omega
    rw [hs2, List.drop_length] at hL
    refine x_aload_n d_Bk_lift_117 rfl ?_
    refine x_getR hB.f0 rfl fs_Bk_37 d_Bk_lift_118 ?_
    refine x_iload_n d_Bk_lift_121 rfl ?_
    refine x_v1v d_Bk_lift_122 ml_Bk_165 v_Rm_putBare rfl ⟨rfl, rfl⟩ hB.s29.io (Nat.le_of_ble_eq_true rfl) (ct_Rm_putBare hB.s29 (by omega)) (fun _ hE => ?_)
    subst hE
    refine x_iload d_Bk_lift_125 rfl ?_
    refine x_iret rfl rfl d_Bk_lift_127 (Nat.zero_le _) (Nat.zero_le _) ?_
    have e0 : liftL r (SL (rq R i) y (ro R r 1)) R 0 = (R', n) := hL
    rw [e0] at hlift
    refine ⟨_, rfl, rfl, rfl, hfr.tr (Fr.um (by omega) (by omega)), by rw [hlift], ?_⟩
    rw [hlift]
    dsimp only
    have hne : ∀ j, j ≠ 993 + 12 * i + 8 → bareR R' i j = R' j := fun j h => un_ne _ _ h
    have hqo : ∀ i', i' ≠ i → rq (bareR R' i) i' = rq R' i' := fun i' h => rq_cong (fun w hw => hne _ (by omega))
    have mv : ∀ o, o ≠ β + 29 + 12 → um m (β + 29 + 12) i (nI 0) o = m o := fun o h => um_ne _ _ _ h
    have eld : laidN (bareR R' i) = fun j => laidN (bareR R i) j + if j = r then sumA ((SL (rq R i) y (ro R r 1)).drop s) else 0 := by
      rw [hs2, List.drop_length, laid_cg (R := bareR R i) (R' := bareR R' i) (by rw [hne 2 (by omega)]; exact hR2) (by show un R _ _ 2 ≤ 20; rw [un_ne _ _ (by omega)]; exact h20) (fun i' h => rq_cong (fun w hw => by
        unfold bareR
        by_cases hx : 993 + 12 * i' + w = 993 + 12 * i + 8
        · rw [hx, un_at, un_at]
        · rw [un_ne _ _ hx, un_ne _ _ hx]
          exact hsm _ (by omega) (by omega) (by omega)))]
      funext j
      simp [sumA]
    refine ⟨fun k hk => by rw [mv _ (by omega), hne _ (by omega)]; exact a1 k hk, by rw [mv _ (by omega), hne 3 (by omega)]; exact a2, ?_, ?_, by rw [mv _ (by omega), hne 2 (by omega)]; exact a5, fun i' hi' => ?_⟩
    · rw [eld]
      exact a3.mv (fun o h1 h2 => mv _ (by omega)) (hne 0 (by omega)) (fun r' f h1 h2 => hne _ (by omega))
    · rw [show EL (bareR R' i) = EL R' from EL_far (by omega) a4.2.1 (by omega), hne 1 (by omega)]
      exact a4.mv (fun o h1 h2 => mv _ (by omega))
    · rw [hne 2 (by omega)] at hi'
      by_cases hii : i' = i
      · subst hii
        have e80 : rq (bareR R' i') i' 8 = 0 := by rw [rq_w (by omega)]; exact un_at _ _ _
        have hq8 : q8 (rq (bareR R' i') i') (rq R' i') := by
          intro w hw
          rw [rq_w (by omega), rq_w (by omega)]
          exact hne _ (by omega)
        refine ⟨((a6 i' hi').1.cg hq8).mv (mv _ (by omega)) (mv _ (by omega)) (mv _ (by omega)) (mv _ (by omega)), fun _ => um_eq _ _ _ _, fun z => ?_⟩
        rw [e80] at z
        cases z
      · obtain ⟨x1, x2, x3⟩ := a6 i' hi'
        unfold RoomRep
        rw [hqo i' hii]
        refine ⟨x1.mv (mv _ (by omega)) (mv _ (by omega)) (mv _ (by omega)) (mv _ (by omega)), fun h0 => ?_, fun h1 => ?_⟩
        · rw [um_k _ _ hii]
          exact x2 h0
        · obtain ⟨⟨v1, v2, v3⟩, v4, v5, v6⟩ := x3 h1
          rw [show ro (bareR R' i) (rq R' i' 9) 1 = ro R' (rq R' i' 9) 1 from hne _ (by have := (hroom' i' hi' h1).1; omega)]
          refine ⟨⟨by rw [um_k _ _ hii]; exact v1, by rw [mv _ (by omega)]; exact v2, v3⟩, by rw [mv _ (by omega)]; exact v4, by rw [mv _ (by omega)]; exact v5, fun s hs => ?_⟩
          rw [mv _ (by omega), show sc (bareR R' i) i' s = sc R' i' s from hne _ (by omega)]
          exact v6 s hs
  · have hs3 := nI_nle' (by omega) (by omega) c30
    obtain ⟨⟨o1, o2⟩, o3, o4⟩ := SL_ok hGok hy hW.1 hs3
    have hsd := sumA_drop hs3
    rw [drop_at hs3, liftL_cons] at hL
    refine x_aload_n d_Bk_lift_33 rfl ?_
    refine x_getR hB.f0 rfl fs_Bk_37 d_Bk_lift_34 ?_
    refine x_iload_n d_Bk_lift_37 rfl ?_
    refine x_iload d_Bk_lift_38 rfl ?_
    refine x_v2p d_Bk_lift_40 ml_Bk_84 v_Rm_stripWidth rfl ⟨rfl, rfl⟩ hB.s29.io (Nat.le_of_ble_eq_true rfl) (ct_Rm_stripWidth hB.s29 p1 p4 (by omega)) ?_
    refine x_istore d_Bk_lift_43 (by decide) ?_
    refine x_aload_n d_Bk_lift_45 rfl ?_
    refine x_getR hB.f0 rfl fs_Bk_37 d_Bk_lift_46 ?_
    refine x_iload_n d_Bk_lift_49 rfl ?_
    refine x_iload d_Bk_lift_50 rfl ?_
    refine x_v2p d_Bk_lift_52 ml_Bk_88 v_Rm_stripLength rfl ⟨rfl, rfl⟩ hB.s29.io (Nat.le_of_ble_eq_true rfl) (ct_Rm_stripLength hB.s29 p1 p4 (by omega)) ?_
    refine x_istore d_Bk_lift_55 (by decide) ?_
    refine x_aload_n d_Bk_lift_57 rfl ?_
    refine x_getR hB.f0 rfl fs_Bk_23 d_Bk_lift_58 ?_
    refine x_getR hB.s3.f0 rfl fs_Bk_95 d_Bk_lift_61 ?_
    refine x_iload_n d_Bk_lift_64 rfl ?_
    refine x_iload d_Bk_lift_65 rfl ?_
    refine x_iload d_Bk_lift_67 rfl ?_
    refine x_imul d_Bk_lift_69 ?_
    rw [pk_mul]
    refine x_ineg d_Bk_lift_70 ?_
    refine x_v2v d_Bk_lift_71 ml_Bk_98 v_Rw_add rfl ⟨rfl, rfl⟩ (row_io hB.s3.f11) (Nat.le_of_ble_eq_true rfl) (ct_Rw_add hB.s3.f11 hB.s3.f12 (by omega)) (fun _ hE => ?_)
    subst hE
    rw [d6]
    dsimp only
    rw [if_pos rfl, neg_add (by omega)]
    have hM1 : BL (um m (β + 3 + 12) r (nI (laidN (bareR R i) r + sumA ((SL (rq R i) y (ro R r 1)).drop s) - sw (SL (rq R i) y (ro R r 1)) s * sl (SL (rq R i) y (ro R r 1)) s))) β R' (fun j => laidN (bareR R i) j + if j = r then sumA ((SL (rq R i) y (ro R r 1)).drop (s + 1)) else 0) := by
      refine BL.cg hM hroom' (by omega) (um_ne _ _ _ (by omega)) (by rw [um_o _ _ (by omega)]; exact a2) ?_ (a4.mv (fun o h1 h2 => um_ne _ _ _ (by omega))) (fun o h1 h2 => um_ne _ _ _ (by omega)) (fun _ _ => rfl) (fun _ _ => rfl)
      refine Eq.mp (congrArg (RoRep _ (β + 3) R') ?_) (a3.laid r _)
      funext j
      by_cases hj : j = r
      · rw [if_pos hj, if_pos hj, hj]
        omega
      · rw [if_neg hj, if_neg hj, if_neg hj]
    have hfr1 : Fr β (β + 48) mem (um m (β + 3 + 12) r (nI (laidN (bareR R i) r + sumA ((SL (rq R i) y (ro R r 1)).drop s) - sw (SL (rq R i) y (ro R r 1)) s * sl (SL (rq R i) y (ro R r 1)) s))) := hfr.tr (Fr.um (by omega) (by omega))
    generalize um m (β + 3 + 12) r (nI (laidN (bareR R i) r + sumA ((SL (rq R i) y (ro R r 1)).drop s) - sw (SL (rq R i) y (ro R r 1)) s * sl (SL (rq R i) y (ro R r 1)) s)) = m1 at hM1 hfr1 ⊢
    obtain ⟨z1, z2, z3, z4, z5, z6⟩ := id hM1
    refine x_aload_n d_Bk_lift_74 rfl ?_
    refine x_getR hB.f0 rfl fs_Bk_30 d_Bk_lift_75 ?_
    refine x_iload_n d_Bk_lift_78 rfl ?_
    refine x_iload d_Bk_lift_79 rfl ?_
    refine x_iload d_Bk_lift_81 rfl ?_
    refine x_v3i d_Bk_lift_83 ml_Bk_159 v_Of_append rfl ⟨rfl, rfl⟩ hB.s20.io (Nat.le_of_ble_eq_true rfl) (ct_Of_append hB.s20 z4 hr12 (by omega) o4) (fun r83 mem83 h83 => ?_)
    refine x_if_eq (tgt := 95) d_Bk_lift_86 (by decide) (fun c86 => ?_) (fun c86 => ?_)
    · rcases h83 with ⟨q1, q2, q3⟩ | ⟨q1, q2, q3⟩
      · rw [if_pos (show 60 ≤ nK R' ∨ 300 ≤ R' 1 from q1)] at hL
        subst q3
        refine x_aload_n d_Bk_lift_95 rfl ?_
        refine x_getR hB.f0 rfl fs_Bk_23 d_Bk_lift_96 ?_
        refine x_getR hB.s3.f0 rfl fs_Bk_156 d_Bk_lift_99 ?_
        refine x_iload_n d_Bk_lift_102 rfl ?_
        refine x_iload d_Bk_lift_103 rfl ?_
        refine x_iload d_Bk_lift_105 rfl ?_
        refine x_imul d_Bk_lift_107 ?_
        rw [pk_mul]
        refine x_v2v d_Bk_lift_108 ml_Bk_98 v_Rw_add rfl ⟨rfl, rfl⟩ (row_io hB.s3.f13) (Nat.le_of_ble_eq_true rfl) (ct_Rw_add hB.s3.f13 hB.s3.f14 (by omega)) (fun _ hE => ?_)
        subst hE
        rw [(z3.2 r hr12).2.2.2.2.2.2.1, nI_add]
        refine x_iinc d_Bk_lift_111 rfl (by first | exact inc1 _ | rfl) (by decide) ?_
        refine x_goto (tgt := 27) d_Bk_lift_114 (by decide) ?_
        have hne : ∀ j, j ≠ 9 + 7 * r + 5 → wasteR R' r (sw (SL (rq R i) y (ro R r 1)) s * sl (SL (rq R i) y (ro R r 1)) s) j = R' j := fun j h => un_ne _ _ h
        exact ih hs3 _ (wasteR R' r (sw (SL (rq R i) y (ro R r 1)) s * sl (SL (rq R i) y (ro R r 1)) s)) n _ _ (BL.cg hM1 hroom' (by omega) (um_ne _ _ _ (by omega)) (by rw [um_o _ _ (by omega), hne 3 (by omega)]; exact z2) (z3.waste hr12 _) (by rw [EL_waste hr12 z4.2.1, hne 1 (by omega)]; exact z4.mv (fun o h1 h2 => um_ne _ _ _ (by omega))) (fun o h1 h2 => um_ne _ _ _ (by omega)) (fun j hj => hne _ (by omega)) (fun r' h1 => hne _ (by omega))) hL (fun j h1 h2 h3 => (hne j h2).trans (hsm j h1 h2 h3)) (hfr1.tr (Fr.um (by omega) (by omega)))
      · rw [q2] at c86
        exact absurd c86 (by decide)
    · rcases h83 with ⟨q1, q2, q3⟩ | ⟨q1, q2, q3, q4⟩
      · rw [q2] at c86
        exact absurd rfl c86
      · rw [if_neg (show ¬ (60 ≤ nK R' ∨ 300 ≤ R' 1) from q1)] at hL
        refine x_iinc d_Bk_lift_89 rfl (by first | exact inc1 _ | rfl) (by decide) ?_
        have h300 : R' 1 < 300 := by omega
        have hgo := ih hs3 mem83 (addR R' r (sw (SL (rq R i) y (ro R r 1)) s) (sl (SL (rq R i) y (ro R r 1)) s)) (n + 1) (some (.int (nI (sw (SL (rq R i) y (ro R r 1)) s)))) (some (.int (nI (sl (SL (rq R i) y (ro R r 1)) s)))) (BL.cg hM1 hroom' (by omega) (q4 _ (by omega)) (by rw [q4 _ (by omega), addR_ne h300 (by omega) (by omega)]; exact z2) (z3.mv (fun o h1 h2 => q4 _ (by omega)) (addR_ne h300 (by omega) (by omega)) (fun r' f h1 h2 => addR_ne h300 (by omega) (by omega))) (by rw [EL_add, show addR R' r (sw (SL (rq R i) y (ro R r 1)) s) (sl (SL (rq R i) y (ro R r 1)) s) 1 = R' 1 + 1 from un_at _ _ _]; exact q3) (fun o h1 h2 => q4 _ (by omega)) (fun j hj => addR_ne h300 (by omega) (by omega)) (fun r' h1 => addR_ne h300 (by omega) (by omega))) hL (fun j h1 h2 h3 => (addR_ne h300 h1 h3).trans (hsm j h1 h2 h3)) (hfr1.tr (q4.up (by omega) (by omega)))
        refine x_goto (tgt := 111) d_Bk_lift_92 (by decide) ?_
        refine x_iinc d_Bk_lift_111 rfl (by first | exact inc1 _ | rfl) (by decide) ?_
        refine x_goto (tgt := 27) d_Bk_lift_114 (by decide) ?_
        exact hgo
end
