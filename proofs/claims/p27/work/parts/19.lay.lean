/-! Book.lay -/
theorem coverL_cons (r W i : Nat) (p : Nat × Nat) (ps : List (Nat × Nat)) (s : Nat) (R : RS) : coverL r W i (p :: ps) s R = if (stripS R r W i s p.1 p.2).1 = 0 then coverL r W i ps (s + 1) (stripS R r W i s p.1 p.2).2 else stripS R r W i s p.1 p.2 := rfl
theorem drop_at {S : List (Nat × Nat)} {s : Nat} (h : s < S.length) : S.drop s = (sw S s, sl S s) :: S.drop (s + 1) := by
  rw [List.drop_eq_getElem_cons h, sw, sl, List.getElem?_eq_getElem h]
  rfl
theorem nz_fst {e : Nat} {R : RS} (h : e ≠ 0) : ¬ ((e, R) : Nat × RS).1 = 0 := h
def LayP (β : Nat) (mem : Mem) (R : RS) (i r y : Nat) (x : Int32) (m : Mem) : Prop := Fr β (β + 48) mem m ∧ (((coverS R i r y).1 = 0 ∧ x = nI (priceS R i r y) ∧ BookRep m β (coverS R i r y).2) ∨ ((coverS R i r y).1 ≠ 0 ∧ x = errI (coverS R i r y).1))
theorem TP.fr {β r ix i s PW PL : Nat} {mem m : Mem} {R' : RS} (h : TP β r ix mem m R' i s PW PL) : Fr β (β + 48) mem m := fun o ho => h.2.2.2.2.2.2.2.2 o (by omega) (by omega) (by omega) (by omega)
section
variable {l : Launch} {g : XG} {sh : Nat → Sh} {mem : Mem} {β : Nat} {R : RS}
theorem ct_Bk_lay (hB : LayBk sh β) (hI : Inv R) (hb : BookRep mem β R) {i r y : Nat} (hi : i < R 2) (hr : r < R 0) (hy : y ≤ 1) : Ct l g M_Bk_lay [rf g β, .int (nI i), .int (nI r), .int (nI y)] none sh mem (Ri none sh (LayP β mem R i r y)) := by
  obtain ⟨⟨i1, i2, i3⟩, ⟨i4, ⟨i5, i6⟩, i7, ⟨i8, i9⟩, i10⟩, i11, i12, i13, i14, i15⟩ := hI
  obtain ⟨b1, b2, b3, b4, b5, b6⟩ := hb
  obtain ⟨g1, g2, g3⟩ := b6 i hi
  obtain ⟨k1, k2, k3⟩ := i13 i hi
  obtain ⟨w0, hw0, hw60, hwiff⟩ := (b6 i hi).w k2
  obtain ⟨v1, v2, v3, v4, v5⟩ := i11 r hr
  obtain ⟨c1, c2, c3, c4, c5, c6, c7, c8⟩ := b3.2 r (by omega)
  have hroom : ∀ i, i < R 2 → rq R i 8 = 1 → rq R i 9 < 12 ∧ rq R i 10 ≤ 1 := fun i h1 h2 => ⟨by have := ((i13 i h1).2.2 h2).1; omega, ((i13 i h1).2.2 h2).2⟩
  have hS36 : (SL (rq R i) y (ro R r 1)).length ≤ 36 := by rw [SL_len]; exact stripsN_le k1 hy v2.1
  refine x_begin rfl rfl rfl (by decide) rfl ?_
  refine x_aload_n d_Bk_lay_0 rfl ?_
  refine x_getR hB.f0 rfl fs_Bk_37 d_Bk_lay_1 ?_
  refine x_iload_n d_Bk_lay_4 rfl ?_
  refine x_v1p d_Bk_lay_5 ml_Bk_62 v_Rm_isCovered rfl ⟨rfl, rfl⟩ hB.s29.io (Nat.le_of_ble_eq_true rfl) (ct_Rm_isCovered hB.s29 (by omega) hw0 hw60) ?_
  refine x_if_eq (tgt := 14) d_Bk_lay_8 (by decide) (fun c8 => ?_) (fun c8 => ?_)
  · have h8 : rq R i 8 = 0 := by have h9 := bI_0.mp c8; omega
    have hJ : ¬ (R 8 = 1 ∧ acr (rq R i) y = true) → X l g M_Bk_lay (XF g (Ri none sh (LayP β mem R i r y)) M_Bk_lay) 41 [some (rf g β), some (.int (nI i)), some (.int (nI r)), some (.int (nI y)), none, none, none, none] [] none sh mem 0 0 := by
      intro hnc
      have hcov : coverS R i r y = if (coverL r (ro R r 1) i (SL (rq R i) y (ro R r 1)) 0 R).1 = 0 then (0, finS (coverL r (ro R r 1) i (SL (rq R i) y (ro R r 1)) 0 R).2 i r y (priceS R i r y)) else coverL r (ro R r 1) i (SL (rq R i) y (ro R r 1)) 0 R := by rw [coverS, if_neg (by omega), if_neg hnc]
      refine x_aload_n d_Bk_lay_41 rfl ?_
      refine x_getR hB.f0 rfl fs_Bk_37 d_Bk_lay_42 ?_
      refine x_iload_n d_Bk_lay_45 rfl ?_
      refine x_iload_n d_Bk_lay_46 rfl ?_
      refine x_aload_n d_Bk_lay_47 rfl ?_
      refine x_getR hB.f0 rfl fs_Bk_23 d_Bk_lay_48 ?_
      refine x_getR hB.s3.f0 rfl fs_Bk_74 d_Bk_lay_51 ?_
      refine x_iload_n d_Bk_lay_54 rfl ?_
      refine x_v1p d_Bk_lay_55 ml_Bk_66 v_Rw_at rfl ⟨rfl, rfl⟩ (row_io hB.s3.f3) (Nat.le_of_ble_eq_true rfl) (ct_Rw_at hB.s3.f3 hB.s3.f4 (by omega)) ?_
      rw [c2]
      refine x_iload_n d_Bk_lay_58 rfl ?_
      refine x_v4v d_Bk_lay_59 ml_Bk_77 v_Rm_putCovering rfl ⟨rfl, rfl⟩ hB.s29.io (Nat.le_of_ble_eq_true rfl) (ct_Rm_putCovering hB.s29 (by omega)) (fun _ hE => ?_)
      subst hE
      have hM0 : MB (um (um (um mem (β + 29 + 10) i (nI r)) (β + 29 + 12) i (nI (ro R r 1))) (β + 29 + 14) i (nI y)) β R (laidN R) i r (ro R r 1) y 0 := by
        have mv : ∀ o, o ≠ β + 29 + 10 → o ≠ β + 29 + 12 → o ≠ β + 29 + 14 → um (um (um mem (β + 29 + 10) i (nI r)) (β + 29 + 12) i (nI (ro R r 1))) (β + 29 + 14) i (nI y) o = mem o := fun o h1 h2 h3 => by rw [um_ne _ _ _ h3, um_ne _ _ _ h2, um_ne _ _ _ h1]
        have mk : ∀ o j, j ≠ i → um (um (um mem (β + 29 + 10) i (nI r)) (β + 29 + 12) i (nI (ro R r 1))) (β + 29 + 14) i (nI y) o j = mem o j := by
          intro o j hj
          simp [um, hj]
        refine ⟨fun q hq => ?_, ?_, ⟨?_, fun r' hr' => ?_⟩, b4.mv (fun o h1 h2 => mv o (by omega) (by omega) (by omega)), ?_, fun i' hi' hne => ?_, ?_, ⟨?_, ?_, hy, v2.1, v2.2⟩, ?_, fun s hs => absurd hs (by omega)⟩
        · rw [mv _ (by omega) (by omega) (by omega)]; exact b1 q hq
        · rw [mv _ (by omega) (by omega) (by omega)]; exact b2
        · rw [mv _ (by omega) (by omega) (by omega)]; exact b3.1
        · rw [mv _ (by omega) (by omega) (by omega), mv _ (by omega) (by omega) (by omega), mv _ (by omega) (by omega) (by omega), mv _ (by omega) (by omega) (by omega), mv _ (by omega) (by omega) (by omega), mv _ (by omega) (by omega) (by omega), mv _ (by omega) (by omega) (by omega), mv _ (by omega) (by omega) (by omega)]; exact b3.2 r' hr'
        · rw [mv _ (by omega) (by omega) (by omega)]; exact b5
        · obtain ⟨p1, p2, p3⟩ := b6 i' hi'
          refine ⟨p1.mv (mv _ (by omega) (by omega) (by omega)) (mv _ (by omega) (by omega) (by omega)) (mv _ (by omega) (by omega) (by omega)) (mv _ (by omega) (by omega) (by omega)), fun z => ?_, fun z => ?_⟩
          · rw [mk _ _ hne]; exact p2 z
          · obtain ⟨⟨u1, u2, u3⟩, u4, u5, u6⟩ := p3 z
            refine ⟨⟨by rw [mk _ _ hne]; exact u1, by rw [mk _ _ hne]; exact u2, u3⟩, by rw [mk _ _ hne]; exact u4, by rw [mk _ _ hne]; exact u5, fun s hs => ?_⟩
            rw [mv _ (by omega) (by omega) (by omega)]; exact u6 s hs
        · exact g1.mv (mv _ (by omega) (by omega) (by omega)) (mv _ (by omega) (by omega) (by omega)) (mv _ (by omega) (by omega) (by omega)) (mv _ (by omega) (by omega) (by omega))
        · rw [um_o _ _ (by omega), um_eq]
        · rw [um_eq]
        · rw [um_o _ _ (by omega), um_o _ _ (by omega), um_eq]
      have hF0 : Fr β (β + 48) mem (um (um (um mem (β + 29 + 10) i (nI r)) (β + 29 + 12) i (nI (ro R r 1))) (β + 29 + 14) i (nI y)) := fun o ho => by rw [um_ne _ _ _ (by omega), um_ne _ _ _ (by omega), um_ne _ _ _ (by omega)]
      generalize um (um (um mem (β + 29 + 10) i (nI r)) (β + 29 + 12) i (nI (ro R r 1))) (β + 29 + 14) i (nI y) = m0 at hM0 hF0 ⊢
      refine x_aload_n d_Bk_lay_62 rfl ?_
      refine x_getR hB.f0 rfl fs_Bk_37 d_Bk_lay_63 ?_
      refine x_iload_n d_Bk_lay_66 rfl ?_
      refine x_v1p d_Bk_lay_67 ml_Bk_81 v_Rm_strips rfl ⟨rfl, rfl⟩ hB.s29.io (Nat.le_of_ble_eq_true rfl) (ct_Rm_strips hB.s29 hM0.2.2.2.2.2.2.1 hM0.2.2.2.2.2.2.2.1) ?_
      refine x_istore d_Bk_lay_70 (by decide) ?_
      refine x_iconst (v := nI 0) d_Bk_lay_72 (by decide) ?_
      refine x_istore d_Bk_lay_73 (by decide) ?_
      rw [← SL_len]
      refine up_ind (SL (rq R i) y (ro R r 1)).length (P := fun s => ∀ (m : Mem) (R' : RS) (u6 u7 : Option Value), MB m β R' (fun j => laidN R j + if j = r then sumA ((SL (rq R i) y (ro R r 1)).take s) else 0) i r (ro R r 1) y s → coverL r (ro R r 1) i (SL (rq R i) y (ro R r 1)) 0 R = coverL r (ro R r 1) i ((SL (rq R i) y (ro R r 1)).drop s) s R' → Same R R' i r → ro R' r 2 ≤ 999 → Fr β (β + 48) mem m → X l g M_Bk_lay (XF g (Ri none sh (LayP β mem R i r y)) M_Bk_lay) 75 [some (rf g β), some (.int (nI i)), some (.int (nI r)), some (.int (nI y)), some (.int (nI (SL (rq R i) y (ro R r 1)).length)), some (.int (nI s)), u6, u7] [] none sh m 0 0) (fun s hs ih m R' u6 u7 hM hL hsm hle hfr => ?_) 0 (Nat.zero_le _) m0 R _ _ (by simpa [sumA] using hM0) rfl Same.rf v3 hF0
      have hq : rq R' i = rq R i := hsm.rq (by omega) (by omega)
      have hro : ∀ f, f < 7 → f ≠ 2 → f ≠ 5 → ro R' r f = ro R r f := fun f h1 h2 h3 => hsm.ro (by omega) h1 (Or.inl ⟨h2, h3⟩)
      have hR' : ∀ j, j < 9 → j ≠ 1 → R' j = R j := fun j h1 h2 => hsm j h2 (by omega) (by omega) (by omega) (by omega)
      obtain ⟨a1, a2, a3, a4, a5, a6, a7, a8, a9, a10⟩ := id hM
      obtain ⟨d1, d2, d3, d4, d5, d6, d7, d8⟩ := a3.2 r (by omega)
      rw [hq] at a7
      have hroom' : ∀ i, i < R' 2 → rq R' i 8 = 1 → rq R' i 9 < 12 ∧ rq R' i 10 ≤ 1 := by
        intro i' h1 h2
        rw [hR' 2 (by omega) (by omega)] at h1
        rw [hsm.rq (by omega) (by omega)] at h2 ⊢
        exact hroom i' h1 h2
      refine x_iload d_Bk_lay_75 rfl ?_
      refine x_iload d_Bk_lay_77 rfl ?_
      refine x_icmp_ge (tgt := 161) d_Bk_lay_79 (by decide) (fun c79 => ?_) (fun c79 => ?_)
      · have hs2 : s = (SL (rq R i) y (ro R r 1)).length := by have := nI_le' (by omega) (by omega) c79; omega
        rw [hs2, List.drop_length] at hL
        refine x_aload_n d_Bk_lay_161 rfl ?_
        refine x_getR hB.f0 rfl fs_Bk_37 d_Bk_lay_162 ?_
        refine x_iload_n d_Bk_lay_165 rfl ?_
        refine x_v1p d_Bk_lay_166 ml_Bk_105 v_Rm_area rfl ⟨rfl, rfl⟩ hB.s29.io (Nat.le_of_ble_eq_true rfl) (ct_Rm_area hB.s29 a7) ?_
        refine x_aload_n d_Bk_lay_169 rfl ?_
        refine x_getR hB.f0 rfl fs_Bk_23 d_Bk_lay_170 ?_
        refine x_getR hB.s3.f0 rfl fs_Bk_108 d_Bk_lay_173 ?_
        refine x_iload_n d_Bk_lay_176 rfl ?_
        refine x_v1p d_Bk_lay_177 ml_Bk_66 v_Rw_at rfl ⟨rfl, rfl⟩ (row_io hB.s3.f7) (Nat.le_of_ble_eq_true rfl) (ct_Rw_at hB.s3.f7 hB.s3.f8 (by omega)) ?_
        rw [d4, hro 3 (by omega) (by omega) (by omega)]
        refine x_imul d_Bk_lay_180 ?_
        rw [pk_mul]
        refine x_aload_n d_Bk_lay_181 rfl ?_
        refine x_getR hB.f0 rfl fs_Bk_37 d_Bk_lay_182 ?_
        refine x_iload_n d_Bk_lay_185 rfl ?_
        refine x_v1p d_Bk_lay_186 ml_Bk_111 v_Rm_seams rfl ⟨rfl, rfl⟩ hB.s29.io (Nat.le_of_ble_eq_true rfl) (ct_Rm_seams hB.s29 a7 a8) ?_
        refine x_aload_n d_Bk_lay_189 rfl ?_
        refine x_iload_n d_Bk_lay_190 rfl ?_
        refine x_iload_n d_Bk_lay_191 rfl ?_
        refine x_v2p d_Bk_lay_192 ml_Bk_114 v_Bk_seamPrice rfl ⟨rfl, rfl⟩ hB.io (Nat.le_of_ble_eq_true rfl) (ct_Bk_seamPrice hB (R := R') a1 (by rw [hq]; exact a7) hy) ?_
        refine x_imul d_Bk_lay_195 ?_
        rw [pk_mul]
        refine x_iadd d_Bk_lay_196 ?_
        rw [nI_add, hq, hR' 6 (by omega) (by omega), hR' 7 (by omega) (by omega), show areaN (rq R i) * ro R r 3 + seamN (rq R i) y (ro R r 1) * (R 6 * (if acr (rq R i) y then R 7 else 1)) = priceS R i r y from rfl]
        refine x_istore d_Bk_lay_197 (by decide) ?_
        refine x_aload_n d_Bk_lay_199 rfl ?_
        refine x_getR hB.f0 rfl fs_Bk_37 d_Bk_lay_200 ?_
        refine x_getR hB.s29.f0 rfl fs_Bk_117 d_Bk_lay_203 ?_
        refine x_iload_n d_Bk_lay_206 rfl ?_
        refine x_iload d_Bk_lay_207 rfl ?_
        refine x_v2v d_Bk_lay_209 ml_Bk_41 v_Rw_put rfl ⟨rfl, rfl⟩ (row_io hB.s29.f15) (Nat.le_of_ble_eq_true rfl) (ct_Rw_put hB.s29.f15 hB.s29.f16 (by omega)) (fun _ hE => ?_)
        subst hE
        refine x_aload_n d_Bk_lay_212 rfl ?_
        refine x_dup d_Bk_lay_213 rfl ?_
        refine x_getI hB.f0 rfl fs_Bk_58 d_Bk_lay_214 ?_
        rw [um_o _ _ (show β ≠ β + 29 + 16 by omega), a2]
        refine x_iload d_Bk_lay_217 rfl ?_
        refine x_iadd d_Bk_lay_219 ?_
        rw [nI_add]
        refine x_putI hB.f0 rfl ps_Bk_58 rfl rfl d_Bk_lay_220 ?_
        refine x_iload d_Bk_lay_223 rfl ?_
        refine x_iret rfl rfl d_Bk_lay_225 (Nat.zero_le _) (Nat.zero_le _) ?_
        have eW : ro R' r 1 = ro R r 1 := hro 1 (by omega) (by omega) (by omega)
        have hfin := MB_fin (p := priceS R i r y) (by rw [eW]; exact hM) (by rw [eW, hq, hs2, SL_len]) (by rw [hR' 2 (by omega) (by omega)]; exact hi) (by rw [hR' 2 (by omega) (by omega)]; exact i3) (by omega) (by rw [hq]; exact h8) hroom' (fun j => by
          rw [hs2, List.take_length, SL_sum k1 hy (by omega), hq]
          congr 1
          unfold laidN
          rw [hR' 2 (by omega) (by omega)]
          exact (sN_cong _ (fun k hk => by rw [hsm.rq (by omega) (by omega)])).symm)
        have e0 : coverL r (ro R r 1) i (SL (rq R i) y (ro R r 1)) 0 R = (0, R') := hL
        rw [e0, if_pos rfl] at hcov
        exact ⟨_, rfl, rfl, rfl, hfr.tr ((Fr.um (by omega) (by omega)).tr (Fr.um (by omega) (by omega))), Or.inl ⟨by rw [hcov], rfl, by rw [hcov]; exact hfin⟩⟩
      · have hs3 := nI_nle' (by omega) (by omega) c79
        obtain ⟨⟨o1, o2⟩, o3, o4⟩ := SL_ok k1 hy v2.1 hs3
        rw [drop_at hs3, coverL_cons] at hL
        refine x_aload_n d_Bk_lay_82 rfl ?_
        refine x_getR hB.f0 rfl fs_Bk_37 d_Bk_lay_83 ?_
        refine x_iload_n d_Bk_lay_86 rfl ?_
        refine x_iload d_Bk_lay_87 rfl ?_
        refine x_v2p d_Bk_lay_89 ml_Bk_84 v_Rm_stripWidth rfl ⟨rfl, rfl⟩ hB.s29.io (Nat.le_of_ble_eq_true rfl) (ct_Rm_stripWidth hB.s29 a7 a8 (by omega)) ?_
        refine x_istore d_Bk_lay_92 (by decide) ?_
        refine x_aload_n d_Bk_lay_94 rfl ?_
        refine x_getR hB.f0 rfl fs_Bk_37 d_Bk_lay_95 ?_
        refine x_iload_n d_Bk_lay_98 rfl ?_
        refine x_iload d_Bk_lay_99 rfl ?_
        refine x_v2p d_Bk_lay_101 ml_Bk_88 v_Rm_stripLength rfl ⟨rfl, rfl⟩ hB.s29.io (Nat.le_of_ble_eq_true rfl) (ct_Rm_stripLength hB.s29 a7 a8 (by omega)) ?_
        refine x_istore d_Bk_lay_104 (by decide) ?_
        refine x_aload_n d_Bk_lay_106 rfl ?_
        refine x_iload_n d_Bk_lay_107 rfl ?_
        refine x_iload d_Bk_lay_108 rfl ?_
        refine x_iload d_Bk_lay_110 rfl ?_
        refine x_iload_n d_Bk_lay_112 rfl ?_
        refine x_iload d_Bk_lay_113 rfl ?_
        refine x_v5i d_Bk_lay_115 ml_Bk_91 v_Bk_takePiece rfl ⟨rfl, rfl⟩ hB.io (Nat.le_of_ble_eq_true rfl) (ct_Bk_takePiece hB (R := R') (W := ro R r 1) a4 (by omega) (by omega) (by omega) d3 hle (by rw [d2, hro 1 (by omega) (by omega) (by omega)]) o2 v2.2 o4) (fun r115 mem115 h115 => ?_)
        refine x_if_ne (tgt := 124) d_Bk_lay_118 (by decide) (fun c118 => ?_) (fun c118 => ?_)
        · rcases h115 with ⟨q1, q2, q3⟩ | ⟨R1, PW, PL, q1, q2, q3, ⟨q4, q5⟩, q6, q7⟩
          · rw [q2] at c118
            exact absurd rfl c118
          · obtain ⟨t1, t2, t3, t4, t5, t6, t7, t8, t9⟩ := id q3
            obtain ⟨s1, s2, s3, s4, s5⟩ := takeS_same (by omega) (by omega) a4.2.1 q1
            have hR1 : ∀ j, j < 9 → j ≠ 1 → R1 j = R j := fun j h1 h2 => (s1 j h2 (by omega) (by omega) (by omega) (by omega)).trans (hR' j h1 h2)
            refine x_aload_n d_Bk_lay_124 rfl ?_
            refine x_getR hB.f0 rfl fs_Bk_23 d_Bk_lay_125 ?_
            refine x_getR hB.s3.f0 rfl fs_Bk_95 d_Bk_lay_128 ?_
            refine x_iload_n d_Bk_lay_131 rfl ?_
            refine x_iload d_Bk_lay_132 rfl ?_
            refine x_iload d_Bk_lay_134 rfl ?_
            refine x_imul d_Bk_lay_136 ?_
            rw [pk_mul]
            refine x_v2v d_Bk_lay_137 ml_Bk_98 v_Rw_add rfl ⟨rfl, rfl⟩ (row_io hB.s3.f11) (Nat.le_of_ble_eq_true rfl) (ct_Rw_add hB.s3.f11 hB.s3.f12 (by omega)) (fun _ hE => ?_)
            subst hE
            refine x_aload_n d_Bk_lay_140 rfl ?_
            refine x_iload_n d_Bk_lay_141 rfl ?_
            refine x_iload d_Bk_lay_142 rfl ?_
            refine x_iload d_Bk_lay_144 rfl ?_
            refine x_v3i d_Bk_lay_146 ml_Bk_101 v_Bk_leaveRests rfl ⟨rfl, rfl⟩ hB.io (Nat.le_of_ble_eq_true rfl) (ct_Bk_leaveRests hB (R := R1) (fun q hq => by rw [um_ne _ _ _ (by omega), t9 _ (by omega) (by omega) (by omega) (by omega), hR1 _ (by omega) (by omega), ← hR' _ (by omega) (by omega)]; exact a1 q hq) (by rw [hR1 4 (by omega) (by omega)]; exact i4) (by rw [hR1 5 (by omega) (by omega)]; exact i6) (t1.mv (fun o h1 h2 => um_ne _ _ _ (by omega))) (by omega) (by rw [um_o _ _ (by omega), t9 _ (by omega) (by omega) (by omega) (by omega), d7, s3]) (by rw [um_o _ _ (by omega)]; exact t3) (by rw [um_o _ _ (by omega)]; exact t4) q4 q6 q5 q7) (fun r146 mem146 h146 => ?_)
            refine x_if_ne (tgt := 155) d_Bk_lay_149 (by decide) (fun c149 => ?_) (fun c149 => ?_)
            · rcases h146 with ⟨z1, z2, z3⟩ | ⟨R2, z1, z2, z3⟩
              · rw [z2] at c149
                exact absurd rfl c149
              · have e0 : stripS R' r (ro R r 1) i s (sw (SL (rq R i) y (ro R r 1)) s) (sl (SL (rq R i) y (ro R r 1)) s) = (0, R2) := by rw [stripS, q1]; dsimp only; rw [z1]
                rw [e0, if_pos rfl] at hL
                refine x_iinc d_Bk_lay_155 rfl (by first | exact inc1 _ | rfl) (by decide) ?_
                refine x_goto (tgt := 75) d_Bk_lay_158 (by decide) ?_
                have hst := MB_step hM (by omega) (by omega) (by omega) (by rw [hR' 2 (by omega) (by omega)]; exact i3) hroom' q1 q3 z1 z3
                refine ih hs3 mem146 R2 _ _ ?_ hL ((hsm.tr s1).tr (cutS_Same z1)) ?_ ((hfr.tr q3.fr).tr ((Fr.um (by omega) (by omega)).tr z3.fr))
                · refine Eq.mp (congrArg (fun f => MB mem146 β R2 f i r (ro R r 1) y (s + 1)) ?_) hst
                  funext j
                  rw [sumA_take hs3]
                  by_cases hj : j = r
                  · rw [if_pos hj, if_pos hj, if_pos hj]
                    omega
                  · rw [if_neg hj, if_neg hj, if_neg hj]
                · have e5 : ro R2 r 2 = ro R1 r 2 := cutS_same z1 _ (by omega) (by omega) (by omega)
                  omega
            · rcases h146 with ⟨z1, z2, z3⟩ | ⟨R2, z1, z2, z3⟩
              · have e4 : stripS R' r (ro R r 1) i s (sw (SL (rq R i) y (ro R r 1)) s) (sl (SL (rq R i) y (ro R r 1)) s) = (4, R') := by rw [stripS, q1]; dsimp only; rw [z1]
                rw [e4, if_neg (nz_fst (by decide))] at hL
                refine x_bipush (v := -14) d_Bk_lay_152 (by decide) ?_
                refine x_iret rfl rfl d_Bk_lay_154 (Nat.zero_le _) (Nat.zero_le _) ?_
                exact ⟨_, rfl, rfl, rfl, (hfr.tr q3.fr).tr ((Fr.um (by omega) (by omega)).tr z3), Or.inr ⟨by rw [hcov, hL, if_neg (nz_fst (by decide))]; exact nz_fst (by decide), by rw [hcov, hL]; rfl⟩⟩
              · rw [z2] at c149
                exact absurd c149 (by decide)
        · rcases h115 with ⟨q1, q2, q3⟩ | ⟨R1, PW, PL, q1, q2, q3, ⟨q4, q5⟩, q6, q7⟩
          · have e3 : stripS R' r (ro R r 1) i s (sw (SL (rq R i) y (ro R r 1)) s) (sl (SL (rq R i) y (ro R r 1)) s) = (3, R') := by rw [stripS, q1]
            rw [e3, if_neg (nz_fst (by decide))] at hL
            refine x_bipush (v := -13) d_Bk_lay_121 (by decide) ?_
            refine x_iret rfl rfl d_Bk_lay_123 (Nat.zero_le _) (Nat.zero_le _) ?_
            exact ⟨_, rfl, rfl, rfl, by rw [q3]; exact hfr, Or.inr ⟨by rw [hcov, hL, if_neg (nz_fst (by decide))]; exact nz_fst (by decide), by rw [hcov, hL]; rfl⟩⟩
          · rw [q2] at c118
            exact absurd c118 (by decide)
    refine x_aload_n d_Bk_lay_14 rfl ?_
    refine x_getR hB.f0 rfl fs_Bk_14 d_Bk_lay_15 ?_
    refine x_iconst (v := nI 4) d_Bk_lay_18 (by decide) ?_
    refine x_v1p d_Bk_lay_19 ml_Bk_66 v_Rw_at rfl ⟨rfl, rfl⟩ (row_io hB.f1) (Nat.le_of_ble_eq_true rfl) (ct_Rw_at hB.f1 hB.f2 (by omega)) ?_
    rw [show mem (β + 2) 4 = nI (R 8) from b1 4 (by decide)]
    refine x_iconst (v := nI 1) d_Bk_lay_22 (by decide) ?_
    refine x_icmp_ne (tgt := 41) d_Bk_lay_23 (by decide) (fun c23 => ?_) (fun c23 => ?_)
    · have c23 := nI_ne' c23
      exact hJ (by omega)
    · have c23 := nI_eq' (by omega) (by omega) c23
      refine x_aload_n d_Bk_lay_26 rfl ?_
      refine x_getR hB.f0 rfl fs_Bk_37 d_Bk_lay_27 ?_
      refine x_iload_n d_Bk_lay_30 rfl ?_
      refine x_iload_n d_Bk_lay_31 rfl ?_
      refine x_v2p d_Bk_lay_32 ml_Bk_70 v_Rm_isAcross rfl ⟨rfl, rfl⟩ hB.s29.io (Nat.le_of_ble_eq_true rfl) (ct_Rm_isAcross hB.s29 g1 hy) ?_
      refine x_if_eq (tgt := 41) d_Bk_lay_35 (by decide) (fun c35 => ?_) (fun c35 => ?_)
      · have c35 := bI_0.mp c35
        exact hJ (fun z => c35 z.2)
      · have c35 := bI_n.mp c35
        refine x_bipush (v := -12) d_Bk_lay_38 (by decide) ?_
        refine x_iret rfl rfl d_Bk_lay_40 (Nat.zero_le _) (Nat.zero_le _) ?_
        have e2 : coverS R i r y = (2, R) := by rw [coverS, if_neg (by omega), if_pos ⟨c23, c35⟩]
        exact ⟨_, rfl, rfl, rfl, Fr.rf, Or.inr ⟨by rw [e2]; exact nz_fst (by decide), by rw [e2]; rfl⟩⟩
  · have h8 : rq R i 8 = 1 := hwiff.mp (bI_n.mp c8)
    refine x_bipush (v := -11) d_Bk_lay_11 (by decide) ?_
    refine x_iret rfl rfl d_Bk_lay_13 (Nat.zero_le _) (Nat.zero_le _) ?_
    exact ⟨_, rfl, rfl, rfl, Fr.rf, Or.inr ⟨by rw [coverS, if_pos h8]; exact nz_fst (by decide), by rw [coverS, if_pos h8]; rfl⟩⟩
end
