/-! taking up, selling, throwing away, what suffices -/
theorem BL.cg {mem m : Mem} {β : Nat} {R R' : RS} {ld ld' : Nat → Nat} (hb : BL mem β R ld) (hw : ∀ i, i < R 2 → rq R i 8 = 1 → rq R i 9 < 12 ∧ rq R i 10 ≤ 1) (h20 : R 2 ≤ 20) (h2 : m (β + 2) = mem (β + 2)) (h4 : m β 4 = nI (R' 3)) (hro : RoRep m (β + 3) R' ld') (hof : OfRep m (β + 20) (EL R') (R' 1)) (h29 : ∀ o, β + 29 ≤ o → o < β + 48 → m o = mem o) (hR : ∀ j, j = 2 ∨ (4 ≤ j ∧ j < 9) ∨ (993 ≤ j ∧ j < 1953) → R' j = R j) (hr1 : ∀ r, r < 12 → ro R' r 1 = ro R r 1) : BL m β R' ld' := by
  obtain ⟨b1, b2, b3, b4, b5, b6⟩ := hb
  refine ⟨fun k hk => by rw [h2, hR _ (by omega)]; exact b1 k hk, h4, hro, hof, by rw [h29 _ (by omega) (by omega), hR 2 (by omega)]; exact b5, fun i hi => ?_⟩
  rw [hR 2 (by omega)] at hi
  exact (b6 i hi).mv (fun z => (hw i hi z).2) (fun j hj => h29 _ (by omega) (by omega)) (fun s hs => by rw [h29 _ (by omega) (by omega)]) (rq_cong (fun w hw2 => hR _ (by omega))) (fun z => hr1 _ (hw i hi z).1) (fun s hs => hR _ (by omega))
theorem RoRep.mv {mem m : Mem} {ρ : Nat} {R R' : RS} {ld : Nat → Nat} (h : RoRep mem ρ R ld) (hm : ∀ o, ρ ≤ o → o < ρ + 17 → m o = mem o) (h0 : R' 0 = R 0) (hR : ∀ r f, r < 12 → f < 7 → ro R' r f = ro R r f) : RoRep m ρ R' ld := by
  refine ⟨by rw [hm _ (by omega) (by omega), h0]; exact h.1, fun r hr => ?_⟩
  rw [hm _ (by omega) (by omega), hm _ (by omega) (by omega), hm _ (by omega) (by omega), hm _ (by omega) (by omega), hm _ (by omega) (by omega), hm _ (by omega) (by omega), hm _ (by omega) (by omega), hm _ (by omega) (by omega), hR r 0 hr (by omega), hR r 1 hr (by omega), hR r 2 hr (by omega), hR r 3 hr (by omega), hR r 4 hr (by omega), hR r 5 hr (by omega), hR r 6 hr (by omega)]
  exact h.2 r hr
/-- one more number at a roll: laid -/
theorem RoRep.laid {mem : Mem} {ρ : Nat} {R : RS} {ld : Nat → Nat} (h : RoRep mem ρ R ld) (r v : Nat) : RoRep (um mem (ρ + 12) r (nI v)) ρ R (fun j => if j = r then v else ld j) := by
  refine ⟨by rw [um_o _ _ (by omega)]; exact h.1, fun j hj => ?_⟩
  obtain ⟨c1, c2, c3, c4, c5, c6, c7, c8⟩ := h.2 j hj
  rw [um_o _ _ (show ρ + 2 ≠ ρ + 12 by omega), um_o _ _ (show ρ + 4 ≠ ρ + 12 by omega), um_o _ _ (show ρ + 6 ≠ ρ + 12 by omega), um_o _ _ (show ρ + 8 ≠ ρ + 12 by omega), um_o _ _ (show ρ + 10 ≠ ρ + 12 by omega), um_o _ _ (show ρ + 14 ≠ ρ + 12 by omega), um_o _ _ (show ρ + 16 ≠ ρ + 12 by omega)]
  refine ⟨c1, c2, c3, c4, c5, ?_, c7, c8⟩
  by_cases hjr : j = r
  · subst hjr
    rw [um_eq]
    simp
  · rw [um_k _ _ hjr]
    simp only [if_neg hjr]
    exact c6
theorem RoRep.waste {mem : Mem} {ρ : Nat} {R : RS} {ld : Nat → Nat} (h : RoRep mem ρ R ld) {r : Nat} (hr : r < 12) (x : Nat) : RoRep (um mem (ρ + 14) r (nI (ro R r 5 + x))) ρ (wasteR R r x) ld := by
  refine ⟨by rw [um_o _ _ (by omega), show wasteR R r x 0 = R 0 from un_ne _ _ (by omega)]; exact h.1, fun j hj => ?_⟩
  obtain ⟨c1, c2, c3, c4, c5, c6, c7, c8⟩ := h.2 j hj
  have e : ∀ f, f < 7 → f ≠ 5 → ro (wasteR R r x) j f = ro R j f := fun f h1 h2 => un_ne _ _ (by omega)
  rw [um_o _ _ (show ρ + 2 ≠ ρ + 14 by omega), um_o _ _ (show ρ + 4 ≠ ρ + 14 by omega), um_o _ _ (show ρ + 6 ≠ ρ + 14 by omega), um_o _ _ (show ρ + 8 ≠ ρ + 14 by omega), um_o _ _ (show ρ + 10 ≠ ρ + 14 by omega), um_o _ _ (show ρ + 12 ≠ ρ + 14 by omega), um_o _ _ (show ρ + 16 ≠ ρ + 14 by omega), e 0 (by omega) (by omega), e 1 (by omega) (by omega), e 2 (by omega) (by omega), e 3 (by omega) (by omega), e 4 (by omega) (by omega), e 6 (by omega) (by omega)]
  refine ⟨c1, c2, c3, c4, c5, c6, ?_, c8⟩
  by_cases hjr : j = r
  · subst hjr
    rw [um_eq]
    congr 1
    exact (un_at _ _ _).symm
  · rw [um_k _ _ hjr, c7]
    congr 1
    unfold ro wasteR
    rw [un_ne _ _ (by omega)]
def liftL (r : Nat) : List (Nat × Nat) → RS → Nat → RS × Nat
  | [], R, n => (R, n)
  | p :: ps, R, n => if 60 ≤ nK R ∨ 300 ≤ R 1 then liftL r ps (wasteR R r (p.1 * p.2)) n else liftL r ps (addR R r p.1 p.2) (n + 1)
def bareR (R : RS) (i : Nat) : RS := un R (993 + 12 * i + 8) 0
def liftS (R : RS) (i : Nat) : RS × Nat := (bareR (liftL (rq R i 9) (SL (rq R i) (rq R i 10) (ro R (rq R i 9) 1)) R 0).1 i, (liftL (rq R i 9) (SL (rq R i) (rq R i 10) (ro R (rq R i 9) 1)) R 0).2)
theorem laid_bare {R : RS} {i : Nat} (hi : i < R 2) (h8 : rq R i 8 = 1) (j : Nat) : laidN R j = laidN (bareR R i) j + if j = rq R i 9 then areaN (rq R i) else 0 := by
  have e0 : bareR R i 2 = R 2 := un_ne _ _ (by omega)
  have e1 : ∀ k, k ≠ i → rq (bareR R i) k = rq R k := fun k hk => rq_cong (fun w hw => un_ne _ _ (by omega))
  have e2 : rq (bareR R i) i 8 = 0 := by rw [rq_w (by omega)]; exact un_at _ _ _
  unfold laidN
  rw [e0, sN_upd (f := fun k => if rq (bareR R i) k 8 = 1 ∧ rq (bareR R i) k 9 = j then areaN (rq (bareR R i) k) else 0) (f' := fun k => if rq R k 8 = 1 ∧ rq R k 9 = j then areaN (rq R k) else 0) (R 2) hi (fun k hk hne => by rw [e1 k hne]) (by rw [e2]; simp)]
  congr 1
  rw [h8]
  by_cases hj : j = rq R i 9
  · rw [if_pos hj, if_pos ⟨rfl, hj.symm⟩]
  · rw [if_neg hj, if_neg (fun z => hj z.2.symm)]
def suitY (R : RS) (p i y : Nat) : Bool := !(decide (R 8 = 1) && acr (rq R i) y) && (decide (wdt (rq R i) 0 y ≤ eW (EL R) p) && decide (lng (rq R i) 0 y ≤ eL (EL R) p))
def suitS (R : RS) (p i : Nat) : Bool := decide (rq R i 8 = 0) && (decide (rq R i 0 = 1) && (suitY R p i 0 || suitY R p i 1))
section
variable {l : Launch} {g : XG} {sh : Nat → Sh} {mem : Mem} {β : Nat} {R : RS}
def sellS (R : RS) (k : Nat) : RS := dropR (un (un R (9 + 7 * (oc R k 0 - 1) + 6) (ro R (oc R k 0 - 1) 6 + oc R k 1 * oc R k 2)) 3 (R 3 + oc R k 1 * oc R k 2 * ro R (oc R k 0 - 1) 3 / 2)) k
theorem Inv.room {R : RS} (hI : Inv R) : ∀ i, i < R 2 → rq R i 8 = 1 → rq R i 9 < 12 ∧ rq R i 10 ≤ 1 := fun i h1 h2 => ⟨by have := ((hI.2.2.2.2.1 i h1).2.2 h2).1; have := hI.1.1; omega, ((hI.2.2.2.2.1 i h1).2.2 h2).2⟩
theorem ct_Bk_sellAt (hB : LayBk sh β) (hI : Inv R) (hb : BookRep mem β R) {k : Nat} (hk : k < R 1) (hkp : kp R k = true) : Ct l g M_Bk_sellAt [rf g β, .int (nI (cnt (kp R) k))] none sh mem (Ri none sh (fun x m => Fr β (β + 48) mem m ∧ x = nI (oc R k 1 * oc R k 2 * ro R (oc R k 0 - 1) 3 / 2) ∧ BookRep m β (sellS R k))) := by
  obtain ⟨b1, b2, b3, b4, b5, b6⟩ := id hb
  have hp : cnt (kp R) k < nK R := by rw [nK_cnt]; exact cnt_lt _ hk hkp
  obtain ⟨e1, e2, e3, e4⟩ := EL_e R hk hkp
  obtain ⟨hbd, d1, d2, d3, d4⟩ := b4.2.2.2.2 _ hp
  have hA := b4.ar hp
  have eA1 : eA (EL R) (cnt (kp R) k) = oc R k 1 * oc R k 2 := by rw [eA, e3, e4]
  rw [e2] at d2 hbd
  rw [eA1] at hA
  have h60 : nK R ≤ 60 := b4.1
  have hpr : ro R (oc R k 0 - 1) 3 ≤ 99 := by
    by_cases h : oc R k 0 - 1 < R 0
    · exact (hI.2.2.1 _ h).2.2.2.1
    · rw [hI.2.2.2.1 _ 3 (by omega) (by omega) (by omega)]; omega
  have hmul := mul_b hA hpr
  obtain ⟨c1, c2, c3, c4, c5, c6, c7, c8⟩ := b3.2 (oc R k 0 - 1) (by omega)
  refine x_begin rfl rfl rfl (by decide) rfl ?_
  refine x_aload_n d_Bk_sellAt_0 rfl ?_
  refine x_getR hB.f0 rfl fs_Bk_30 d_Bk_sellAt_1 ?_
  refine x_getR hB.s20.f0 rfl fs_Bk_168 d_Bk_sellAt_4 ?_
  refine x_iload_n d_Bk_sellAt_7 rfl ?_
  refine x_v1p d_Bk_sellAt_8 ml_Bk_66 v_Rw_at rfl ⟨rfl, rfl⟩ (row_io hB.s20.f3) (Nat.le_of_ble_eq_true rfl) (ct_Rw_at hB.s20.f3 hB.s20.f4 (by omega)) ?_
  rw [d2]
  refine x_istore_n d_Bk_sellAt_11 (by decide) ?_
  refine x_aload_n d_Bk_sellAt_12 rfl ?_
  refine x_getR hB.f0 rfl fs_Bk_30 d_Bk_sellAt_13 ?_
  refine x_iload_n d_Bk_sellAt_16 rfl ?_
  refine x_v1p d_Bk_sellAt_17 ml_Bk_169 v_Of_area rfl ⟨rfl, rfl⟩ hB.s20.io (Nat.le_of_ble_eq_true rfl) (ct_Of_area hB.s20 b4 hp) ?_
  rw [eA1]
  refine x_istore_n d_Bk_sellAt_20 (by decide) ?_
  refine x_iload_n d_Bk_sellAt_21 rfl ?_
  refine x_aload_n d_Bk_sellAt_22 rfl ?_
  refine x_getR hB.f0 rfl fs_Bk_23 d_Bk_sellAt_23 ?_
  refine x_getR hB.s3.f0 rfl fs_Bk_108 d_Bk_sellAt_26 ?_
  refine x_iload_n d_Bk_sellAt_29 rfl ?_
  refine x_v1p d_Bk_sellAt_30 ml_Bk_66 v_Rw_at rfl ⟨rfl, rfl⟩ (row_io hB.s3.f7) (Nat.le_of_ble_eq_true rfl) (ct_Rw_at hB.s3.f7 hB.s3.f8 (by omega)) ?_
  rw [c4]
  refine x_imul d_Bk_sellAt_33 ?_
  rw [pk_mul]
  refine x_iconst (v := nI 2) d_Bk_sellAt_34 (by decide) ?_
  refine x_idiv d_Bk_sellAt_35 (by decide) ?_
  rw [pk_div (by omega) (by omega) (by omega)]
  refine x_istore d_Bk_sellAt_36 (by decide) ?_
  refine x_aload_n d_Bk_sellAt_38 rfl ?_
  refine x_getR hB.f0 rfl fs_Bk_23 d_Bk_sellAt_39 ?_
  refine x_getR hB.s3.f0 rfl fs_Bk_170 d_Bk_sellAt_42 ?_
  refine x_iload_n d_Bk_sellAt_45 rfl ?_
  refine x_iload_n d_Bk_sellAt_46 rfl ?_
  refine x_v2v d_Bk_sellAt_47 ml_Bk_98 v_Rw_add rfl ⟨rfl, rfl⟩ (row_io hB.s3.f15) (Nat.le_of_ble_eq_true rfl) (ct_Rw_add hB.s3.f15 hB.s3.f16 (by omega)) (fun _ hE => ?_)
  subst hE
  rw [c8, nI_add]
  refine x_aload_n d_Bk_sellAt_50 rfl ?_
  refine x_dup d_Bk_sellAt_51 rfl ?_
  refine x_getI hB.f0 rfl fs_Bk_58 d_Bk_sellAt_52 ?_
  rw [um_o _ _ (show β ≠ β + 3 + 16 by omega), b2]
  refine x_iload d_Bk_sellAt_55 rfl ?_
  refine x_iadd d_Bk_sellAt_57 ?_
  rw [nI_add]
  refine x_putI hB.f0 rfl ps_Bk_58 rfl rfl d_Bk_sellAt_58 ?_
  refine x_aload_n d_Bk_sellAt_61 rfl ?_
  refine x_getR hB.f0 rfl fs_Bk_30 d_Bk_sellAt_62 ?_
  refine x_iload_n d_Bk_sellAt_65 rfl ?_
  refine x_v1v d_Bk_sellAt_66 ml_Bk_139 v_Of_removeAt rfl ⟨rfl, rfl⟩ hB.s20.io (Nat.le_of_ble_eq_true rfl) (ct_Of_removeAt hB.s20 (b4.mv (fun o h1 h2 => by rw [um_ne _ _ _ (by omega), um_ne _ _ _ (by omega)])) hp) (fun mem66 h66 => ?_)
  refine x_iload d_Bk_sellAt_69 rfl ?_
  refine x_iret rfl rfl d_Bk_sellAt_71 (Nat.zero_le _) (Nat.zero_le _) ?_
  obtain ⟨hO2, hF2⟩ := h66
  have hne : ∀ j, (j < 93 ∨ 993 ≤ j) → j ≠ 3 → j ≠ 9 + 7 * (oc R k 0 - 1) + 6 → sellS R k j = R j := by
    intro j h1 h2 h3
    unfold sellS dropR
    rw [un_ne _ _ (by have := hI.1.2.1; omega), un_ne _ _ h2, un_ne _ _ h3]
  have hEL : EL (sellS R k) = (EL R).eraseIdx (cnt (kp R) k) := by
    have hc : ∀ j x, x < 3 → oc (un (un R (9 + 7 * (oc R k 0 - 1) + 6) (ro R (oc R k 0 - 1) 6 + oc R k 1 * oc R k 2)) 3 (R 3 + oc R k 1 * oc R k 2 * ro R (oc R k 0 - 1) 3 / 2)) j x = oc R j x := fun j x hx => (un_ne _ _ (by omega)).trans (un_ne _ _ (by omega))
    have hkp2 : ∀ j, kp (un (un R (9 + 7 * (oc R k 0 - 1) + 6) (ro R (oc R k 0 - 1) 6 + oc R k 1 * oc R k 2)) 3 (R 3 + oc R k 1 * oc R k 2 * ro R (oc R k 0 - 1) 3 / 2)) j = kp R j := fun j => by simp only [kp, hc j 0 (by omega)]
    have h1 : un (un R (9 + 7 * (oc R k 0 - 1) + 6) (ro R (oc R k 0 - 1) 6 + oc R k 1 * oc R k 2)) 3 (R 3 + oc R k 1 * oc R k 2 * ro R (oc R k 0 - 1) 3 / 2) 1 = R 1 := by rw [un_ne _ _ (by omega), un_ne _ _ (by omega)]
    have h2 := EL_drop (un (un R (9 + 7 * (oc R k 0 - 1) + 6) (ro R (oc R k 0 - 1) 6 + oc R k 1 * oc R k 2)) 3 (R 3 + oc R k 1 * oc R k 2 * ro R (oc R k 0 - 1) 3 / 2)) (k := k) (by rw [h1]; exact hk) (by rw [hkp2]; exact hkp)
    rw [EL_cong h1 (fun j x hj hx => hc j x hx), funext hkp2] at h2
    exact h2
  have h300 := hI.1.2.1
  refine ⟨_, rfl, rfl, rfl, fun o ho => by rw [hF2 _ (by omega), um_ne _ _ _ (by omega), um_ne _ _ _ (by omega)], rfl, ?_⟩
  have hl2 : laidN (sellS R k) = laidN R := by
    funext j
    unfold laidN
    rw [hne 2 (by omega) (by omega) (by omega)]
    exact sN_cong _ (fun i hi => by rw [show rq (sellS R k) i = rq R i from rq_cong (fun w hw => hne _ (by omega) (by omega) (by omega))])
  refine BL.cg (ld := laidN R) hb hI.room hI.1.2.2 (by rw [hF2 _ (by omega), um_ne _ _ _ (by omega), um_ne _ _ _ (by omega)]) ?_ ⟨?_, fun r hr => ?_⟩ (by rw [hEL, hne 1 (by omega) (by omega) (by omega)]; exact hO2) (fun o h1 h2 => by rw [hF2 _ (by omega), um_ne _ _ _ (by omega), um_ne _ _ _ (by omega)]) (fun j hj => hne _ (by omega) (by omega) (by omega)) (fun r hr => hne _ (by omega) (by omega) (by omega))
  · rw [hF2 _ (by omega), um_eq]
    congr 1
    unfold sellS dropR
    rw [un_ne _ _ (by omega), un_at]
  · rw [hF2 _ (by omega), um_o _ _ (by omega), um_o _ _ (by omega), hne 0 (by omega) (by omega) (by omega)]
    exact b3.1
  · obtain ⟨c1, c2, c3, c4, c5, c6, c7, c8⟩ := b3.2 r hr
    have mv : ∀ o, o ≠ β → o ≠ β + 3 + 16 → (o < β + 20 ∨ β + 20 + 9 ≤ o) → mem66 o = mem o := fun o h1 h2 h3 => by rw [hF2 _ h3, um_ne _ _ _ h1, um_ne _ _ _ h2]
    have er : ∀ f, f < 6 → ro (sellS R k) r f = ro R r f := fun f hf => hne _ (by omega) (by omega) (by omega)
    rw [hl2, er 0 (by omega), er 1 (by omega), er 2 (by omega), er 3 (by omega), er 4 (by omega), er 5 (by omega), mv _ (by omega) (by omega) (by omega), mv _ (by omega) (by omega) (by omega), mv _ (by omega) (by omega) (by omega), mv _ (by omega) (by omega) (by omega), mv _ (by omega) (by omega) (by omega), mv _ (by omega) (by omega) (by omega), mv _ (by omega) (by omega) (by omega)]
    refine ⟨c1, c2, c3, c4, c5, c6, c7, ?_⟩
    rw [hF2 _ (by omega), um_o _ _ (by omega)]
    by_cases hrr : r = oc R k 0 - 1
    · rw [hrr, um_eq]
      congr 1
      unfold ro sellS dropR
      rw [un_ne _ _ (by omega), un_ne _ _ (by omega), un_at]
      rfl
    · rw [um_k _ _ hrr, c8]
      congr 1
      exact (hne _ (by omega) (by omega) (by omega)).symm
end
