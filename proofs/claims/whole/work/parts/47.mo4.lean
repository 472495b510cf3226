/-! the reference: a covering -/
def FN (μ : Nat) (mem m : Mem) : Prop := (∀ o, o ≠ μ → o ≠ μ + 1 → m o = mem o) ∧ ∀ k, k < 11 → m μ k = mem μ k
theorem FN.rf {μ : Nat} {mem : Mem} : FN μ mem mem := ⟨fun _ _ _ => rfl, fun _ _ => rfl⟩
theorem FN.tr {μ : Nat} {m1 m2 m3 : Mem} (h : FN μ m1 m2) (k : FN μ m2 m3) : FN μ m1 m3 := ⟨fun o h1 h2 => (k.1 o h1 h2).trans (h.1 o h1 h2), fun j hj => (k.2 j hj).trans (h.2 j hj)⟩
theorem FN.um {μ k : Nat} {m : Mem} {x : Int32} (h : 11 ≤ k) : FN μ m (um m μ k x) := ⟨fun o h1 h2 => um_ne m k x h1, fun j hj => um_k m x (by omega)⟩
theorem F1.fn {μ : Nat} {mem m : Mem} (h : F1 μ mem m) : FN μ mem m := ⟨fun o h1 h2 => h o h2, fun k hk => by rw [h μ (by omega)]⟩
theorem NowR.mv {mem m : Mem} {a : Nat} {R : RS} (h : NowR mem a R) (hm : m a = mem a) : NowR m a R := fun i hi => by rw [hm]; exact h i hi
def KI (μ : Nat) (mem : Mem) (R : RS) (i r y : Nat) (S : List (Nat × Nat)) (m : Mem) (R' : RS) (pos : Nat) : Prop := NowR m (μ + 1) R' ∧ OffOk R' ∧ nK R' ≤ 60 ∧ Same R R' i r ∧ R' 0 = R 0 ∧ ro R' r 2 ≤ ro R r 2 ∧ coverL r (ro R r 1) i S pos R' = coverL r (ro R r 1) i (SL (rq R i) y (ro R r 1)) 0 R ∧ pos + S.length = stripsN (rq R i) y (ro R r 1) ∧ m μ 11 = nI pos ∧ m μ 13 = nI (cnt (fun s => decide (¬ nI (sc R' i s) < 0)) pos) ∧ FN μ mem m
theorem takeS_nK {R R' : RS} {r W w k i s PW PL : Nat} (hr : r < 12) (hi : i < 20) (hs : s < 36) (h300 : R 1 ≤ 300) (h : takeS R r W w k i s = some (R', PW, PL)) : nK R' ≤ nK R := by
  have hE : ∀ v, EL (un R (1233 + 36 * i + s) v) = EL R := fun v => EL_far (by omega) h300 (Or.inr (by omega))
  unfold takeS at h
  split at h
  · rename_i p hp
    have hp1 := (pfo_lt _ _ hp).1
    cases h
    have h1 := EL_dropP (un R (1233 + 36 * i + s) (eN (EL R) p)) (p := p) (by unfold nK; rw [hE]; exact hp1)
    rw [hE] at h1
    unfold nK
    rw [h1.2.2]
    exact List.length_eraseIdx_le _ _
  · split at h
    · cases h
    · cases h
      unfold nK
      rw [EL_far (by omega) (by rw [un_ne _ _ (by omega)]; exact h300) (Or.inl (by omega)), hE]
      exact Nat.le_refl _
theorem KI.step {μ : Nat} {mem m m' : Mem} {R R' R1 R2 : RS} {i r y pos PW PL w k : Nat} {ps : List (Nat × Nat)} (h : KI μ mem R i r y ((w, k) :: ps) m R' pos) (hr12 : r < 12) (hi : i < 20) (hr0 : r < R 0) (hp : pos < 36) (hW : ro R r 1 ≤ 60) (hwk : w ≤ 60 ∧ k ≤ 60) (ht : takeS R' r (ro R r 1) w k i pos = some (R1, PW, PL)) (hc : cutS R1 r PW PL w k = some R2) (hn : NowR m' (μ + 1) R2) (h11 : m' μ 11 = nI (pos + 1)) (h13 : m' μ 13 = nI (cnt (fun s => decide (¬ nI (sc R' i s) < 0)) pos + if ¬ nI (sc R1 i pos) < 0 then 1 else 0)) (hf : FN μ mem m') : KI μ mem R i r y ps m' R2 (pos + 1) := by
  obtain ⟨b1, b2, b3, b4, b5, b6, b7, b8, b9, b10, b11⟩ := h
  obtain ⟨t1, t2, t3, t4⟩ := b2.take hr12 hW hwk.2 ht
  obtain ⟨s1, s2, s3, s4, s5⟩ := takeS_same hr12 hp b2.1 ht
  obtain ⟨c1, c2⟩ := t1.cut hr12 (by omega) t3 t4 hwk.1 hwk.2 hc
  have hnk := takeS_nK hr12 hi hp b2.1 ht
  have e0 : stripS R' r (ro R r 1) i pos w k = (0, R2) := by rw [stripS, ht]; dsimp only; rw [hc]
  rw [coverL_cons, e0, if_pos rfl] at b7
  rw [List.length_cons] at b8
  have hsc : ∀ s, sc R2 i s = sc R1 i s := fun s => cutS_same hc _ (by omega) (by omega) (by omega)
  refine ⟨hn, c1, ?_, (b4.tr s1).tr (cutS_Same hc), by omega, ?_, b7, by omega, h11, ?_, hf⟩
  · rw [cutS_M hr12 t1.1 (by omega)] at hc
    cases hx : ((restM R1 r (PW - w) (if lngB R1 PW PL w k then PL else k)).bind (fun R3 => restM R3 r (if lngB R1 PW PL w k then w else PW) (PL - k))) with
    | none => rw [hx] at hc; cases hc
    | some R3 =>
      rw [hx, Option.bind_some] at hc
      split at hc
      · cases hc
        assumption
      · cases hc
  · have e5 : ro R2 r 2 = ro R1 r 2 := cutS_same hc _ (by omega) (by omega) (by omega)
    omega
  · have e1 : cnt (fun s => decide (¬ nI (sc R' i s) < 0)) pos = cnt (fun s => decide (¬ nI (sc R2 i s) < 0)) pos := cnt_cong pos (fun s hs => by rw [hsc, s5 s (by omega) (by omega)])
    rw [h13, e1]
    by_cases hz : nI (sc R1 i pos) < 0
    · rw [if_neg (fun z => z hz), cnt_f (by simp [hsc, hz]), Nat.add_zero]
    · rw [if_pos hz, cnt_t (by simp [hsc, hz])]
theorem takeS_fit {R R' : RS} {r W w k i s PW PL : Nat} (hw : w ≤ W) (h : takeS R r W w k i s = some (R', PW, PL)) : w ≤ PW ∧ k ≤ PL := by
  unfold takeS at h
  split at h
  · rename_i p hp
    have hf := (pfo_lt _ _ hp).2
    unfold fit at hf
    simp only [Bool.and_eq_true, decide_eq_true_eq] at hf
    cases h
    exact hf.2
  · split at h
    · cases h
    · cases h
      exact ⟨hw, Nat.le_refl _⟩
theorem KI.seam {μ : Nat} {mem m : Mem} {R R' : RS} {i r y pos : Nat} {S : List (Nat × Nat)} {v : Int32} (h : KI μ mem R i r y S m R' pos) : KI μ mem R i r y S (um m μ 12 v) R' pos := by
  obtain ⟨b1, b2, b3, b4, b5, b6, b7, b8, b9, b10, b11⟩ := h
  exact ⟨b1.mv (um_ne _ _ _ (by omega)), b2, b3, b4, b5, b6, b7, b8, by rw [um_k _ _ (by omega)]; exact b9, by rw [um_k _ _ (by omega)]; exact b10, b11.tr (FN.um (by omega))⟩
theorem cn_mem {μ a b x pos p z : Nat} {m : Mem} {R : RS} {v w : Int32} (hn : NowR m (μ + 1) R) (hv : v = nI p) (hw : w = nI z) : um (um (um (um m (μ + 1) a v) μ 11 (nI pos)) μ 13 (nI x)) (μ + 1) b w μ 11 = nI pos ∧ um (um (um (um m (μ + 1) a v) μ 11 (nI pos)) μ 13 (nI x)) (μ + 1) b w μ 13 = nI x ∧ um (um (um (um m (μ + 1) a v) μ 11 (nI pos)) μ 13 (nI x)) (μ + 1) b w μ 12 = m μ 12 ∧ FN μ m (um (um (um (um m (μ + 1) a v) μ 11 (nI pos)) μ 13 (nI x)) (μ + 1) b w) ∧ NowR (um (um (um (um m (μ + 1) a v) μ 11 (nI pos)) μ 13 (nI x)) (μ + 1) b w) (μ + 1) (un (un R a p) b z) := by
  refine ⟨by rw [um_ne _ _ _ (by omega), um_k _ _ (by omega), um_eq], by rw [um_ne _ _ _ (by omega), um_eq], by rw [um_ne _ _ _ (by omega), um_k _ _ (by omega), um_k _ _ (by omega), um_ne _ _ _ (by omega)], (F1.fn F1.um).tr ((FN.um (by omega)).tr ((FN.um (by omega)).tr (F1.fn F1.um))), ?_⟩
  exact NowR.up (((hn.up hv).mv (um_ne _ _ _ (by omega))).mv (um_ne _ _ _ (by omega))) hw
def CNP (μ : Nat) (mem : Mem) (R : RS) (i r y : Nat) (x : Int32) (m : Mem) : Prop := x = nI (coverS R i r y).1 ∧ FN μ mem m ∧ ((coverS R i r y).1 = 0 → NowR m (μ + 1) (coverS R i r y).2 ∧ nK (coverS R i r y).2 ≤ 60 ∧ m μ 14 = nI (priceS R i r y) ∧ m μ 11 = nI (stripsN (rq R i) y (ro R r 1)) ∧ m μ 12 = nI (seamN (rq R i) y (ro R r 1)) ∧ m μ 13 = nI (cnt (fun s => decide (¬ nI (sc (coverS R i r y).2 i s) < 0)) (stripsN (rq R i) y (ro R r 1))))
section
variable {l : Launch} {g : XG} {sh : Nat → Sh} {mem : Mem} {μ : Nat} {R : RS}
theorem ct_Mo_coverNow (hM : LayMo sh μ) (hI : Inv R) (h60 : nK R ≤ 60) (hn : NowR mem (μ + 1) R) {i r y : Nat} (hi : i < R 2) (hr : r < R 0) (hy : y ≤ 1) : Ct l g M_Mo_coverNow [rf g μ, .int (nI i), .int (nI r), .int (nI y)] none sh mem (Ri none sh (CNP μ mem R i r y)) := by
  obtain ⟨⟨i1, i2, i3⟩, ⟨i4, ⟨i5, i6⟩, i7, ⟨i8, i9⟩, i10⟩, i11, i12, i13, i14, i15⟩ := id hI
  obtain ⟨k1, k2, k3⟩ := i13 i hi
  obtain ⟨v1, v2, v3, v4, v5⟩ := i11 r hr
  have hr12 : r < 12 := by omega
  have hi20 : i < 20 := by omega
  have hq3 := k1.1.2.1
  have h36 := stripsN_le k1 hy v2.1
  have hm0 : NowR (um (um (um mem μ 11 (nI 0)) μ 12 (nI 0)) μ 13 (nI 0)) (μ + 1) R := hn.mv (by rw [um_ne _ _ _ (by omega), um_ne _ _ _ (by omega), um_ne _ _ _ (by omega)])
  have hf0 : FN μ mem (um (um (um mem μ 11 (nI 0)) μ 12 (nI 0)) μ 13 (nI 0)) := ((FN.um (by omega)).tr (FN.um (by omega))).tr (FN.um (by omega))
  have h11 : um (um (um mem μ 11 (nI 0)) μ 12 (nI 0)) μ 13 (nI 0) μ 11 = nI 0 := by rw [um_k _ _ (by omega), um_k _ _ (by omega), um_eq]
  have h12 : um (um (um mem μ 11 (nI 0)) μ 12 (nI 0)) μ 13 (nI 0) μ 12 = nI 0 := by rw [um_k _ _ (by omega), um_eq]
  have h13 : um (um (um mem μ 11 (nI 0)) μ 12 (nI 0)) μ 13 (nI 0) μ 13 = nI 0 := um_eq _ _ _ _
  refine x_begin rfl rfl rfl (by decide) rfl ?_
  refine x_aload_n d_Mo_coverNow_0 rfl ?_
  refine x_iconst (v := nI 0) d_Mo_coverNow_1 (by decide) ?_
  refine x_putI hM.f0 rfl ps_Mo_77 rfl rfl d_Mo_coverNow_2 ?_
  refine x_aload_n d_Mo_coverNow_5 rfl ?_
  refine x_iconst (v := nI 0) d_Mo_coverNow_6 (by decide) ?_
  refine x_putI hM.f0 rfl ps_Mo_80 rfl rfl d_Mo_coverNow_7 ?_
  refine x_aload_n d_Mo_coverNow_10 rfl ?_
  refine x_iconst (v := nI 0) d_Mo_coverNow_11 (by decide) ?_
  refine x_putI hM.f0 rfl ps_Mo_83 rfl rfl d_Mo_coverNow_12 ?_
  generalize um (um (um mem μ 11 (nI 0)) μ 12 (nI 0)) μ 13 (nI 0) = m0 at hm0 hf0 h11 h12 h13 ⊢
  have hJ : rq R i 8 ≠ 1 → ¬ (R 8 = 1 ∧ acr (rq R i) y = true) → X l g M_Mo_coverNow (XF g (Ri none sh (CNP μ mem R i r y)) M_Mo_coverNow) 50 [some (rf g μ), some (.int (nI i)), some (.int (nI r)), some (.int (nI y)), none, none, none, none, none, none, none, none, none, none] [] none sh m0 0 0 := by
    intro h8 hnc
    have hcov : coverS R i r y = if (coverL r (ro R r 1) i (SL (rq R i) y (ro R r 1)) 0 R).1 = 0 then (0, finS (coverL r (ro R r 1) i (SL (rq R i) y (ro R r 1)) 0 R).2 i r y (priceS R i r y)) else coverL r (ro R r 1) i (SL (rq R i) y (ro R r 1)) 0 R := by rw [coverS, if_neg h8, if_neg hnc]
    have hK0 : KI μ mem R i r y (SLf (rq R i) y (ro R r 1) (rq R i 0) 0) m0 R 0 := ⟨hm0, hI.off, h60, Same.rf, rfl, Nat.le_refl _, rfl, by rw [Nat.zero_add]; exact SL_len _ _ _, h11, h13, hf0⟩
    refine x_aload_n d_Mo_coverNow_50 rfl ?_
    refine x_iload_n d_Mo_coverNow_51 rfl ?_
    refine x_iconst (v := nI 1) d_Mo_coverNow_52 (by decide) ?_
    refine x_v2p d_Mo_coverNow_53 ml_Mo_90 v_Mo_of rfl ⟨rfl, rfl⟩ hM.io (Nat.le_of_ble_eq_true rfl) (ct_Mo_of hM hm0 hr12 (by omega)) ?_
    refine x_istore d_Mo_coverNow_56 (by decide) ?_
    refine x_iconst (v := nI 0) d_Mo_coverNow_58 (by decide) ?_
    refine x_istore d_Mo_coverNow_59 (by decide) ?_
    refine up_ind (rq R i 0) (P := fun k => ∀ (m : Mem) (R' : RS) (pos : Nat) (u6 u7 u8 u9 u10 u11 u12 u13 : Option Value), KI μ mem R i r y (SLf (rq R i) y (ro R r 1) (rq R i 0 - k) k) m R' pos → m μ 12 = nI (sN (fun k => (mny (rq R i) k y (ro R r 1) - 1) * lng (rq R i) k y) k) → X l g M_Mo_coverNow (XF g (Ri none sh (CNP μ mem R i r y)) M_Mo_coverNow) 61 [some (rf g μ), some (.int (nI i)), some (.int (nI r)), some (.int (nI y)), some (.int (nI (ro R r 1))), some (.int (nI k)), u6, u7, u8, u9, u10, u11, u12, u13] [] none sh m 0 0) (fun k hk ih m R' pos u6 u7 u8 u9 u10 u11 u12 u13 hK hs12 => ?_) 0 (Nat.zero_le _) m0 R 0 _ _ _ _ _ _ _ _ hK0 h12
    have hnm := hK.1
    have hsm := hK.2.2.2.1
    have hrq : rq R' i = rq R i := hsm.rq hr12 hi20
    refine x_iload d_Mo_coverNow_61 rfl ?_
    refine x_aload_n d_Mo_coverNow_63 rfl ?_
    refine x_iload_n d_Mo_coverNow_64 rfl ?_
    refine x_iconst (v := nI 0) d_Mo_coverNow_65 (by decide) ?_
    refine x_v2p d_Mo_coverNow_66 ml_Mo_74 v_Mo_at rfl ⟨rfl, rfl⟩ hM.io (Nat.le_of_ble_eq_true rfl) (ct_Mo_at hM hnm hi20 (by omega)) ?_
    rw [hrq]
    refine x_icmp_ge (tgt := 315) d_Mo_coverNow_69 (by decide) (fun c69 => ?_) (fun c69 => ?_)
    · have hk2 : k = rq R i 0 := by have := nI_le' (by omega) (by omega) c69; omega
      subst hk2
      rw [Nat.sub_self] at hK
      refine x_aload_n d_Mo_coverNow_315 rfl ?_
      refine x_aload_n d_Mo_coverNow_316 rfl ?_
      refine x_iload_n d_Mo_coverNow_317 rfl ?_
      refine x_v1p d_Mo_coverNow_318 ml_Mo_117 v_Mo_area rfl ⟨rfl, rfl⟩ hM.io (Nat.le_of_ble_eq_true rfl) (ct_Mo_area hM hnm hi20 (by rw [hrq]; exact k1)) ?_
      rw [hrq]
      refine x_aload_n d_Mo_coverNow_321 rfl ?_
      refine x_iload_n d_Mo_coverNow_322 rfl ?_
      refine x_iconst (v := nI 3) d_Mo_coverNow_323 (by decide) ?_
      refine x_v2p d_Mo_coverNow_324 ml_Mo_90 v_Mo_of rfl ⟨rfl, rfl⟩ hM.io (Nat.le_of_ble_eq_true rfl) (ct_Mo_of hM hnm hr12 (by omega)) ?_
      rw [hsm.ro hr12 (by omega) (Or.inl (by omega))]
      refine x_imul d_Mo_coverNow_327 ?_
      rw [pk_mul]
      refine x_aload_n d_Mo_coverNow_328 rfl ?_
      refine x_getI hM.f0 rfl fs_Mo_80 d_Mo_coverNow_329 ?_
      rw [hs12]
      refine x_aload_n d_Mo_coverNow_332 rfl ?_
      refine x_getR hM.f0 rfl fs_Mo_7 d_Mo_coverNow_333 ?_
      refine x_bipush (v := nI 6) d_Mo_coverNow_336 (by decide) ?_
      refine x_iald hM.f1 (vp_in_nI (by omega) (by omega)) d_Mo_coverNow_338 ?_
      rw [nI_clamp (by omega), hnm _ (by omega), hsm 6 (by omega) (by omega) (by omega) (by omega) (by omega)]
      refine x_imul d_Mo_coverNow_339 ?_
      rw [pk_mul]
      refine x_aload_n d_Mo_coverNow_340 rfl ?_
      refine x_iload_n d_Mo_coverNow_341 rfl ?_
      refine x_iload_n d_Mo_coverNow_342 rfl ?_
      refine x_v2p d_Mo_coverNow_343 ml_Mo_86 v_Mo_isAcross rfl ⟨rfl, rfl⟩ hM.io (Nat.le_of_ble_eq_true rfl) (ct_Mo_isAcross hM hnm hi20 (by rw [hrq]; exact k1) hy) ?_
      rw [hrq]
      refine x_if_eq (tgt := 359) d_Mo_coverNow_346 (by decide) (fun c346 => ?_) (fun c346 => ?_)
      · have hP : areaN (rq R i) * ro R r 3 + sN (fun k => (mny (rq R i) k y (ro R r 1) - 1) * lng (rq R i) k y) (rq R i 0) * R 6 * 1 = priceS R i r y := by
          unfold priceS seamN
          rw [if_neg (bI_0.mp c346), Nat.mul_assoc]
        refine x_iconst (v := nI 1) d_Mo_coverNow_359 (by decide) ?_
        refine x_imul d_Mo_coverNow_360 ?_
        rw [pk_mul]
        refine x_iadd d_Mo_coverNow_361 ?_
        rw [nI_add, hP]
        refine x_putI hM.f0 rfl ps_Mo_120 rfl rfl d_Mo_coverNow_362 ?_
        refine x_aload_n d_Mo_coverNow_365 rfl ?_
        refine x_iload_n d_Mo_coverNow_366 rfl ?_
        refine x_bipush (v := nI 8) d_Mo_coverNow_367 (by decide) ?_
        refine x_iconst (v := nI 1) d_Mo_coverNow_369 (by decide) ?_
        refine x_v3v d_Mo_coverNow_370 ml_Mo_123 v_Mo_put rfl ⟨rfl, rfl⟩ hM.io (Nat.le_of_ble_eq_true rfl) (ct_Mo_put hM hi20 (by omega)) (fun _ hE => ?_)
        subst hE
        refine x_aload_n d_Mo_coverNow_373 rfl ?_
        refine x_iload_n d_Mo_coverNow_374 rfl ?_
        refine x_bipush (v := nI 9) d_Mo_coverNow_375 (by decide) ?_
        refine x_iload_n d_Mo_coverNow_377 rfl ?_
        refine x_v3v d_Mo_coverNow_378 ml_Mo_123 v_Mo_put rfl ⟨rfl, rfl⟩ hM.io (Nat.le_of_ble_eq_true rfl) (ct_Mo_put hM hi20 (by omega)) (fun _ hE => ?_)
        subst hE
        refine x_aload_n d_Mo_coverNow_381 rfl ?_
        refine x_iload_n d_Mo_coverNow_382 rfl ?_
        refine x_bipush (v := nI 10) d_Mo_coverNow_383 (by decide) ?_
        refine x_iload_n d_Mo_coverNow_385 rfl ?_
        refine x_v3v d_Mo_coverNow_386 ml_Mo_123 v_Mo_put rfl ⟨rfl, rfl⟩ hM.io (Nat.le_of_ble_eq_true rfl) (ct_Mo_put hM hi20 (by omega)) (fun _ hE => ?_)
        subst hE
        refine x_aload_n d_Mo_coverNow_389 rfl ?_
        refine x_iload_n d_Mo_coverNow_390 rfl ?_
        refine x_bipush (v := nI 11) d_Mo_coverNow_391 (by decide) ?_
        refine x_aload_n d_Mo_coverNow_393 rfl ?_
        refine x_getI hM.f0 rfl fs_Mo_120 d_Mo_coverNow_394 ?_
        rw [um_ne _ _ _ (by omega), um_ne _ _ _ (by omega), um_ne _ _ _ (by omega), um_eq]
        refine x_v3v d_Mo_coverNow_397 ml_Mo_123 v_Mo_put rfl ⟨rfl, rfl⟩ hM.io (Nat.le_of_ble_eq_true rfl) (ct_Mo_put hM hi20 (by omega)) (fun _ hE => ?_)
        subst hE
        refine x_aload_n d_Mo_coverNow_400 rfl ?_
        refine x_getR hM.f0 rfl fs_Mo_7 d_Mo_coverNow_401 ?_
        refine x_iconst (v := nI 3) d_Mo_coverNow_404 (by decide) ?_
        refine x_dup2 d_Mo_coverNow_405 rfl rfl ?_
        refine x_iald hM.f1 (vp_in_nI (by omega) (by omega)) d_Mo_coverNow_406 ?_
        rw [nI_clamp (by omega), um_k _ _ (by omega), um_k _ _ (by omega), um_k _ _ (by omega), um_k _ _ (by omega), um_ne _ _ _ (by omega), hnm _ (by omega)]
        refine x_aload_n d_Mo_coverNow_407 rfl ?_
        refine x_getI hM.f0 rfl fs_Mo_120 d_Mo_coverNow_408 ?_
        rw [um_ne _ _ _ (by omega), um_ne _ _ _ (by omega), um_ne _ _ _ (by omega), um_ne _ _ _ (by omega), um_eq]
        refine x_iadd d_Mo_coverNow_411 ?_
        rw [nI_add]
        refine x_iast hM.f1 (vp_in_nI (by omega) (by omega)) d_Mo_coverNow_412 ?_
        rw [nI_clamp (by omega)]
        refine x_iconst (v := nI 0) d_Mo_coverNow_413 (by decide) ?_
        refine x_iret rfl rfl d_Mo_coverNow_414 (Nat.zero_le _) (Nat.zero_le _) ?_
        obtain ⟨b1, b2, b3, b4, b5, b6, b7, b8, b9, b10, b11⟩ := hK
        have hpos : pos = stripsN (rq R i) y (ro R r 1) := b8
        have e0 : coverL r (ro R r 1) i (SL (rq R i) y (ro R r 1)) 0 R = (0, R') := b7.symm
        rw [e0, if_pos rfl] at hcov
        have hnF : NowR (um m μ 14 (nI (priceS R i r y))) (μ + 1) R' := b1.mv (um_ne _ _ _ (by omega))
        refine ⟨_, rfl, rfl, rfl, by rw [hcov], ?_, fun _ => ?_⟩
        · exact b11.tr ((FN.um (by omega)).tr (F1.fn (F1.um.tr (F1.um.tr (F1.um.tr (F1.um.tr F1.um))))))
        · rw [hcov]
          dsimp only
          have hfs : ∀ s, sc (finS R' i r y (priceS R i r y)) i s = sc R' i s := fun s => (finS_at R' i r y (priceS R i r y)).1 _ (by omega) (by omega) (by omega) (by omega) (by omega)
          have hEL : nK (finS R' i r y (priceS R i r y)) ≤ 60 := by
            unfold nK
            rw [EL_cong (R := R') ((finS_at R' i r y (priceS R i r y)).1 _ (by omega) (by omega) (by omega) (by omega) (by omega)) (fun k j hk hj => (finS_at R' i r y (priceS R i r y)).1 _ (by have := b2.1; omega) (by have := b2.1; omega) (by have := b2.1; omega) (by have := b2.1; omega) (by have := b2.1; omega))]
            exact b3
          refine ⟨((((hnF.up rfl).up rfl).up rfl).up rfl).up rfl, hEL, ?_, ?_, ?_, ?_⟩
          · rw [um_ne _ _ _ (by omega), um_ne _ _ _ (by omega), um_ne _ _ _ (by omega), um_ne _ _ _ (by omega), um_ne _ _ _ (by omega), um_eq]
          · rw [um_ne _ _ _ (by omega), um_ne _ _ _ (by omega), um_ne _ _ _ (by omega), um_ne _ _ _ (by omega), um_ne _ _ _ (by omega), um_k _ _ (by omega), b9, hpos]
          · rw [um_ne _ _ _ (by omega), um_ne _ _ _ (by omega), um_ne _ _ _ (by omega), um_ne _ _ _ (by omega), um_ne _ _ _ (by omega), um_k _ _ (by omega), hs12]
            rfl
          · rw [um_ne _ _ _ (by omega), um_ne _ _ _ (by omega), um_ne _ _ _ (by omega), um_ne _ _ _ (by omega), um_ne _ _ _ (by omega), um_k _ _ (by omega), b10, hpos]
            rw [cnt_cong (q := fun s => decide (¬ nI (sc (finS R' i r y (priceS R i r y)) i s) < 0)) _ (fun s hs => by rw [hfs])]
      · have hP : areaN (rq R i) * ro R r 3 + sN (fun k => (mny (rq R i) k y (ro R r 1) - 1) * lng (rq R i) k y) (rq R i 0) * R 6 * R 7 = priceS R i r y := by
          unfold priceS seamN
          rw [if_pos (bI_n.mp c346), Nat.mul_assoc]
        refine x_aload_n d_Mo_coverNow_349 rfl ?_
        refine x_getR hM.f0 rfl fs_Mo_7 d_Mo_coverNow_350 ?_
        refine x_bipush (v := nI 7) d_Mo_coverNow_353 (by decide) ?_
        refine x_iald hM.f1 (vp_in_nI (by omega) (by omega)) d_Mo_coverNow_355 ?_
        rw [nI_clamp (by omega), hnm _ (by omega), hsm 7 (by omega) (by omega) (by omega) (by omega) (by omega)]
        refine x_goto (tgt := 360) d_Mo_coverNow_356 (by decide) ?_
        refine x_imul d_Mo_coverNow_360 ?_
        rw [pk_mul]
        refine x_iadd d_Mo_coverNow_361 ?_
        rw [nI_add, hP]
        refine x_putI hM.f0 rfl ps_Mo_120 rfl rfl d_Mo_coverNow_362 ?_
        refine x_aload_n d_Mo_coverNow_365 rfl ?_
        refine x_iload_n d_Mo_coverNow_366 rfl ?_
        refine x_bipush (v := nI 8) d_Mo_coverNow_367 (by decide) ?_
        refine x_iconst (v := nI 1) d_Mo_coverNow_369 (by decide) ?_
        refine x_v3v d_Mo_coverNow_370 ml_Mo_123 v_Mo_put rfl ⟨rfl, rfl⟩ hM.io (Nat.le_of_ble_eq_true rfl) (ct_Mo_put hM hi20 (by omega)) (fun _ hE => ?_)
        subst hE
        refine x_aload_n d_Mo_coverNow_373 rfl ?_
        refine x_iload_n d_Mo_coverNow_374 rfl ?_
        refine x_bipush (v := nI 9) d_Mo_coverNow_375 (by decide) ?_
        refine x_iload_n d_Mo_coverNow_377 rfl ?_
        refine x_v3v d_Mo_coverNow_378 ml_Mo_123 v_Mo_put rfl ⟨rfl, rfl⟩ hM.io (Nat.le_of_ble_eq_true rfl) (ct_Mo_put hM hi20 (by omega)) (fun _ hE => ?_)
        subst hE
        refine x_aload_n d_Mo_coverNow_381 rfl ?_
        refine x_iload_n d_Mo_coverNow_382 rfl ?_
        refine x_bipush (v := nI 10) d_Mo_coverNow_383 (by decide) ?_
        refine x_iload_n d_Mo_coverNow_385 rfl ?_
        refine x_v3v d_Mo_coverNow_386 ml_Mo_123 v_Mo_put rfl ⟨rfl, rfl⟩ hM.io (Nat.le_of_ble_eq_true rfl) (ct_Mo_put hM hi20 (by omega)) (fun _ hE => ?_)
        subst hE
        refine x_aload_n d_Mo_coverNow_389 rfl ?_
        refine x_iload_n d_Mo_coverNow_390 rfl ?_
        refine x_bipush (v := nI 11) d_Mo_coverNow_391 (by decide) ?_
        refine x_aload_n d_Mo_coverNow_393 rfl ?_
        refine x_getI hM.f0 rfl fs_Mo_120 d_Mo_coverNow_394 ?_
        rw [um_ne _ _ _ (by omega), um_ne _ _ _ (by omega), um_ne _ _ _ (by omega), um_eq]
        refine x_v3v d_Mo_coverNow_397 ml_Mo_123 v_Mo_put rfl ⟨rfl, rfl⟩ hM.io (Nat.le_of_ble_eq_true rfl) (ct_Mo_put hM hi20 (by omega)) (fun _ hE => ?_)
        subst hE
        refine x_aload_n d_Mo_coverNow_400 rfl ?_
        refine x_getR hM.f0 rfl fs_Mo_7 d_Mo_coverNow_401 ?_
        refine x_iconst (v := nI 3) d_Mo_coverNow_404 (by decide) ?_
        refine x_dup2 d_Mo_coverNow_405 rfl rfl ?_
        refine x_iald hM.f1 (vp_in_nI (by omega) (by omega)) d_Mo_coverNow_406 ?_
        rw [nI_clamp (by omega), um_k _ _ (by omega), um_k _ _ (by omega), um_k _ _ (by omega), um_k _ _ (by omega), um_ne _ _ _ (by omega), hnm _ (by omega)]
        refine x_aload_n d_Mo_coverNow_407 rfl ?_
        refine x_getI hM.f0 rfl fs_Mo_120 d_Mo_coverNow_408 ?_
        rw [um_ne _ _ _ (by omega), um_ne _ _ _ (by omega), um_ne _ _ _ (by omega), um_ne _ _ _ (by omega), um_eq]
        refine x_iadd d_Mo_coverNow_411 ?_
        rw [nI_add]
        refine x_iast hM.f1 (vp_in_nI (by omega) (by omega)) d_Mo_coverNow_412 ?_
        rw [nI_clamp (by omega)]
        refine x_iconst (v := nI 0) d_Mo_coverNow_413 (by decide) ?_
        refine x_iret rfl rfl d_Mo_coverNow_414 (Nat.zero_le _) (Nat.zero_le _) ?_
        obtain ⟨b1, b2, b3, b4, b5, b6, b7, b8, b9, b10, b11⟩ := hK
        have hpos : pos = stripsN (rq R i) y (ro R r 1) := b8
        have e0 : coverL r (ro R r 1) i (SL (rq R i) y (ro R r 1)) 0 R = (0, R') := b7.symm
        rw [e0, if_pos rfl] at hcov
        have hnF : NowR (um m μ 14 (nI (priceS R i r y))) (μ + 1) R' := b1.mv (um_ne _ _ _ (by omega))
        refine ⟨_, rfl, rfl, rfl, by rw [hcov], ?_, fun _ => ?_⟩
        · exact b11.tr ((FN.um (by omega)).tr (F1.fn (F1.um.tr (F1.um.tr (F1.um.tr (F1.um.tr F1.um))))))
        · rw [hcov]
          dsimp only
          have hfs : ∀ s, sc (finS R' i r y (priceS R i r y)) i s = sc R' i s := fun s => (finS_at R' i r y (priceS R i r y)).1 _ (by omega) (by omega) (by omega) (by omega) (by omega)
          have hEL : nK (finS R' i r y (priceS R i r y)) ≤ 60 := by
            unfold nK
            rw [EL_cong (R := R') ((finS_at R' i r y (priceS R i r y)).1 _ (by omega) (by omega) (by omega) (by omega) (by omega)) (fun k j hk hj => (finS_at R' i r y (priceS R i r y)).1 _ (by have := b2.1; omega) (by have := b2.1; omega) (by have := b2.1; omega) (by have := b2.1; omega) (by have := b2.1; omega))]
            exact b3
          refine ⟨((((hnF.up rfl).up rfl).up rfl).up rfl).up rfl, hEL, ?_, ?_, ?_, ?_⟩
          · rw [um_ne _ _ _ (by omega), um_ne _ _ _ (by omega), um_ne _ _ _ (by omega), um_ne _ _ _ (by omega), um_ne _ _ _ (by omega), um_eq]
          · rw [um_ne _ _ _ (by omega), um_ne _ _ _ (by omega), um_ne _ _ _ (by omega), um_ne _ _ _ (by omega), um_ne _ _ _ (by omega), um_k _ _ (by omega), b9, hpos]
          · rw [um_ne _ _ _ (by omega), um_ne _ _ _ (by omega), um_ne _ _ _ (by omega), um_ne _ _ _ (by omega), um_ne _ _ _ (by omega), um_k _ _ (by omega), hs12]
            rfl
          · rw [um_ne _ _ _ (by omega), um_ne _ _ _ (by omega), um_ne _ _ _ (by omega), um_ne _ _ _ (by omega), um_ne _ _ _ (by omega), um_k _ _ (by omega), b10, hpos]
            rw [cnt_cong (q := fun s => decide (¬ nI (sc (finS R' i r y (priceS R i r y)) i s) < 0)) _ (fun s hs => by rw [hfs])]
    · have hk2 := nI_nle' (by omega) (by omega) c69
      have hwd := k1.w hk2 hy
      have hln := k1.l hk2 hy
      have hmn := mny_le k1 hk2 hy v2.1
      have hK2 : KI μ mem R i r y ((SLk (rq R i) y (ro R r 1) k).drop 0 ++ SLf (rq R i) y (ro R r 1) (rq R i 0 - (k + 1)) (k + 1)) m R' pos := by
        rw [show rq R i 0 - k = rq R i 0 - (k + 1) + 1 by omega, SLf] at hK
        exact hK
      refine x_aload_n d_Mo_coverNow_72 rfl ?_
      refine x_iload_n d_Mo_coverNow_73 rfl ?_
      refine x_iload d_Mo_coverNow_74 rfl ?_
      refine x_iload_n d_Mo_coverNow_76 rfl ?_
      refine x_v3p d_Mo_coverNow_77 ml_Mo_93 v_Mo_wide rfl ⟨rfl, rfl⟩ hM.io (Nat.le_of_ble_eq_true rfl) (ct_Mo_wide hM hnm hi20 (by omega) hy) ?_
      rw [hrq]
      refine x_istore d_Mo_coverNow_80 (by decide) ?_
      refine x_aload_n d_Mo_coverNow_82 rfl ?_
      refine x_iload_n d_Mo_coverNow_83 rfl ?_
      refine x_iload d_Mo_coverNow_84 rfl ?_
      refine x_iload_n d_Mo_coverNow_86 rfl ?_
      refine x_v3p d_Mo_coverNow_87 ml_Mo_97 v_Mo_longs rfl ⟨rfl, rfl⟩ hM.io (Nat.le_of_ble_eq_true rfl) (ct_Mo_longs hM hnm hi20 (by omega) hy) ?_
      rw [hrq]
      refine x_istore d_Mo_coverNow_90 (by decide) ?_
      refine x_iload d_Mo_coverNow_92 rfl ?_
      refine x_iload d_Mo_coverNow_94 rfl ?_
      refine x_s2p d_Mo_coverNow_96 ml_Mo_100 v_Mo_rounds rfl ⟨rfl, rfl⟩ rfl (Nat.le_of_ble_eq_true rfl) (ct_Mo_rounds  (by omega) v2) ?_
      rw [show (wdt (rq R i) k y + ro R r 1 - 1) / ro R r 1 = mny (rq R i) k y (ro R r 1) from rfl]
      refine x_istore d_Mo_coverNow_99 (by decide) ?_
      refine x_iconst (v := nI 0) d_Mo_coverNow_101 (by decide) ?_
      refine x_istore d_Mo_coverNow_102 (by decide) ?_
      refine up_ind (mny (rq R i) k y (ro R r 1)) (P := fun s => ∀ (m : Mem) (R' : RS) (pos : Nat) (u10 u11 u12 u13 : Option Value), KI μ mem R i r y ((SLk (rq R i) y (ro R r 1) k).drop s ++ SLf (rq R i) y (ro R r 1) (rq R i 0 - (k + 1)) (k + 1)) m R' pos → m μ 12 = nI (sN (fun k => (mny (rq R i) k y (ro R r 1) - 1) * lng (rq R i) k y) k) → X l g M_Mo_coverNow (XF g (Ri none sh (CNP μ mem R i r y)) M_Mo_coverNow) 104 [some (rf g μ), some (.int (nI i)), some (.int (nI r)), some (.int (nI y)), some (.int (nI (ro R r 1))), some (.int (nI k)), some (.int (nI (wdt (rq R i) k y))), some (.int (nI (lng (rq R i) k y))), some (.int (nI (mny (rq R i) k y (ro R r 1)))), some (.int (nI s)), u10, u11, u12, u13] [] none sh m 0 0) (fun s hs ih2 m R' pos u10 u11 u12 u13 hK hs12 => ?_) 0 (Nat.zero_le _) m R' pos _ _ _ _ hK2 hs12
      refine x_iload d_Mo_coverNow_104 rfl ?_
      refine x_iload d_Mo_coverNow_106 rfl ?_
      refine x_icmp_ge (tgt := 293) d_Mo_coverNow_108 (by decide) (fun c108 => ?_) (fun c108 => ?_)
      · have hs2 : s = mny (rq R i) k y (ro R r 1) := by have := nI_le' (by omega) (by omega) c108; omega
        subst hs2
        rw [List.drop_eq_nil_of_le (Nat.le_of_eq (SLk_len _ _ _ _)), List.nil_append] at hK
        refine x_aload_n d_Mo_coverNow_293 rfl ?_
        refine x_dup d_Mo_coverNow_294 rfl ?_
        refine x_getI hM.f0 rfl fs_Mo_80 d_Mo_coverNow_295 ?_
        rw [hs12]
        refine x_iload d_Mo_coverNow_298 rfl ?_
        refine x_iconst (v := nI 1) d_Mo_coverNow_300 (by decide) ?_
        refine x_isub d_Mo_coverNow_301 ?_
        rw [pk_sub hmn.1]
        refine x_iload d_Mo_coverNow_302 rfl ?_
        refine x_imul d_Mo_coverNow_304 ?_
        rw [pk_mul]
        refine x_iadd d_Mo_coverNow_305 ?_
        rw [nI_add]
        refine x_putI hM.f0 rfl ps_Mo_80 rfl rfl d_Mo_coverNow_306 ?_
        refine x_iinc d_Mo_coverNow_309 rfl (by first | exact inc1 _ | rfl) (by decide) ?_
        refine x_goto (tgt := 61) d_Mo_coverNow_312 (by decide) ?_
        exact ih hk2 _ R' pos _ _ _ _ _ _ _ _ hK.seam (um_eq _ _ _ _)
      · have hs2 := nI_nle' (by omega) (by omega) c108
        have hsW : s * ro R r 1 < wdt (rq R i) k y := by
          have h1 : mny (rq R i) k y (ro R r 1) * ro R r 1 ≤ wdt (rq R i) k y + ro R r 1 - 1 := Nat.div_mul_le_self _ _
          have h2 : (s + 1) * ro R r 1 ≤ mny (rq R i) k y (ro R r 1) * ro R r 1 := Nat.mul_le_mul_right _ hs2
          rw [Nat.succ_mul] at h2
          omega
        have hdr : (SLk (rq R i) y (ro R r 1) k).drop s = (min (ro R r 1) (wdt (rq R i) k y - s * ro R r 1), lng (rq R i) k y) :: (SLk (rq R i) y (ro R r 1) k).drop (s + 1) := by
          rw [List.drop_eq_getElem_cons (by rw [SLk_len]; exact hs2)]
          simp [SLk]
        rw [hdr, List.cons_append] at hK
        generalize hcn : cnt (fun s => decide (¬ nI (sc R' i s) < 0)) pos = cN
        generalize hw9 : min (ro R r 1) (wdt (rq R i) k y - s * ro R r 1) = w9 at hK ⊢
        generalize hl9 : lng (rq R i) k y = l9 at hK hln ⊢
        obtain ⟨a1, a2, a3, a4, a5, a6, a7, a8, a9, a10, a11⟩ := id hK
        rw [List.length_cons] at a8
        have hw60 : w9 ≤ 60 := by omega
        have hroW : ro R' r 1 = ro R r 1 := a4.ro hr12 (by omega) (Or.inl (by omega))
        have htk := takeS_k R' r (ro R r 1) w9 l9 i pos
        rw [coverL_cons] at a7
        rw [hcn] at a10
        refine x_iload d_Mo_coverNow_111 rfl ?_
        refine x_iload d_Mo_coverNow_113 rfl ?_
        refine x_iload d_Mo_coverNow_115 rfl ?_
        refine x_s3p d_Mo_coverNow_117 ml_Mo_103 v_Mo_stripWidth rfl ⟨rfl, rfl⟩ rfl (Nat.le_of_ble_eq_true rfl) (ct_Mo_stripWidth  (by omega) v2 hsW) ?_
        rw [hw9]
        refine x_istore d_Mo_coverNow_120 (by decide) ?_
        refine x_aload_n d_Mo_coverNow_122 rfl ?_
        refine x_iload_n d_Mo_coverNow_123 rfl ?_
        refine x_iload d_Mo_coverNow_124 rfl ?_
        refine x_iload d_Mo_coverNow_126 rfl ?_
        refine x_v3p d_Mo_coverNow_128 ml_Mo_106 v_Mo_offcutFor rfl ⟨rfl, rfl⟩ hM.io (Nat.le_of_ble_eq_true rfl) (ct_Mo_offcutFor hM a1 a2 (by omega) hr12 hw60 (by omega)) ?_
        refine x_istore d_Mo_coverNow_131 (by decide) ?_
        cases hp : pfk R' r w9 l9 (R' 1) with
        | none =>
          rw [hp] at htk
          dsimp only at htk
          rw [show oI none = -5 from rfl]
          refine x_iload d_Mo_coverNow_133 rfl ?_
          refine x_bipush (v := -5) d_Mo_coverNow_135 (by decide) ?_
          refine x_icmp_ne (tgt := 153) d_Mo_coverNow_137 (by decide) (fun c137 => ?_) (fun c137 => ?_)
          · exact absurd rfl c137
          · refine x_aload_n d_Mo_coverNow_140 rfl ?_
            refine x_iload_n d_Mo_coverNow_141 rfl ?_
            refine x_iconst (v := nI 2) d_Mo_coverNow_142 (by decide) ?_
            refine x_v2p d_Mo_coverNow_143 ml_Mo_90 v_Mo_of rfl ⟨rfl, rfl⟩ hM.io (Nat.le_of_ble_eq_true rfl) (ct_Mo_of hM a1 hr12 (by omega)) ?_
            refine x_iload d_Mo_coverNow_146 rfl ?_
            refine x_icmp_ge (tgt := 153) d_Mo_coverNow_148 (by decide) (fun c148 => ?_) (fun c148 => ?_)
            · have c148 := nI_le' (by omega) (by omega) c148
              rw [if_neg (show ¬ ro R' r 2 < l9 by omega)] at htk
              refine x_aload_n d_Mo_coverNow_153 rfl ?_
              refine x_getR hM.f0 rfl fs_Mo_7 d_Mo_coverNow_154 ?_
              refine x_sipush (v := nI 1233) d_Mo_coverNow_157 (by decide) ?_
              refine x_bipush (v := nI 36) d_Mo_coverNow_160 (by decide) ?_
              refine x_iload_n d_Mo_coverNow_162 rfl ?_
              refine x_imul d_Mo_coverNow_163 ?_
              rw [pk_mul]
              refine x_iadd d_Mo_coverNow_164 ?_
              rw [nI_add]
              refine x_aload_n d_Mo_coverNow_165 rfl ?_
              refine x_getI hM.f0 rfl fs_Mo_77 d_Mo_coverNow_166 ?_
              rw [a9]
              refine x_iadd d_Mo_coverNow_169 ?_
              rw [nI_add]
              refine x_iload d_Mo_coverNow_170 rfl ?_
              refine x_iast hM.f1 (vp_in_nI (by omega) (by omega)) d_Mo_coverNow_172 ?_
              rw [nI_clamp (by omega)]
              refine x_aload_n d_Mo_coverNow_173 rfl ?_
              refine x_dup d_Mo_coverNow_174 rfl ?_
              refine x_getI hM.f0 rfl fs_Mo_77 d_Mo_coverNow_175 ?_
              rw [um_ne _ _ _ (by omega), a9]
              refine x_iconst (v := nI 1) d_Mo_coverNow_178 (by decide) ?_
              refine x_iadd d_Mo_coverNow_179 ?_
              rw [nI_add]
              refine x_putI hM.f0 rfl ps_Mo_77 rfl rfl d_Mo_coverNow_180 ?_
              refine x_aload_n d_Mo_coverNow_183 rfl ?_
              refine x_dup d_Mo_coverNow_184 rfl ?_
              refine x_getI hM.f0 rfl fs_Mo_83 d_Mo_coverNow_185 ?_
              rw [um_k _ _ (by omega), um_ne _ _ _ (by omega), a10]
              refine x_iload d_Mo_coverNow_188 rfl ?_
              refine x_bipush (v := -5) d_Mo_coverNow_190 (by decide) ?_
              refine x_icmp_ne (tgt := 199) d_Mo_coverNow_192 (by decide) (fun c192 => ?_) (fun c192 => ?_)
              · exact absurd rfl c192
              · refine x_iconst (v := nI 0) d_Mo_coverNow_195 (by decide) ?_
                refine x_goto (tgt := 200) d_Mo_coverNow_196 (by decide) ?_
                refine x_iadd d_Mo_coverNow_200 ?_
                rw [nI_add]
                refine x_putI hM.f0 rfl ps_Mo_83 rfl rfl d_Mo_coverNow_201 ?_
                refine x_iload d_Mo_coverNow_204 rfl ?_
                refine x_bipush (v := -5) d_Mo_coverNow_206 (by decide) ?_
                refine x_icmp_ne (tgt := 216) d_Mo_coverNow_208 (by decide) (fun c208 => ?_) (fun c208 => ?_)
                · exact absurd rfl c208
                · refine x_iload d_Mo_coverNow_211 rfl ?_
                  refine x_goto (tgt := 222) d_Mo_coverNow_213 (by decide) ?_
                  refine x_istore d_Mo_coverNow_222 (by decide) ?_
                  refine x_iload d_Mo_coverNow_224 rfl ?_
                  refine x_bipush (v := -5) d_Mo_coverNow_226 (by decide) ?_
                  refine x_icmp_ne (tgt := 236) d_Mo_coverNow_228 (by decide) (fun c228 => ?_) (fun c228 => ?_)
                  · exact absurd rfl c228
                  · refine x_iload d_Mo_coverNow_231 rfl ?_
                    refine x_goto (tgt := 242) d_Mo_coverNow_233 (by decide) ?_
                    refine x_istore d_Mo_coverNow_242 (by decide) ?_
                    refine x_iload d_Mo_coverNow_244 rfl ?_
                    refine x_bipush (v := -5) d_Mo_coverNow_246 (by decide) ?_
                    refine x_icmp_ne (tgt := 263) d_Mo_coverNow_248 (by decide) (fun c248 => ?_) (fun c248 => ?_)
                    · exact absurd rfl c248
                    · refine x_aload_n d_Mo_coverNow_251 rfl ?_
                      refine x_iload_n d_Mo_coverNow_252 rfl ?_
                      refine x_iconst (v := nI 2) d_Mo_coverNow_253 (by decide) ?_
                      refine x_iload d_Mo_coverNow_254 rfl ?_
                      refine x_ineg d_Mo_coverNow_256 ?_
                      refine x_v3v d_Mo_coverNow_257 ml_Mo_50 v_Mo_add rfl ⟨rfl, rfl⟩ hM.io (Nat.le_of_ble_eq_true rfl) (ct_Mo_add hM (R := un R' (1233 + 36 * i + pos) NONE32) (((a1.up none_nI).mv (um_ne _ _ _ (by omega))).mv (um_ne _ _ _ (by omega))) hr12 (by omega)) (fun _ hE => ?_)
                      subst hE
                      rw [show ro (un R' (1233 + 36 * i + pos) NONE32) r 2 = ro R' r 2 from un_ne _ _ (by omega)]
                      obtain ⟨q1, q2, q3, q4, hn1⟩ := cn_mem (a := 1233 + 36 * i + pos) (b := 9 + 7 * r + 2) (x := cN + 0) (pos := pos + 1) a1 none_nI (neg_add c148)
                      generalize um (um (um (um m (μ + 1) (1233 + 36 * i + pos) (-5)) μ 11 (nI (pos + 1))) μ 13 (nI (cN + 0))) (μ + 1) (9 + 7 * r + 2) (nI (ro R' r 2) + -nI l9) = m1 at q1 q2 q3 q4 hn1 ⊢
                      have hcs : m1 μ 13 = nI (cN + if ¬ nI (sc (un (un R' (1233 + 36 * i + pos) NONE32) (9 + 7 * r + 2) (ro R' r 2 - l9)) i pos) < 0 then 1 else 0) := by
                        have e : sc (un (un R' (1233 + 36 * i + pos) NONE32) (9 + 7 * r + 2) (ro R' r 2 - l9)) i pos = NONE32 := by
                          unfold sc
                          rw [un_ne _ _ (by omega), un_at]
                        rw [q2, e, if_neg (by decide)]
                      refine x_goto (tgt := 269) d_Mo_coverNow_260 (by decide) ?_
                      obtain ⟨t1, t2, t3, t4⟩ := a2.take hr12 v2.2 (by omega) htk
                      obtain ⟨s1, s2, s3, s4, s5⟩ := takeS_same hr12 (by omega) a2.1 htk
                      have hnk := takeS_nK hr12 hi20 (by omega) a2.1 htk
                      have e4 := (s1 4 (by omega) (by omega) (by omega) (by omega) (by omega)).trans (a4 4 (by omega) (by omega) (by omega) (by omega) (by omega))
                      have e5 := (s1 5 (by omega) (by omega) (by omega) (by omega) (by omega)).trans (a4 5 (by omega) (by omega) (by omega) (by omega) (by omega))
                      have hpw := takeS_fit (by omega) htk
                      refine x_aload_n d_Mo_coverNow_269 rfl ?_
                      refine x_iload_n d_Mo_coverNow_270 rfl ?_
                      refine x_iload d_Mo_coverNow_271 rfl ?_
                      refine x_iload d_Mo_coverNow_273 rfl ?_
                      refine x_iload d_Mo_coverNow_275 rfl ?_
                      refine x_iload d_Mo_coverNow_277 rfl ?_
                      refine x_v5i d_Mo_coverNow_279 ml_Mo_113 v_Mo_cut rfl ⟨rfl, rfl⟩ hM.io (Nat.le_of_ble_eq_true rfl) (ct_Mo_cut hM hn1 t1 (by omega) (by omega) (by omega) (by omega) hr12 (by omega) t3 t4 hpw.1 hpw.2) (fun r279 mem279 h279 => ?_)
                      refine x_if_ne (tgt := 287) d_Mo_coverNow_282 (by decide) (fun c282 => ?_) (fun c282 => ?_)
                      · obtain ⟨f9, ⟨z1, z2⟩ | ⟨R2, z1, z2, z3⟩⟩ := h279
                        · rw [z2] at c282
                          exact absurd rfl c282
                        · have hst := hK.step hr12 hi20 hr (by omega) v2.2 ⟨hw60, by omega⟩ htk z1 z3 (by rw [f9 _ (by omega)]; exact q1) (by rw [f9 _ (by omega), hcn]; exact hcs) (a11.tr (q4.tr f9.fn))
                          refine x_iinc d_Mo_coverNow_287 rfl (by first | exact inc1 _ | rfl) (by decide) ?_
                          refine x_goto (tgt := 104) d_Mo_coverNow_290 (by decide) ?_
                          subst hl9; exact ih2 hs2 mem279 R2 (pos + 1) _ _ _ _ hst (by rw [f9 _ (by omega), q3]; exact hs12)
                      · obtain ⟨f9, ⟨z1, z2⟩ | ⟨R2, z1, z2, z3⟩⟩ := h279
                        · have e3 : stripS R' r (ro R r 1) i pos w9 l9 = (4, R') := by rw [stripS, htk]; dsimp only; rw [z1]
                          rw [e3, if_neg (nz_fst (by decide))] at a7
                          refine x_iconst (v := nI 4) d_Mo_coverNow_285 (by decide) ?_
                          refine x_iret rfl rfl d_Mo_coverNow_286 (Nat.zero_le _) (Nat.zero_le _) ?_
                          exact ⟨_, rfl, rfl, rfl, by rw [hcov, ← a7]; rfl, a11.tr (q4.tr f9.fn), fun z => absurd z (by rw [hcov, ← a7]; exact nz_fst (by decide))⟩
                        · rw [z2] at c282
                          exact absurd c282 (by decide)
            · have c148 := nI_nle' (by omega) (by omega) c148
              rw [if_pos c148] at htk
              have e3 : stripS R' r (ro R r 1) i pos w9 l9 = (3, R') := by rw [stripS, htk]
              rw [e3, if_neg (nz_fst (by decide))] at a7
              refine x_iconst (v := nI 3) d_Mo_coverNow_151 (by decide) ?_
              refine x_iret rfl rfl d_Mo_coverNow_152 (Nat.zero_le _) (Nat.zero_le _) ?_
              exact ⟨_, rfl, rfl, rfl, by rw [hcov, ← a7]; rfl, a11, fun z => absurd z (by rw [hcov, ← a7]; exact nz_fst (by decide))⟩
        | some p =>
          obtain ⟨pb, pk⟩ := pfk_lt _ _ hp
          have hp300 : p < 300 := by have := a2.1; omega
          have hpne : ¬ nI p = -5 := fun z => absurd (show nI p < 0 by rw [z]; decide) (nI_pos (by omega))
          rw [hp] at htk
          dsimp only at htk
          rw [show oI (some p) = nI p from rfl]
          refine x_iload d_Mo_coverNow_133 rfl ?_
          refine x_bipush (v := -5) d_Mo_coverNow_135 (by decide) ?_
          refine x_icmp_ne (tgt := 153) d_Mo_coverNow_137 (by decide) (fun c137 => ?_) (fun c137 => ?_)
          · refine x_aload_n d_Mo_coverNow_153 rfl ?_
            refine x_getR hM.f0 rfl fs_Mo_7 d_Mo_coverNow_154 ?_
            refine x_sipush (v := nI 1233) d_Mo_coverNow_157 (by decide) ?_
            refine x_bipush (v := nI 36) d_Mo_coverNow_160 (by decide) ?_
            refine x_iload_n d_Mo_coverNow_162 rfl ?_
            refine x_imul d_Mo_coverNow_163 ?_
            rw [pk_mul]
            refine x_iadd d_Mo_coverNow_164 ?_
            rw [nI_add]
            refine x_aload_n d_Mo_coverNow_165 rfl ?_
            refine x_getI hM.f0 rfl fs_Mo_77 d_Mo_coverNow_166 ?_
            rw [a9]
            refine x_iadd d_Mo_coverNow_169 ?_
            rw [nI_add]
            refine x_iload d_Mo_coverNow_170 rfl ?_
            refine x_iast hM.f1 (vp_in_nI (by omega) (by omega)) d_Mo_coverNow_172 ?_
            rw [nI_clamp (by omega)]
            refine x_aload_n d_Mo_coverNow_173 rfl ?_
            refine x_dup d_Mo_coverNow_174 rfl ?_
            refine x_getI hM.f0 rfl fs_Mo_77 d_Mo_coverNow_175 ?_
            rw [um_ne _ _ _ (by omega), a9]
            refine x_iconst (v := nI 1) d_Mo_coverNow_178 (by decide) ?_
            refine x_iadd d_Mo_coverNow_179 ?_
            rw [nI_add]
            refine x_putI hM.f0 rfl ps_Mo_77 rfl rfl d_Mo_coverNow_180 ?_
            refine x_aload_n d_Mo_coverNow_183 rfl ?_
            refine x_dup d_Mo_coverNow_184 rfl ?_
            refine x_getI hM.f0 rfl fs_Mo_83 d_Mo_coverNow_185 ?_
            rw [um_k _ _ (by omega), um_ne _ _ _ (by omega), a10]
            refine x_iload d_Mo_coverNow_188 rfl ?_
            refine x_bipush (v := -5) d_Mo_coverNow_190 (by decide) ?_
            refine x_icmp_ne (tgt := 199) d_Mo_coverNow_192 (by decide) (fun c192 => ?_) (fun c192 => ?_)
            · refine x_iconst (v := nI 1) d_Mo_coverNow_199 (by decide) ?_
              refine x_iadd d_Mo_coverNow_200 ?_
              rw [nI_add]
              refine x_putI hM.f0 rfl ps_Mo_83 rfl rfl d_Mo_coverNow_201 ?_
              refine x_iload d_Mo_coverNow_204 rfl ?_
              refine x_bipush (v := -5) d_Mo_coverNow_206 (by decide) ?_
              refine x_icmp_ne (tgt := 216) d_Mo_coverNow_208 (by decide) (fun c208 => ?_) (fun c208 => ?_)
              · refine x_aload_n d_Mo_coverNow_216 rfl ?_
                refine x_iload d_Mo_coverNow_217 rfl ?_
                refine x_v1p d_Mo_coverNow_219 ml_Mo_39 v_Mo_widthOf rfl ⟨rfl, rfl⟩ hM.io (Nat.le_of_ble_eq_true rfl) (ct_Mo_widthOf hM (R := un R' (1233 + 36 * i + pos) p) (((a1.up rfl).mv (um_ne _ _ _ (by omega))).mv (um_ne _ _ _ (by omega))) hp300) ?_
                rw [show oc (un R' (1233 + 36 * i + pos) p) p 1 = oc R' p 1 from un_ne _ _ (by omega)]
                refine x_istore d_Mo_coverNow_222 (by decide) ?_
                refine x_iload d_Mo_coverNow_224 rfl ?_
                refine x_bipush (v := -5) d_Mo_coverNow_226 (by decide) ?_
                refine x_icmp_ne (tgt := 236) d_Mo_coverNow_228 (by decide) (fun c228 => ?_) (fun c228 => ?_)
                · refine x_aload_n d_Mo_coverNow_236 rfl ?_
                  refine x_iload d_Mo_coverNow_237 rfl ?_
                  refine x_v1p d_Mo_coverNow_239 ml_Mo_43 v_Mo_lengthOf rfl ⟨rfl, rfl⟩ hM.io (Nat.le_of_ble_eq_true rfl) (ct_Mo_lengthOf hM (R := un R' (1233 + 36 * i + pos) p) (((a1.up rfl).mv (um_ne _ _ _ (by omega))).mv (um_ne _ _ _ (by omega))) hp300) ?_
                  rw [show oc (un R' (1233 + 36 * i + pos) p) p 2 = oc R' p 2 from un_ne _ _ (by omega)]
                  refine x_istore d_Mo_coverNow_242 (by decide) ?_
                  refine x_iload d_Mo_coverNow_244 rfl ?_
                  refine x_bipush (v := -5) d_Mo_coverNow_246 (by decide) ?_
                  refine x_icmp_ne (tgt := 263) d_Mo_coverNow_248 (by decide) (fun c248 => ?_) (fun c248 => ?_)
                  · refine x_aload_n d_Mo_coverNow_263 rfl ?_
                    refine x_iload d_Mo_coverNow_264 rfl ?_
                    refine x_v1v d_Mo_coverNow_266 ml_Mo_109 v_Mo_drop rfl ⟨rfl, rfl⟩ hM.io (Nat.le_of_ble_eq_true rfl) (ct_Mo_drop hM hp300) (fun _ hE => ?_)
                    subst hE
                    obtain ⟨q1, q2, q3, q4, hn1⟩ := cn_mem (a := 1233 + 36 * i + pos) (b := 93 + 3 * p) (x := cN + 1) (pos := pos + 1) (w := nI 0) a1 (rfl : nI p = nI p) rfl
                    generalize um (um (um (um m (μ + 1) (1233 + 36 * i + pos) (nI p)) μ 11 (nI (pos + 1))) μ 13 (nI (cN + 1))) (μ + 1) (93 + 3 * p) (nI 0) = m1 at q1 q2 q3 q4 hn1 ⊢
                    have hn1 : NowR m1 (μ + 1) (dropR (un R' (1233 + 36 * i + pos) p) p) := hn1
                    have hcs : m1 μ 13 = nI (cN + if ¬ nI (sc (dropR (un R' (1233 + 36 * i + pos) p) p) i pos) < 0 then 1 else 0) := by
                      have e : sc (dropR (un R' (1233 + 36 * i + pos) p) p) i pos = p := by
                        unfold sc dropR
                        rw [un_ne _ _ (by omega), un_at]
                      rw [q2, e, if_pos (nI_pos (by omega))]
                    obtain ⟨t1, t2, t3, t4⟩ := a2.take hr12 v2.2 (by omega) htk
                    obtain ⟨s1, s2, s3, s4, s5⟩ := takeS_same hr12 (by omega) a2.1 htk
                    have hnk := takeS_nK hr12 hi20 (by omega) a2.1 htk
                    have e4 := (s1 4 (by omega) (by omega) (by omega) (by omega) (by omega)).trans (a4 4 (by omega) (by omega) (by omega) (by omega) (by omega))
                    have e5 := (s1 5 (by omega) (by omega) (by omega) (by omega) (by omega)).trans (a4 5 (by omega) (by omega) (by omega) (by omega) (by omega))
                    have hpw := takeS_fit (by omega) htk
                    refine x_aload_n d_Mo_coverNow_269 rfl ?_
                    refine x_iload_n d_Mo_coverNow_270 rfl ?_
                    refine x_iload d_Mo_coverNow_271 rfl ?_
                    refine x_iload d_Mo_coverNow_273 rfl ?_
                    refine x_iload d_Mo_coverNow_275 rfl ?_
                    refine x_iload d_Mo_coverNow_277 rfl ?_
                    refine x_v5i d_Mo_coverNow_279 ml_Mo_113 v_Mo_cut rfl ⟨rfl, rfl⟩ hM.io (Nat.le_of_ble_eq_true rfl) (ct_Mo_cut hM hn1 t1 (by omega) (by omega) (by omega) (by omega) hr12 (by omega) t3 t4 hpw.1 hpw.2) (fun r279 mem279 h279 => ?_)
                    refine x_if_ne (tgt := 287) d_Mo_coverNow_282 (by decide) (fun c282 => ?_) (fun c282 => ?_)
                    · obtain ⟨f9, ⟨z1, z2⟩ | ⟨R2, z1, z2, z3⟩⟩ := h279
                      · rw [z2] at c282
                        exact absurd rfl c282
                      · have hst := hK.step hr12 hi20 hr (by omega) v2.2 ⟨hw60, by omega⟩ htk z1 z3 (by rw [f9 _ (by omega)]; exact q1) (by rw [f9 _ (by omega), hcn]; exact hcs) (a11.tr (q4.tr f9.fn))
                        refine x_iinc d_Mo_coverNow_287 rfl (by first | exact inc1 _ | rfl) (by decide) ?_
                        refine x_goto (tgt := 104) d_Mo_coverNow_290 (by decide) ?_
                        subst hl9; exact ih2 hs2 mem279 R2 (pos + 1) _ _ _ _ hst (by rw [f9 _ (by omega), q3]; exact hs12)
                    · obtain ⟨f9, ⟨z1, z2⟩ | ⟨R2, z1, z2, z3⟩⟩ := h279
                      · have e3 : stripS R' r (ro R r 1) i pos w9 l9 = (4, R') := by rw [stripS, htk]; dsimp only; rw [z1]
                        rw [e3, if_neg (nz_fst (by decide))] at a7
                        refine x_iconst (v := nI 4) d_Mo_coverNow_285 (by decide) ?_
                        refine x_iret rfl rfl d_Mo_coverNow_286 (Nat.zero_le _) (Nat.zero_le _) ?_
                        exact ⟨_, rfl, rfl, rfl, by rw [hcov, ← a7]; rfl, a11.tr (q4.tr f9.fn), fun z => absurd z (by rw [hcov, ← a7]; exact nz_fst (by decide))⟩
                      · rw [z2] at c282
                        exact absurd c282 (by decide)
                  · exact absurd c248 hpne
                · exact absurd c228 hpne
              · exact absurd c208 hpne
            · exact absurd c192 hpne
          · exact absurd c137 hpne
  refine x_aload_n d_Mo_coverNow_15 rfl ?_
  refine x_iload_n d_Mo_coverNow_16 rfl ?_
  refine x_bipush (v := nI 8) d_Mo_coverNow_17 (by decide) ?_
  refine x_v2p d_Mo_coverNow_19 ml_Mo_74 v_Mo_at rfl ⟨rfl, rfl⟩ hM.io (Nat.le_of_ble_eq_true rfl) (ct_Mo_at hM hm0 hi20 (by omega)) ?_
  refine x_iconst (v := nI 1) d_Mo_coverNow_22 (by decide) ?_
  refine x_icmp_ne (tgt := 28) d_Mo_coverNow_23 (by decide) (fun c23 => ?_) (fun c23 => ?_)
  · have h8 := nI_ne' c23
    refine x_aload_n d_Mo_coverNow_28 rfl ?_
    refine x_getR hM.f0 rfl fs_Mo_7 d_Mo_coverNow_29 ?_
    refine x_bipush (v := nI 8) d_Mo_coverNow_32 (by decide) ?_
    refine x_iald hM.f1 (vp_in_nI (by omega) (by omega)) d_Mo_coverNow_34 ?_
    rw [nI_clamp (by omega), hm0 _ (by omega)]
    refine x_iconst (v := nI 1) d_Mo_coverNow_35 (by decide) ?_
    refine x_icmp_ne (tgt := 50) d_Mo_coverNow_36 (by decide) (fun c36 => ?_) (fun c36 => ?_)
    · have c36 := nI_ne' c36
      exact hJ h8 (fun z => c36 z.1)
    · have c36 := nI_eq' (by omega) (by omega) c36
      refine x_aload_n d_Mo_coverNow_39 rfl ?_
      refine x_iload_n d_Mo_coverNow_40 rfl ?_
      refine x_iload_n d_Mo_coverNow_41 rfl ?_
      refine x_v2p d_Mo_coverNow_42 ml_Mo_86 v_Mo_isAcross rfl ⟨rfl, rfl⟩ hM.io (Nat.le_of_ble_eq_true rfl) (ct_Mo_isAcross hM hm0 hi20 k1 hy) ?_
      refine x_if_eq (tgt := 50) d_Mo_coverNow_45 (by decide) (fun c45 => ?_) (fun c45 => ?_)
      · have c45 := bI_0.mp c45
        exact hJ h8 (fun z => c45 z.2)
      · have c45 := bI_n.mp c45
        refine x_iconst (v := nI 2) d_Mo_coverNow_48 (by decide) ?_
        refine x_iret rfl rfl d_Mo_coverNow_49 (Nat.zero_le _) (Nat.zero_le _) ?_
        have e2 : coverS R i r y = (2, R) := by rw [coverS, if_neg h8, if_pos ⟨c36, c45⟩]
        exact ⟨_, rfl, rfl, rfl, by rw [e2], hf0, fun z => absurd z (by rw [e2]; exact nz_fst (by decide))⟩
  · have h8 := nI_eq' (by omega) (by omega) c23
    refine x_iconst (v := nI 1) d_Mo_coverNow_26 (by decide) ?_
    refine x_iret rfl rfl d_Mo_coverNow_27 (Nat.zero_le _) (Nat.zero_le _) ?_
    have e1 : coverS R i r y = (1, R) := by rw [coverS, if_pos h8]
    exact ⟨_, rfl, rfl, rfl, by rw [e1], hf0, fun z => absurd z (by rw [e1]; exact nz_fst (by decide))⟩
end
