/-! the reference: cover, sell, texts, keep -/
def FG (μ : Nat) (mem m : Mem) : Prop := (∀ o, o ≠ μ → o ≠ μ + 1 → o ≠ μ + 3 → o ≠ μ + 4 → o ≠ μ + 7 → m o = mem o) ∧ ∀ k, 8 ≤ k → k < 11 → m μ k = mem μ k
theorem FN.fg {μ : Nat} {mem m : Mem} (h : FN μ mem m) : FG μ mem m := ⟨fun o h1 h2 _ _ _ => h.1 o h1 h2, fun k _ hk => h.2 k hk⟩
theorem FG.tr {μ : Nat} {m1 m2 m3 : Mem} (h : FG μ m1 m2) (k : FG μ m2 m3) : FG μ m1 m3 := ⟨fun o a b c d e => (k.1 o a b c d e).trans (h.1 o a b c d e), fun j a b => (k.2 j a b).trans (h.2 j a b)⟩
theorem MR.fg {mem m : Mem} {μ : Nat} {G : GS} (h : MR mem μ G) (F : FG μ mem m) (hn : NowR m (μ + 1) G.1) : MR m μ G ∧ Fr μ (μ + 8) mem m := by
  obtain ⟨h1, h2, ⟨a1, a2, a3⟩, ⟨t1, t2, t3⟩, h5⟩ := h
  refine ⟨⟨h1, hn, ⟨a1, by rw [F.2 _ (by omega) (by omega)]; exact a2, fun t R ht => ⟨(a3 t R ht).1, fun i hi => by rw [F.1 _ (by omega) (by omega) (by omega) (by omega) (by omega)]; exact (a3 t R ht).2 i hi⟩⟩, ⟨t1, by rw [F.2 _ (by omega) (by omega)]; exact t2, fun i c hi => by rw [F.1 _ (by omega) (by omega) (by omega) (by omega) (by omega)]; exact t3 i c hi⟩, ?_⟩, fun o ho => F.1 o (by omega) (by omega) (by omega) (by omega) (by omega)⟩
  cases hS : G.2.2.1 with
  | none => rw [hS] at h5; exact (F.2 10 (by omega) (by omega)).trans h5
  | some S =>
    rw [hS] at h5
    exact ⟨(F.2 10 (by omega) (by omega)).trans h5.1, h5.2.1, h5.2.2.mv (F.1 _ (by omega) (by omega) (by omega) (by omega) (by omega))⟩
theorem MR.acted {mem m1 m2 : Mem} {μ : Nat} {G : GS} {R' : RS} (h : MR mem μ G) (f1 : ∀ o, o ≠ μ → o ≠ μ + 5 → m1 o = mem o) (f2 : ∀ k, k ≠ 8 → m1 μ k = mem μ k) (hh : MHist m1 μ (pushH G.2.1 G.1)) (F : FN μ m1 m2) (hI : Inv R') (hn : NowR m2 (μ + 1) R') : MR m2 μ (actG G R') ∧ Fr μ (μ + 8) mem m2 := by
  obtain ⟨h1, h2, -, ⟨t1, t2, t3⟩, h5⟩ := h
  have e : ∀ o, o ≠ μ → o ≠ μ + 1 → o ≠ μ + 5 → m2 o = mem o := fun o a b c => (F.1 o a b).trans (f1 o a c)
  obtain ⟨a1, a2, a3⟩ := hh
  refine ⟨⟨hI, hn, ⟨a1, by rw [F.2 _ (by omega)]; exact a2, fun t R ht => ⟨(a3 t R ht).1, fun i hi => by rw [F.1 _ (by omega) (by omega)]; exact (a3 t R ht).2 i hi⟩⟩, ⟨t1, by rw [F.2 _ (by omega), f2 _ (by omega)]; exact t2, fun i c hi => by rw [e _ (by omega) (by omega) (by omega)]; exact t3 i c hi⟩, ?_⟩, fun o ho => e o (by omega) (by omega) (by omega)⟩
  show MSnap m2 μ G.2.2.1
  cases hS : G.2.2.1 with
  | none => rw [hS] at h5; exact ((F.2 10 (by omega)).trans (f2 10 (by omega))).trans h5
  | some S =>
    rw [hS] at h5
    exact ⟨((F.2 10 (by omega)).trans (f2 10 (by omega))).trans h5.1, h5.2.1, h5.2.2.mv (e _ (by omega) (by omega) (by omega))⟩
theorem stripS_le (R : RS) (r W i s w k : Nat) : (stripS R r W i s w k).1 ≤ 4 := by
  cases ht : takeS R r W w k i s with
  | none =>
    have e : stripS R r W i s w k = (3, R) := by rw [stripS, ht]
    rw [e]
    exact (show 3 ≤ 4 by omega)
  | some t => cases hc : cutS t.1 r t.2.1 t.2.2 w k with
    | none =>
      have e : stripS R r W i s w k = (4, R) := by rw [stripS, ht]; dsimp only; rw [hc]
      rw [e]
      exact Nat.le_refl 4
    | some R2 =>
      have e : stripS R r W i s w k = (0, R2) := by rw [stripS, ht]; dsimp only; rw [hc]
      rw [e]
      exact Nat.zero_le 4
theorem coverL_le (r W i : Nat) : ∀ (S : List (Nat × Nat)) (s : Nat) (R : RS), (coverL r W i S s R).1 ≤ 4
  | [], s, R => Nat.zero_le 4
  | p :: ps, s, R => by
    rw [coverL_cons]
    split
    · exact coverL_le r W i ps _ _
    · exact stripS_le R r W i s p.1 p.2
theorem coverS_le (R : RS) (i r y : Nat) : (coverS R i r y).1 ≤ 4 := by
  unfold coverS
  split
  · exact (show 1 ≤ 4 by omega)
  · split
    · exact (show 2 ≤ 4 by omega)
    · split
      · exact Nat.zero_le 4
      · exact coverL_le _ _ _ _ _ _
theorem why_I {e : Nat} (h : e ≤ 4) (h0 : e ≠ 0) : (-10 : Int32) - nI e = errI e := by
  rcases (show e = 1 ∨ e = 2 ∨ e = 3 ∨ e = 4 by omega) with rfl | rfl | rfl | rfl <;> decide
section
variable {l : Launch} {g : XG} {sh : Nat → Sh} {mem : Mem} {μ : Nat} {G : GS}
theorem ct_Mo_cover (hM : LayMo sh μ) (hC : MR mem μ G) (h60 : nK G.1 ≤ 60) {i r y : Int32} : Ct l g M_Mo_cover [rf g μ, .int i, .int r, .int y] none sh mem (Ri none sh (MP μ mem (spCover G i r y))) := by
  obtain ⟨hI, hn, hh, ht, hs⟩ := id hC
  have h20 := hI.1.2.2
  have h12 := hI.1.1
  refine x_begin rfl rfl rfl (by decide) rfl ?_
  refine x_aload_n d_Mo_cover_0 rfl ?_
  refine x_iload_n d_Mo_cover_1 rfl ?_
  refine x_iload_n d_Mo_cover_2 rfl ?_
  refine x_iload_n d_Mo_cover_3 rfl ?_
  refine x_v3p d_Mo_cover_4 ml_Mo_145 v_Mo_check rfl ⟨rfl, rfl⟩ hM.io (Nat.le_of_ble_eq_true rfl) (ct_Mo_check hM hn h12 h20) ?_
  by_cases hc1 : hasI i (G.1 2) ∧ hasI r (G.1 0)
  · rw [if_pos hc1, show spCover G i r y = if inI y 0 1 then (if (coverS G.1 (tN i) (tN r) (tN y)).1 = 0 then (nI (priceS G.1 (tN i) (tN r) (tN y)), actG G (coverS G.1 (tN i) (tN r) (tN y)).2) else (errI (coverS G.1 (tN i) (tN r) (tN y)).1, G)) else (-2, G) from if_pos hc1]
    by_cases hy0 : inI y 0 1
    · rw [if_pos hy0, if_pos hy0]
      obtain ⟨i, hi, rfl⟩ := hasI_of (by omega) hc1.1
      obtain ⟨r, hr, rfl⟩ := hasI_of (by omega) hc1.2
      obtain ⟨y, hy, rfl⟩ := inI_of (by omega) (by omega) hy0
      rw [tN_nI (by omega), tN_nI (by omega), tN_nI (by omega)]
      have hle := coverS_le G.1 i r y
      refine x_istore d_Mo_cover_7 (by decide) ?_
      refine x_iload d_Mo_cover_9 rfl ?_
      refine x_if_ge (tgt := 17) d_Mo_cover_11 (by decide) (fun c11 => ?_) (fun c11 => ?_)
      · refine x_aload_n d_Mo_cover_17 rfl ?_
        refine x_v0v d_Mo_cover_18 ml_Mo_148 v_Mo_lay rfl ⟨rfl, rfl⟩ hM.io (Nat.le_of_ble_eq_true rfl) (ct_Mo_lay hM hn) (fun mem18 h18 => ?_)
        obtain ⟨f18, n18⟩ := h18
        refine x_aload_n d_Mo_cover_21 rfl ?_
        refine x_iload_n d_Mo_cover_22 rfl ?_
        refine x_iload_n d_Mo_cover_23 rfl ?_
        refine x_iload_n d_Mo_cover_24 rfl ?_
        refine x_v3i d_Mo_cover_25 ml_Mo_151 v_Mo_coverNow rfl ⟨rfl, rfl⟩ hM.io (Nat.le_of_ble_eq_true rfl) (ct_Mo_coverNow hM hI h60 (hn.mv (f18 _ (by omega))) hi hr hy.2) (fun r25 mem25 h25 => ?_)
        obtain ⟨rfl, f25, -⟩ := h25
        refine x_istore d_Mo_cover_28 (by decide) ?_
        refine x_aload_n d_Mo_cover_30 rfl ?_
        refine x_v0v d_Mo_cover_31 ml_Mo_154 v_Mo_takeBack rfl ⟨rfl, rfl⟩ hM.io (Nat.le_of_ble_eq_true rfl) (ct_Mo_takeBack hM (n18.mv (f25.1 _ (by omega) (by omega)))) (fun mem31 h31 => ?_)
        obtain ⟨f31, n31⟩ := h31
        have F18 : FG μ mem mem18 := ⟨fun o h1 h2 h3 h4 h5 => f18 o h3, fun k h1 h2 => by rw [f18 _ (by omega)]⟩
        have F31 : FG μ mem mem31 := F18.tr (f25.fg.tr f31.fn.fg)
        have hC1 := hC.fg F31 n31
        refine x_iload d_Mo_cover_34 rfl ?_
        refine x_if_le (tgt := 45) d_Mo_cover_36 (by decide) (fun c36 => ?_) (fun c36 => ?_)
        · have c36 : (coverS G.1 i r y).1 ≤ 0 := nI_le' (b := 0) (by omega) (by omega) c36
          have e0 : (coverS G.1 i r y).1 = 0 := by omega
          rw [if_pos e0]
          refine x_aload_n d_Mo_cover_45 rfl ?_
          refine x_v0v d_Mo_cover_46 ml_Mo_126 v_Mo_record rfl ⟨rfl, rfl⟩ hM.io (Nat.le_of_ble_eq_true rfl) (ct_Mo_record hM n31 hI hC1.1.2.2.1) (fun mem46 h46 => ?_)
          obtain ⟨f46, g46, hh46⟩ := h46
          refine x_aload_n d_Mo_cover_49 rfl ?_
          refine x_iload_n d_Mo_cover_50 rfl ?_
          refine x_iload_n d_Mo_cover_51 rfl ?_
          refine x_iload_n d_Mo_cover_52 rfl ?_
          refine x_v3i d_Mo_cover_53 ml_Mo_151 v_Mo_coverNow rfl ⟨rfl, rfl⟩ hM.io (Nat.le_of_ble_eq_true rfl) (ct_Mo_coverNow hM hI h60 (n31.mv (f46 _ (by omega) (by omega))) hi hr hy.2) (fun r53 mem53 h53 => ?_)
          obtain ⟨-, f53, k53⟩ := h53
          obtain ⟨n53, -, p53, -⟩ := k53 e0
          have hA := hC1.1.acted f46 g46 hh46 f53 (coverS_inv hI hi hr hy.2 e0) n53
          refine x_pop d_Mo_cover_56 rfl ?_
          refine x_aload_n d_Mo_cover_57 rfl ?_
          refine x_getI hM.f0 rfl fs_Mo_120 d_Mo_cover_58 ?_
          rw [p53]
          refine x_iret rfl rfl d_Mo_cover_61 (Nat.zero_le _) (Nat.zero_le _) ?_
          exact ⟨_, rfl, rfl, rfl, rfl, hA.1, hC1.2.tr hA.2⟩
        · have c36 : 0 < (coverS G.1 i r y).1 := nI_nle' (b := 0) (by omega) (by omega) c36
          rw [if_neg (by omega), ← why_I hle (by omega)]
          refine x_bipush (v := -10) d_Mo_cover_39 (by decide) ?_
          refine x_iload d_Mo_cover_41 rfl ?_
          refine x_isub d_Mo_cover_43 ?_
          refine x_iret rfl rfl d_Mo_cover_44 (Nat.zero_le _) (Nat.zero_le _) ?_
          exact ⟨_, rfl, rfl, rfl, rfl, hC1⟩
      · exact absurd (by decide) c11
    · rw [if_neg hy0, if_neg hy0]
      refine x_istore d_Mo_cover_7 (by decide) ?_
      refine x_iload d_Mo_cover_9 rfl ?_
      refine x_if_ge (tgt := 17) d_Mo_cover_11 (by decide) (fun c11 => ?_) (fun c11 => ?_)
      · exact absurd c11 (by decide)
      · refine x_iload d_Mo_cover_14 rfl ?_
        refine x_iret rfl rfl d_Mo_cover_16 (Nat.zero_le _) (Nat.zero_le _) ?_
        exact ⟨_, rfl, rfl, rfl, rfl, hC, Fr.rf⟩
  · rw [if_neg hc1, show spCover G i r y = (-1, G) from if_neg hc1]
    refine x_istore d_Mo_cover_7 (by decide) ?_
    refine x_iload d_Mo_cover_9 rfl ?_
    refine x_if_ge (tgt := 17) d_Mo_cover_11 (by decide) (fun c11 => ?_) (fun c11 => ?_)
    · exact absurd c11 (by decide)
    · refine x_iload d_Mo_cover_14 rfl ?_
      refine x_iret rfl rfl d_Mo_cover_16 (Nat.zero_le _) (Nat.zero_le _) ?_
      exact ⟨_, rfl, rfl, rfl, rfl, hC, Fr.rf⟩
theorem ct_Mo_clearText (hM : LayMo sh μ) (hC : MR mem μ G) : Ct l g M_Mo_clearText [rf g μ] none sh mem (Ri none sh (MP μ mem (spClearText G))) := by
  obtain ⟨hI, hn, hh, ht, hs⟩ := id hC
  refine x_begin rfl rfl rfl (by decide) rfl ?_
  have hne : ∀ o, o ≠ μ → um mem μ 9 (nI 0) o = mem o := fun o ho => um_ne _ _ _ ho
  have hS : MSnap (um mem μ 9 (nI 0)) μ G.2.2.1 := by
    cases hS : G.2.2.1 with
    | none => rw [hS] at hs; exact (um_k _ _ (by omega)).trans hs
    | some S =>
      rw [hS] at hs
      exact ⟨(um_k _ _ (by omega)).trans hs.1, hs.2.1, hs.2.2.mv (hne _ (by omega))⟩
  refine x_aload_n d_Mo_clearText_0 rfl ?_
  refine x_getI hM.f0 rfl fs_Mo_175 d_Mo_clearText_1 ?_
  rw [ht.2.1]
  refine x_istore_n d_Mo_clearText_4 (by decide) ?_
  refine x_aload_n d_Mo_clearText_5 rfl ?_
  refine x_iconst (v := nI 0) d_Mo_clearText_6 (by decide) ?_
  refine x_putI hM.f0 rfl ps_Mo_175 rfl rfl d_Mo_clearText_7 ?_
  refine x_iload_n d_Mo_clearText_10 rfl ?_
  refine x_iret rfl rfl d_Mo_clearText_11 (Nat.zero_le _) (Nat.zero_le _) ?_
  exact ⟨_, rfl, rfl, rfl, rfl, ⟨hI, hn.mv (hne _ (by omega)), ⟨hh.1, by rw [um_k _ _ (by omega)]; exact hh.2.1, fun t R1 ht1 => ⟨(hh.2.2 t R1 ht1).1, fun x hx => by rw [hne _ (by omega)]; exact (hh.2.2 t R1 ht1).2 x hx⟩⟩, ⟨Nat.zero_le _, um_eq _ _ _ _, fun i c hi => by have hi : ([] : List Nat)[i]? = some c := hi; rw [List.getElem?_nil] at hi; cases hi⟩, hS⟩, fun o ho => hne o (by omega)⟩
theorem ct_Mo_sell (hM : LayMo sh μ) (hC : MR mem μ G) {x : Int32} : Ct l g M_Mo_sell [rf g μ, .int x] none sh mem (Ri none sh (MP μ mem (spSell G x))) := by
  obtain ⟨hI, hn, hh, ht, hs⟩ := id hC
  have h300 := hI.1.2.1
  have h12 := hI.1.1
  have hroc : ∀ j, j < G.1 1 → oc G.1 j 0 < 2 ^ 31 := fun j hj => by
    by_cases h : kp G.1 j = true
    · have := (hI.off.2 j hj h).1; omega
    · have : ¬ 0 < oc G.1 j 0 := fun z => h (decide_eq_true z)
      omega
  refine x_begin rfl rfl rfl (by decide) rfl ?_
  refine x_aload_n d_Mo_sell_0 rfl ?_
  refine x_iload_n d_Mo_sell_1 rfl ?_
  refine x_v1p d_Mo_sell_2 ml_Mo_46 v_Mo_isKept rfl ⟨rfl, rfl⟩ hM.io (Nat.le_of_ble_eq_true rfl) (ct_Mo_isKept hM hn h300 hroc) ?_
  refine x_if_ne (tgt := 10) d_Mo_sell_5 (by decide) (fun c5 => ?_) (fun c5 => ?_)
  · have hk := bI_n.mp c5
    rw [show spSell G x = (nI (oc G.1 (tN x) 1 * oc G.1 (tN x) 2 * ro G.1 (oc G.1 (tN x) 0 - 1) 3 / 2), actG G (sellS G.1 (tN x))) from if_pos hk]
    obtain ⟨hk0, hk2⟩ := hk
    obtain ⟨k, hk1, rfl⟩ := hasI_of (by omega) hk0
    rw [tN_nI (by omega)] at hk2 ⊢
    obtain ⟨o1, o2, o3⟩ := hI.off.2 k hk1 hk2
    have o4 : 0 < oc G.1 k 0 := of_decide_eq_true hk2
    have hA : oA G.1 k ≤ 60 * 60 := mul_b o2 o3
    obtain ⟨v1, v2, v3, v4, v5⟩ := hI.2.2.1 (oc G.1 k 0 - 1) (by omega)
    have hAp : oA G.1 k * ro G.1 (oc G.1 k 0 - 1) 3 ≤ 3600 * 99 := mul_b hA v4
    refine x_aload_n d_Mo_sell_10 rfl ?_
    refine x_v0v d_Mo_sell_11 ml_Mo_126 v_Mo_record rfl ⟨rfl, rfl⟩ hM.io (Nat.le_of_ble_eq_true rfl) (ct_Mo_record hM hn hI hh) (fun mem11 h11 => ?_)
    obtain ⟨f11, g11, hh11⟩ := h11
    have n11 : NowR mem11 (μ + 1) G.1 := hn.mv (f11 _ (by omega) (by omega))
    refine x_aload_n d_Mo_sell_14 rfl ?_
    refine x_iload_n d_Mo_sell_15 rfl ?_
    refine x_v1p d_Mo_sell_16 ml_Mo_68 v_Mo_rollOfOffcut rfl ⟨rfl, rfl⟩ hM.io (Nat.le_of_ble_eq_true rfl) (ct_Mo_rollOfOffcut hM n11 (by omega) hk2) ?_
    refine x_istore_n d_Mo_sell_19 (by decide) ?_
    refine x_aload_n d_Mo_sell_20 rfl ?_
    refine x_iload_n d_Mo_sell_21 rfl ?_
    refine x_v1p d_Mo_sell_22 ml_Mo_71 v_Mo_areaOf rfl ⟨rfl, rfl⟩ hM.io (Nat.le_of_ble_eq_true rfl) (ct_Mo_areaOf hM n11 (by omega)) ?_
    refine x_aload_n d_Mo_sell_25 rfl ?_
    refine x_iload_n d_Mo_sell_26 rfl ?_
    refine x_iconst (v := nI 3) d_Mo_sell_27 (by decide) ?_
    refine x_v2p d_Mo_sell_28 ml_Mo_90 v_Mo_of rfl ⟨rfl, rfl⟩ hM.io (Nat.le_of_ble_eq_true rfl) (ct_Mo_of hM n11 (by omega) (by omega)) ?_
    refine x_imul d_Mo_sell_31 ?_
    rw [pk_mul]
    refine x_iconst (v := nI 2) d_Mo_sell_32 (by decide) ?_
    refine x_idiv d_Mo_sell_33 (by decide) ?_
    rw [pk_div (by omega) (by omega) (by omega)]
    refine x_istore_n d_Mo_sell_34 (by decide) ?_
    refine x_aload_n d_Mo_sell_35 rfl ?_
    refine x_iload_n d_Mo_sell_36 rfl ?_
    refine x_bipush (v := nI 6) d_Mo_sell_37 (by decide) ?_
    refine x_aload_n d_Mo_sell_39 rfl ?_
    refine x_iload_n d_Mo_sell_40 rfl ?_
    refine x_v1p d_Mo_sell_41 ml_Mo_71 v_Mo_areaOf rfl ⟨rfl, rfl⟩ hM.io (Nat.le_of_ble_eq_true rfl) (ct_Mo_areaOf hM n11 (by omega)) ?_
    refine x_v3v d_Mo_sell_44 ml_Mo_50 v_Mo_add rfl ⟨rfl, rfl⟩ hM.io (Nat.le_of_ble_eq_true rfl) (ct_Mo_add hM n11 (by omega) (by omega)) (fun _ hE => ?_)
    subst hE
    rw [nI_add]
    refine x_aload_n d_Mo_sell_47 rfl ?_
    refine x_getR hM.f0 rfl fs_Mo_7 d_Mo_sell_48 ?_
    refine x_iconst (v := nI 3) d_Mo_sell_51 (by decide) ?_
    refine x_dup2 d_Mo_sell_52 rfl rfl ?_
    refine x_iald hM.f1 (vp_in_nI (by omega) (by omega)) d_Mo_sell_53 ?_
    rw [nI_clamp (by omega), um_k _ _ (by omega), n11 _ (by omega)]
    refine x_iload_n d_Mo_sell_54 rfl ?_
    refine x_iadd d_Mo_sell_55 ?_
    rw [nI_add]
    refine x_iast hM.f1 (vp_in_nI (by omega) (by omega)) d_Mo_sell_56 ?_
    rw [nI_clamp (by omega)]
    refine x_aload_n d_Mo_sell_57 rfl ?_
    refine x_iload_n d_Mo_sell_58 rfl ?_
    refine x_v1v d_Mo_sell_59 ml_Mo_109 v_Mo_drop rfl ⟨rfl, rfl⟩ hM.io (Nat.le_of_ble_eq_true rfl) (ct_Mo_drop hM (by omega)) (fun _ hE => ?_)
    subst hE
    refine x_iload_n d_Mo_sell_62 rfl ?_
    refine x_iret rfl rfl d_Mo_sell_63 (Nat.zero_le _) (Nat.zero_le _) ?_
    exact ⟨_, rfl, rfl, rfl, rfl, hC.acted f11 g11 hh11 ((F1.um.tr (F1.um.tr F1.um)).fn) (sellS_inv hI hk1 hk2) (((n11.up rfl).up rfl).up rfl)⟩
  · rw [show spSell G x = (-1, G) from if_neg (bI_0.mp c5)]
    refine x_iconst (v := -1) d_Mo_sell_8 (by decide) ?_
    refine x_iret rfl rfl d_Mo_sell_9 (Nat.zero_le _) (Nat.zero_le _) ?_
    exact ⟨_, rfl, rfl, rfl, rfl, hC, Fr.rf⟩
end
