/-! the reference: what would be; the best roll and way -/
def FB (μ : Nat) (mem m : Mem) : Prop := (∀ o, o ≠ μ → o ≠ μ + 1 → o ≠ μ + 3 → m o = mem o) ∧ ∀ k, k < 11 → m μ k = mem μ k
theorem FB.rf {μ : Nat} {mem : Mem} : FB μ mem mem := ⟨fun _ _ _ _ => rfl, fun _ _ => rfl⟩
theorem FB.tr {μ : Nat} {m1 m2 m3 : Mem} (h : FB μ m1 m2) (k : FB μ m2 m3) : FB μ m1 m3 := ⟨fun o a b c => (k.1 o a b c).trans (h.1 o a b c), fun j hj => (k.2 j hj).trans (h.2 j hj)⟩
theorem FN.fb {μ : Nat} {mem m : Mem} (h : FN μ mem m) : FB μ mem m := ⟨fun o a b _ => h.1 o a b, h.2⟩
theorem FB.fg {μ : Nat} {mem m : Mem} (h : FB μ mem m) : FG μ mem m := ⟨fun o a b c _ _ => h.1 o a b c, fun k _ hk => h.2 k hk⟩
theorem vIf_nI {R : RS} {i r y w : Nat} (h2 : R 2 ≤ 20) (h0 : R 0 ≤ 12) (hi : i < R 2) (hr : r < R 0) (hy : y ≤ 1) (hw : w ≤ 5) : vIfCov R (nI i) (nI r) (nI y) (nI w) = if (coverS R i r y).1 = 0 then nI (ifcN R i r y w) else errI (coverS R i r y).1 := by
  unfold vIfCov
  rw [if_pos ⟨hasI_nI (by omega) hi, hasI_nI (by omega) hr⟩, if_pos ⟨⟨nI_pos' (by omega), nI_le hy (by omega)⟩, ⟨nI_pos' (by omega), nI_le hw (by omega)⟩⟩, tN_nI (by omega), tN_nI (by omega), tN_nI (by omega), tN_nI (by omega)]
def IFP (μ : Nat) (mem : Mem) (R : RS) (i r y w x : Int32) (m : Mem) : Prop := FB μ mem m ∧ NowR m (μ + 1) R ∧ x = vIfCov R i r y w ∧ ∀ i0 r0 y0, i = nI i0 → r = nI r0 → y = nI y0 → i0 < R 2 → r0 < R 0 → y0 ≤ 1 → inI w 0 5 → (coverS R i0 r0 y0).1 = 0 → m μ 14 = nI (priceS R i0 r0 y0)
def bI3 (c : Option (Nat × Nat × Nat × Nat)) : Int32 := match c with
  | none => -5
  | some q => nI (2 * q.1 + q.2.1)
def lwI (c : Option (Nat × Nat × Nat × Nat)) : Int32 := match c with
  | none => nI 0
  | some q => nI q.2.2.1
def lpI (c : Option (Nat × Nat × Nat × Nat)) : Int32 := match c with
  | none => nI 0
  | some q => nI q.2.2.2
section
variable {l : Launch} {g : XG} {sh : Nat → Sh} {mem : Mem} {μ : Nat} {R : RS}
theorem ct_Mo_ofg (hM : LayMo sh μ) {r f : Nat} (hr : r < 12) (hf : f < 7) : Ct l g M_Mo_of [rf g μ, .int (nI r), .int (nI f)] none sh mem (Pq (.int (mem (μ + 1) (9 + 7 * r + f))) none sh mem) := by
  refine x_begin rfl rfl rfl (by decide) rfl ?_
  refine x_aload_n d_Mo_of_0 rfl ?_
  refine x_getR hM.f0 rfl fs_Mo_7 d_Mo_of_1 ?_
  refine x_bipush (v := nI 9) d_Mo_of_4 (by decide) ?_
  refine x_bipush (v := nI 7) d_Mo_of_6 (by decide) ?_
  refine x_iload_n d_Mo_of_8 rfl ?_
  refine x_imul d_Mo_of_9 ?_
  rw [pk_mul]
  refine x_iadd d_Mo_of_10 ?_
  rw [nI_add]
  refine x_iload_n d_Mo_of_11 rfl ?_
  refine x_iadd d_Mo_of_12 ?_
  rw [nI_add]
  refine x_iald hM.f1 (vp_in_nI (by omega) (by omega)) d_Mo_of_13 ?_
  rw [nI_clamp (by omega)]
  refine x_iret rfl rfl d_Mo_of_14 (Nat.zero_le _) (Nat.zero_le _) ?_
  exact ⟨rfl, rfl, rfl, rfl⟩
theorem ct_Mo_ifCovered (hM : LayMo sh μ) (hI : Inv R) (h60 : nK R ≤ 60) (hn : NowR mem (μ + 1) R) {i r y w : Int32} : Ct l g M_Mo_ifCovered [rf g μ, .int i, .int r, .int y, .int w] none sh mem (Ri none sh (IFP μ mem R i r y w)) := by
  have h20 := hI.1.2.2
  have h12 := hI.1.1
  refine x_begin rfl rfl rfl (by decide) rfl ?_
  refine x_aload_n d_Mo_ifCovered_0 rfl ?_
  refine x_iload_n d_Mo_ifCovered_1 rfl ?_
  refine x_iload_n d_Mo_ifCovered_2 rfl ?_
  refine x_iload_n d_Mo_ifCovered_3 rfl ?_
  refine x_v3p d_Mo_ifCovered_4 ml_Mo_145 v_Mo_check rfl ⟨rfl, rfl⟩ hM.io (Nat.le_of_ble_eq_true rfl) (ct_Mo_check hM hn h12 h20) ?_
  by_cases hc1 : hasI i (R 2) ∧ hasI r (R 0)
  · rw [if_pos hc1]
    have hv : vIfCov R i r y w = if inI y 0 1 ∧ inI w 0 5 then (if (coverS R (tN i) (tN r) (tN y)).1 = 0 then nI (ifcN R (tN i) (tN r) (tN y) (tN w)) else errI (coverS R (tN i) (tN r) (tN y)).1) else -2 := if_pos hc1
    by_cases hy0 : inI y 0 1
    · rw [if_pos hy0]
      obtain ⟨i, hi, rfl⟩ := hasI_of (by omega) hc1.1
      obtain ⟨r, hr, rfl⟩ := hasI_of (by omega) hc1.2
      obtain ⟨y, hy, rfl⟩ := inI_of (by omega) (by omega) hy0
      rw [tN_nI (n := i) (by omega), tN_nI (n := r) (by omega), tN_nI (n := y) (by omega)] at hv
      refine x_istore d_Mo_ifCovered_7 (by decide) ?_
      refine x_iload d_Mo_ifCovered_9 rfl ?_
      refine x_iconst (v := -1) d_Mo_ifCovered_11 (by decide) ?_
      refine x_icmp_ne (tgt := 17) d_Mo_ifCovered_12 (by decide) (fun c12 => ?_) (fun c12 => ?_)
      · refine x_iload d_Mo_ifCovered_17 rfl ?_
        refine x_if_lt (tgt := 32) d_Mo_ifCovered_19 (by decide) (fun c19 => ?_) (fun c19 => ?_)
        · exact absurd c19 (by decide)
        · refine x_iload d_Mo_ifCovered_22 rfl ?_
          refine x_iconst (v := nI 0) d_Mo_ifCovered_24 (by decide) ?_
          refine x_iconst (v := nI 5) d_Mo_ifCovered_25 (by decide) ?_
          refine x_s3p d_Mo_ifCovered_26 ml_Mo_35 v_Mo_in rfl ⟨rfl, rfl⟩ rfl (Nat.le_of_ble_eq_true rfl) (ct_Mo_in) ?_
          refine x_if_ne (tgt := 35) d_Mo_ifCovered_29 (by decide) (fun c29 => ?_) (fun c29 => ?_)
          · have hw0 := bI_n.mp c29
            rw [if_pos ⟨hy0, hw0⟩] at hv
            obtain ⟨w, hw, rfl⟩ := inI_of (x := w) (a := 0) (b := 5) (by omega) (by omega) hw0
            rw [tN_nI (n := w) (by omega)] at hv
            have hpr := priceS_lt hI hi hr hy.2
            have hle := coverS_le R i r y
            refine x_aload_n d_Mo_ifCovered_35 rfl ?_
            refine x_iload_n d_Mo_ifCovered_36 rfl ?_
            refine x_iconst (v := nI 5) d_Mo_ifCovered_37 (by decide) ?_
            refine x_v2p d_Mo_ifCovered_38 ml_Mo_90 v_Mo_of rfl ⟨rfl, rfl⟩ hM.io (Nat.le_of_ble_eq_true rfl) (ct_Mo_of hM hn (by omega) (by omega)) ?_
            refine x_istore d_Mo_ifCovered_41 (by decide) ?_
            refine x_aload_n d_Mo_ifCovered_43 rfl ?_
            refine x_iload_n d_Mo_ifCovered_44 rfl ?_
            refine x_iconst (v := nI 2) d_Mo_ifCovered_45 (by decide) ?_
            refine x_v2p d_Mo_ifCovered_46 ml_Mo_90 v_Mo_of rfl ⟨rfl, rfl⟩ hM.io (Nat.le_of_ble_eq_true rfl) (ct_Mo_of hM hn (by omega) (by omega)) ?_
            refine x_istore d_Mo_ifCovered_49 (by decide) ?_
            refine x_aload_n d_Mo_ifCovered_51 rfl ?_
            refine x_v0v d_Mo_ifCovered_52 ml_Mo_148 v_Mo_lay rfl ⟨rfl, rfl⟩ hM.io (Nat.le_of_ble_eq_true rfl) (ct_Mo_lay hM hn) (fun mem52 h52 => ?_)
            obtain ⟨f52, n52⟩ := h52
            refine x_aload_n d_Mo_ifCovered_55 rfl ?_
            refine x_iload_n d_Mo_ifCovered_56 rfl ?_
            refine x_iload_n d_Mo_ifCovered_57 rfl ?_
            refine x_iload_n d_Mo_ifCovered_58 rfl ?_
            refine x_v3i d_Mo_ifCovered_59 ml_Mo_151 v_Mo_coverNow rfl ⟨rfl, rfl⟩ hM.io (Nat.le_of_ble_eq_true rfl) (ct_Mo_coverNow hM hI h60 (hn.mv (f52 _ (by omega))) hi hr hy.2) (fun r59 mem59 h59 => ?_)
            obtain ⟨rfl, f59, k59⟩ := h59
            refine x_istore d_Mo_ifCovered_62 (by decide) ?_
            refine x_aload_n d_Mo_ifCovered_64 rfl ?_
            refine x_iload_n d_Mo_ifCovered_65 rfl ?_
            refine x_iconst (v := nI 5) d_Mo_ifCovered_66 (by decide) ?_
            refine x_v2p d_Mo_ifCovered_67 ml_Mo_90 v_Mo_of rfl ⟨rfl, rfl⟩ hM.io (Nat.le_of_ble_eq_true rfl) (ct_Mo_ofg hM (by omega) (by omega)) ?_
            refine x_iload d_Mo_ifCovered_70 rfl ?_
            refine x_isub d_Mo_ifCovered_72 ?_
            refine x_istore d_Mo_ifCovered_73 (by decide) ?_
            refine x_iload d_Mo_ifCovered_75 rfl ?_
            refine x_aload_n d_Mo_ifCovered_77 rfl ?_
            refine x_iload_n d_Mo_ifCovered_78 rfl ?_
            refine x_iconst (v := nI 2) d_Mo_ifCovered_79 (by decide) ?_
            refine x_v2p d_Mo_ifCovered_80 ml_Mo_90 v_Mo_of rfl ⟨rfl, rfl⟩ hM.io (Nat.le_of_ble_eq_true rfl) (ct_Mo_ofg hM (by omega) (by omega)) ?_
            refine x_isub d_Mo_ifCovered_83 ?_
            refine x_istore d_Mo_ifCovered_84 (by decide) ?_
            refine x_aload_n d_Mo_ifCovered_86 rfl ?_
            refine x_v0v d_Mo_ifCovered_87 ml_Mo_154 v_Mo_takeBack rfl ⟨rfl, rfl⟩ hM.io (Nat.le_of_ble_eq_true rfl) (ct_Mo_takeBack hM (n52.mv (f59.1 _ (by omega) (by omega)))) (fun mem87 h87 => ?_)
            obtain ⟨f87, n87⟩ := h87
            have hFB : FB μ mem mem87 := ⟨fun o a b c => ((f87 o b).trans (f59.1 o a b)).trans (f52 o c), fun k hk => by rw [f87 _ (by omega), f59.2 k hk, f52 _ (by omega)]⟩
            refine x_iload d_Mo_ifCovered_90 rfl ?_
            refine x_if_le (tgt := 101) d_Mo_ifCovered_92 (by decide) (fun c92 => ?_) (fun c92 => ?_)
            · have c92 : (coverS R i r y).1 ≤ 0 := nI_le' (b := 0) (by omega) (by omega) c92
              have e0 : (coverS R i r y).1 = 0 := by omega
              rw [if_pos e0] at hv
              obtain ⟨n59, -, p59, s59, m59, o59⟩ := k59 e0
              obtain ⟨⟨u1, u2⟩, u3, -⟩ := coverS_keep hI hi hr hy.2 e0
              have g14 : mem87 μ 14 = nI (priceS R i r y) := by rw [f87 _ (by omega)]; exact p59
              have g11 : mem87 μ 11 = nI (stripsN (rq R i) y (ro R r 1)) := by rw [f87 _ (by omega)]; exact s59
              have g12 : mem87 μ 12 = nI (seamN (rq R i) y (ro R r 1)) := by rw [f87 _ (by omega)]; exact m59
              have g13 : mem87 μ 13 = nI (cnt (fun s => decide (¬ nI (sc (coverS R i r y).2 i s) < 0)) (stripsN (rq R i) y (ro R r 1))) := by rw [f87 _ (by omega)]; exact o59
              have hPr : ∀ i0 r0 y0, nI i = nI i0 → nI r = nI r0 → nI y = nI y0 → i0 < R 2 → r0 < R 0 → y0 ≤ 1 → inI (nI w) 0 5 → (coverS R i0 r0 y0).1 = 0 → mem87 μ 14 = nI (priceS R i0 r0 y0) := fun i0 r0 y0 e1 e2 e3 h1 h2 h3 _ h5 => by
                have q1 := nI_eq' (by omega) (by omega) e1
                have q2 := nI_eq' (by omega) (by omega) e2
                have q3 := nI_eq' (by omega) (by omega) e3
                subst q1 q2 q3
                exact g14
              have q5 : mem59 (μ + 1) (9 + 7 * r + 5) = nI (ro (coverS R i r y).2 r 5) := n59 _ (by omega)
              have q2 : mem59 (μ + 1) (9 + 7 * r + 2) = nI (ro (coverS R i r y).2 r 2) := n59 _ (by omega)
              rw [q5, q2, pk_sub u1, pk_sub u3]
              refine x_iload d_Mo_ifCovered_101 rfl ?_
              refine x_if_ne (tgt := 113) d_Mo_ifCovered_103 (by decide) (fun c103 => ?_) (fun c103 => ?_)
              · have c103 : w ≠ 0 := nI_ne' c103
                refine x_iload d_Mo_ifCovered_113 rfl ?_
                refine x_iconst (v := nI 1) d_Mo_ifCovered_115 (by decide) ?_
                refine x_icmp_ne (tgt := 126) d_Mo_ifCovered_116 (by decide) (fun c116 => ?_) (fun c116 => ?_)
                · have c116 := nI_ne' c116
                  refine x_iload d_Mo_ifCovered_126 rfl ?_
                  refine x_iconst (v := nI 2) d_Mo_ifCovered_128 (by decide) ?_
                  refine x_icmp_ne (tgt := 139) d_Mo_ifCovered_129 (by decide) (fun c129 => ?_) (fun c129 => ?_)
                  · have c129 := nI_ne' c129
                    refine x_iload d_Mo_ifCovered_139 rfl ?_
                    refine x_iconst (v := nI 3) d_Mo_ifCovered_141 (by decide) ?_
                    refine x_icmp_ne (tgt := 150) d_Mo_ifCovered_142 (by decide) (fun c142 => ?_) (fun c142 => ?_)
                    · have c142 := nI_ne' c142
                      refine x_iload d_Mo_ifCovered_150 rfl ?_
                      refine x_iconst (v := nI 4) d_Mo_ifCovered_152 (by decide) ?_
                      refine x_icmp_ne (tgt := 161) d_Mo_ifCovered_153 (by decide) (fun c153 => ?_) (fun c153 => ?_)
                      · have c153 := nI_ne' c153
                        have c5 : w = 5 := by omega
                        subst c5
                        refine x_aload_n d_Mo_ifCovered_161 rfl ?_
                        refine x_getI hM.f0 rfl fs_Mo_83 d_Mo_ifCovered_162 ?_
                        refine x_iret rfl rfl d_Mo_ifCovered_165 (Nat.zero_le _) (Nat.zero_le _) ?_
                        exact ⟨_, rfl, rfl, rfl, hFB, n87, by rw [hv, g13]; rfl, hPr⟩
                      · have c153 := nI_eq' (by omega) (by omega) c153
                        subst c153
                        refine x_iload d_Mo_ifCovered_156 rfl ?_
                        refine x_goto (tgt := 165) d_Mo_ifCovered_158 (by decide) ?_
                        refine x_iret rfl rfl d_Mo_ifCovered_165 (Nat.zero_le _) (Nat.zero_le _) ?_
                        exact ⟨_, rfl, rfl, rfl, hFB, n87, by rw [hv]; rfl, hPr⟩
                    · have c142 := nI_eq' (by omega) (by omega) c142
                      subst c142
                      refine x_iload d_Mo_ifCovered_145 rfl ?_
                      refine x_goto (tgt := 165) d_Mo_ifCovered_147 (by decide) ?_
                      refine x_iret rfl rfl d_Mo_ifCovered_165 (Nat.zero_le _) (Nat.zero_le _) ?_
                      exact ⟨_, rfl, rfl, rfl, hFB, n87, by rw [hv]; rfl, hPr⟩
                  · have c129 := nI_eq' (by omega) (by omega) c129
                    subst c129
                    refine x_aload_n d_Mo_ifCovered_132 rfl ?_
                    refine x_getI hM.f0 rfl fs_Mo_80 d_Mo_ifCovered_133 ?_
                    refine x_goto (tgt := 165) d_Mo_ifCovered_136 (by decide) ?_
                    refine x_iret rfl rfl d_Mo_ifCovered_165 (Nat.zero_le _) (Nat.zero_le _) ?_
                    exact ⟨_, rfl, rfl, rfl, hFB, n87, by rw [hv, g12]; rfl, hPr⟩
                · have c116 := nI_eq' (by omega) (by omega) c116
                  subst c116
                  refine x_aload_n d_Mo_ifCovered_119 rfl ?_
                  refine x_getI hM.f0 rfl fs_Mo_77 d_Mo_ifCovered_120 ?_
                  refine x_goto (tgt := 165) d_Mo_ifCovered_123 (by decide) ?_
                  refine x_iret rfl rfl d_Mo_ifCovered_165 (Nat.zero_le _) (Nat.zero_le _) ?_
                  exact ⟨_, rfl, rfl, rfl, hFB, n87, by rw [hv, g11]; rfl, hPr⟩
              · have c103 := nI_eq' (b := 0) (by omega) (by omega) c103
                subst c103
                refine x_aload_n d_Mo_ifCovered_106 rfl ?_
                refine x_getI hM.f0 rfl fs_Mo_120 d_Mo_ifCovered_107 ?_
                refine x_goto (tgt := 165) d_Mo_ifCovered_110 (by decide) ?_
                refine x_iret rfl rfl d_Mo_ifCovered_165 (Nat.zero_le _) (Nat.zero_le _) ?_
                exact ⟨_, rfl, rfl, rfl, hFB, n87, by rw [hv, g14]; rfl, hPr⟩
            · have c92 : 0 < (coverS R i r y).1 := nI_nle' (b := 0) (by omega) (by omega) c92
              rw [if_neg (by omega)] at hv
              refine x_bipush (v := -10) d_Mo_ifCovered_95 (by decide) ?_
              refine x_iload d_Mo_ifCovered_97 rfl ?_
              refine x_isub d_Mo_ifCovered_99 ?_
              refine x_iret rfl rfl d_Mo_ifCovered_100 (Nat.zero_le _) (Nat.zero_le _) ?_
              exact ⟨_, rfl, rfl, rfl, hFB, n87, by rw [hv]; exact why_I hle (by omega), fun i0 r0 y0 e1 e2 e3 h1 h2 h3 _ h5 => by have q1 := nI_eq' (by omega) (by omega) e1; have q2 := nI_eq' (by omega) (by omega) e2; have q3 := nI_eq' (by omega) (by omega) e3; subst q1 q2 q3; omega⟩
          · have hw0 := bI_0.mp c29
            refine x_bipush (v := -2) d_Mo_ifCovered_32 (by decide) ?_
            refine x_iret rfl rfl d_Mo_ifCovered_34 (Nat.zero_le _) (Nat.zero_le _) ?_
            exact ⟨_, rfl, rfl, rfl, FB.rf, hn, by rw [hv, if_neg (fun z => hw0 z.2)], fun i0 r0 y0 e1 e2 e3 h1 h2 h3 h4 h5 => absurd h4 hw0⟩
      · exact absurd c12 (by decide)
    · rw [if_neg hy0]
      refine x_istore d_Mo_ifCovered_7 (by decide) ?_
      refine x_iload d_Mo_ifCovered_9 rfl ?_
      refine x_iconst (v := -1) d_Mo_ifCovered_11 (by decide) ?_
      refine x_icmp_ne (tgt := 17) d_Mo_ifCovered_12 (by decide) (fun c12 => ?_) (fun c12 => ?_)
      · refine x_iload d_Mo_ifCovered_17 rfl ?_
        refine x_if_lt (tgt := 32) d_Mo_ifCovered_19 (by decide) (fun c19 => ?_) (fun c19 => ?_)
        · refine x_bipush (v := -2) d_Mo_ifCovered_32 (by decide) ?_
          refine x_iret rfl rfl d_Mo_ifCovered_34 (Nat.zero_le _) (Nat.zero_le _) ?_
          exact ⟨_, rfl, rfl, rfl, FB.rf, hn, by rw [hv, if_neg (fun z => hy0 z.1)], fun i0 r0 y0 e1 e2 e3 h1 h2 h3 h4 h5 => absurd (show inI y 0 1 by rw [e3]; exact ⟨nI_pos' (by omega), nI_le h3 (by omega)⟩) hy0⟩
        · exact absurd (by decide) c19
      · exact absurd c12 (by decide)
  · rw [if_neg hc1]
    refine x_istore d_Mo_ifCovered_7 (by decide) ?_
    refine x_iload d_Mo_ifCovered_9 rfl ?_
    refine x_iconst (v := -1) d_Mo_ifCovered_11 (by decide) ?_
    refine x_icmp_ne (tgt := 17) d_Mo_ifCovered_12 (by decide) (fun c12 => ?_) (fun c12 => ?_)
    · exact absurd rfl c12
    · refine x_iconst (v := -1) d_Mo_ifCovered_15 (by decide) ?_
      refine x_iret rfl rfl d_Mo_ifCovered_16 (Nat.zero_le _) (Nat.zero_le _) ?_
      exact ⟨_, rfl, rfl, rfl, FB.rf, hn, (if_neg hc1).symm, fun i0 r0 y0 e1 e2 e3 h1 h2 h3 h4 h5 => absurd ⟨by rw [e1]; exact hasI_nI (by omega) h1, by rw [e2]; exact hasI_nI (by omega) h2⟩ hc1⟩
def BFP (μ : Nat) (mem : Mem) (R : RS) (i kd : Nat) (x : Int32) (m : Mem) : Prop := FB μ mem m ∧ NowR m (μ + 1) R ∧ x = bI3 (chooseS R i kd)
theorem ct_Mo_bestFor (hM : LayMo sh μ) (hI : Inv R) (h60 : nK R ≤ 60) (hn : NowR mem (μ + 1) R) {i kd : Nat} (hi : i < R 2) (hkd : kd ≤ 9) : Ct l g M_Mo_bestFor [rf g μ, .int (nI i), .int (nI kd)] none sh mem (Ri none sh (BFP μ mem R i kd)) := by
  have h20 := hI.1.2.2
  have h12 := hI.1.1
  refine x_begin rfl rfl rfl (by decide) rfl ?_
  refine x_bipush (v := -5) d_Mo_bestFor_0 (by decide) ?_
  refine x_istore_n d_Mo_bestFor_2 (by decide) ?_
  refine x_iconst (v := nI 0) d_Mo_bestFor_3 (by decide) ?_
  refine x_istore d_Mo_bestFor_4 (by decide) ?_
  refine x_iconst (v := nI 0) d_Mo_bestFor_6 (by decide) ?_
  refine x_istore d_Mo_bestFor_7 (by decide) ?_
  refine x_iconst (v := nI 0) d_Mo_bestFor_9 (by decide) ?_
  refine x_istore d_Mo_bestFor_10 (by decide) ?_
  refine up_ind (2 * R 0) (P := fun n => ∀ (m : Mem) (u7 u8 : Option Value), FB μ mem m → NowR m (μ + 1) R → X l g M_Mo_bestFor (XF g (Ri none sh (BFP μ mem R i kd)) M_Mo_bestFor) 12 [some (rf g μ), some (.int (nI i)), some (.int (nI kd)), some (.int (bI3 (chN R i kd n))), some (.int (lwI (chN R i kd n))), some (.int (lpI (chN R i kd n))), some (.int (nI n)), u7, u8] [] none sh m 0 0) (fun n hn2 ih m u7 u8 hF hnm => ?_) 0 (Nat.zero_le _) mem _ _ FB.rf hn
  refine x_iload d_Mo_bestFor_12 rfl ?_
  refine x_iconst (v := nI 2) d_Mo_bestFor_14 (by decide) ?_
  refine x_aload_n d_Mo_bestFor_15 rfl ?_
  refine x_getR hM.f0 rfl fs_Mo_7 d_Mo_bestFor_16 ?_
  refine x_iconst (v := nI 0) d_Mo_bestFor_19 (by decide) ?_
  refine x_iald hM.f1 (vp_in_nI (by omega) (by omega)) d_Mo_bestFor_20 ?_
  rw [nI_clamp (by omega), hnm _ (by omega)]
  refine x_imul d_Mo_bestFor_21 ?_
  rw [pk_mul]
  refine x_icmp_ge (tgt := 112) d_Mo_bestFor_22 (by decide) (fun c22 => ?_) (fun c22 => ?_)
  · have hj2 : n = 2 * R 0 := by have := nI_le' (by omega) (by omega) c22; omega
    rw [hj2]
    refine x_iload_n d_Mo_bestFor_112 rfl ?_
    refine x_iret rfl rfl d_Mo_bestFor_113 (Nat.zero_le _) (Nat.zero_le _) ?_
    exact ⟨_, rfl, rfl, rfl, hF, hnm, rfl⟩
  · have hj2 := nI_nle' (by omega) (by omega) c22
    have hr0 : n / 2 < R 0 := by omega
    have hy0 : n % 2 ≤ 1 := by omega
    have hk9 := (hI.2.2.1 _ hr0).1
    refine x_aload_n d_Mo_bestFor_25 rfl ?_
    refine x_iload d_Mo_bestFor_26 rfl ?_
    refine x_iconst (v := nI 2) d_Mo_bestFor_28 (by decide) ?_
    refine x_idiv d_Mo_bestFor_29 (by decide) ?_
    rw [pk_div (by omega) (by omega) (by omega)]
    refine x_iconst (v := nI 0) d_Mo_bestFor_30 (by decide) ?_
    refine x_v2p d_Mo_bestFor_31 ml_Mo_90 v_Mo_of rfl ⟨rfl, rfl⟩ hM.io (Nat.le_of_ble_eq_true rfl) (ct_Mo_of hM hnm (by omega) (by omega)) ?_
    refine x_iload_n d_Mo_bestFor_34 rfl ?_
    refine x_icmp_eq (tgt := 41) d_Mo_bestFor_35 (by decide) (fun c35 => ?_) (fun c35 => ?_)
    · have heq := nI_eq' (by omega) (by omega) c35
      refine x_aload_n d_Mo_bestFor_41 rfl ?_
      refine x_iload_n d_Mo_bestFor_42 rfl ?_
      refine x_iload d_Mo_bestFor_43 rfl ?_
      refine x_iconst (v := nI 2) d_Mo_bestFor_45 (by decide) ?_
      refine x_idiv d_Mo_bestFor_46 (by decide) ?_
      rw [pk_div (by omega) (by omega) (by omega)]
      refine x_iload d_Mo_bestFor_47 rfl ?_
      refine x_iconst (v := nI 2) d_Mo_bestFor_49 (by decide) ?_
      refine x_irem d_Mo_bestFor_50 (by decide) ?_
      rw [pk_rem (by omega) (by omega) (by omega)]
      refine x_iconst (v := nI 3) d_Mo_bestFor_51 (by decide) ?_
      refine x_v4i d_Mo_bestFor_52 ml_Mo_202 v_Mo_ifCovered rfl ⟨rfl, rfl⟩ hM.io (Nat.le_of_ble_eq_true rfl) (ct_Mo_ifCovered hM hI h60 hnm) (fun r52 mem52 h52 => ?_)
      obtain ⟨f52, n52, rfl, p52⟩ := h52
      have hF1 := hF.tr f52
      rw [vIf_nI h20 h12 hi hr0 hy0 (by omega)]
      by_cases e0 : (coverS R i (n / 2) (n % 2)).1 = 0
      · rw [if_pos e0]
        have p52 := p52 i (n / 2) (n % 2) rfl rfl rfl hi hr0 hy0 (by decide) e0
        have hw9 := wasteD_lt hI hi hr0 hy0 e0
        have hpr := priceS_lt hI hi hr0 hy0
        rw [show ifcN R i (n / 2) (n % 2) 3 = wasteD R i (n / 2) (n % 2) from rfl]
        have h9 := fun m u7 u8 => ih hj2 m u7 u8
        have hbi : ∀ a b, bI3 (some (n / 2, n % 2, a, b)) = nI n := fun a b => by show nI (2 * (n / 2) + n % 2) = nI n; congr 1; omega
        cases hq : chN R i kd n with
        | none =>
          have hst : chN R i kd (n + 1) = some (n / 2, n % 2, wasteD R i (n / 2) (n % 2), priceS R i (n / 2) (n % 2)) := by rw [chN, if_pos ⟨heq, e0⟩, hq]; rfl
          simp only [hst, hbi] at h9
          refine x_istore d_Mo_bestFor_55 (by decide) ?_
          refine x_aload_n d_Mo_bestFor_57 rfl ?_
          refine x_getI hM.f0 rfl fs_Mo_120 d_Mo_bestFor_58 ?_
          rw [p52]
          refine x_istore d_Mo_bestFor_61 (by decide) ?_
          refine x_iload d_Mo_bestFor_63 rfl ?_
          refine x_if_lt (tgt := 106) d_Mo_bestFor_65 (by decide) (fun c65 => ?_) (fun c65 => ?_)
          · exact absurd c65 (nI_pos (by omega))
          · refine x_iload_n d_Mo_bestFor_68 rfl ?_
            refine x_bipush (v := -5) d_Mo_bestFor_69 (by decide) ?_
            refine x_icmp_eq (tgt := 95) d_Mo_bestFor_71 (by decide) (fun c71 => ?_) (fun c71 => ?_)
            · refine x_iload d_Mo_bestFor_95 rfl ?_
              refine x_istore_n d_Mo_bestFor_97 (by decide) ?_
              refine x_iload d_Mo_bestFor_98 rfl ?_
              refine x_istore d_Mo_bestFor_100 (by decide) ?_
              refine x_iload d_Mo_bestFor_102 rfl ?_
              refine x_istore d_Mo_bestFor_104 (by decide) ?_
              refine x_iinc d_Mo_bestFor_106 rfl (by first | exact inc1 _ | rfl) (by decide) ?_
              refine x_goto (tgt := 12) d_Mo_bestFor_109 (by decide) ?_
              exact h9 _ _ _ hF1 n52
            · exact absurd rfl c71
        | some q =>
          obtain ⟨d1, d2, d3, d4, d5, d6⟩ := chN_ok _ hn2 q hq
          have hwq := wasteD_lt hI hi d1 d2 d4
          have hpq := priceS_lt hI hi d1 d2
          rw [← d5] at hwq
          rw [← d6] at hpq
          have hst : ∀ c, offerS (some q) (n / 2) (n % 2) (wasteD R i (n / 2) (n % 2)) (priceS R i (n / 2) (n % 2)) = c → chN R i kd (n + 1) = c := fun c hc => by rw [chN, if_pos ⟨heq, e0⟩, hq]; exact hc
          rw [show bI3 (some q) = nI (2 * q.1 + q.2.1) from rfl, show lwI (some q) = nI q.2.2.1 from rfl, show lpI (some q) = nI q.2.2.2 from rfl]
          refine x_istore d_Mo_bestFor_55 (by decide) ?_
          refine x_aload_n d_Mo_bestFor_57 rfl ?_
          refine x_getI hM.f0 rfl fs_Mo_120 d_Mo_bestFor_58 ?_
          rw [p52]
          refine x_istore d_Mo_bestFor_61 (by decide) ?_
          refine x_iload d_Mo_bestFor_63 rfl ?_
          refine x_if_lt (tgt := 106) d_Mo_bestFor_65 (by decide) (fun c65 => ?_) (fun c65 => ?_)
          · exact absurd c65 (nI_pos (by omega))
          · refine x_iload_n d_Mo_bestFor_68 rfl ?_
            refine x_bipush (v := -5) d_Mo_bestFor_69 (by decide) ?_
            refine x_icmp_eq (tgt := 95) d_Mo_bestFor_71 (by decide) (fun c71 => ?_) (fun c71 => ?_)
            · exact absurd (show nI (2 * q.1 + q.2.1) < 0 by rw [c71]; decide) (nI_pos (by omega))
            · refine x_iload d_Mo_bestFor_74 rfl ?_
              refine x_iload d_Mo_bestFor_76 rfl ?_
              refine x_icmp_lt (tgt := 95) d_Mo_bestFor_78 (by decide) (fun c78 => ?_) (fun c78 => ?_)
              · have c78 := nI_lt' (by omega) (by omega) c78
                have hst := hst _ (if_pos (Or.inl c78))
                simp only [hst, hbi] at h9
                refine x_iload d_Mo_bestFor_95 rfl ?_
                refine x_istore_n d_Mo_bestFor_97 (by decide) ?_
                refine x_iload d_Mo_bestFor_98 rfl ?_
                refine x_istore d_Mo_bestFor_100 (by decide) ?_
                refine x_iload d_Mo_bestFor_102 rfl ?_
                refine x_istore d_Mo_bestFor_104 (by decide) ?_
                refine x_iinc d_Mo_bestFor_106 rfl (by first | exact inc1 _ | rfl) (by decide) ?_
                refine x_goto (tgt := 12) d_Mo_bestFor_109 (by decide) ?_
                exact h9 _ _ _ hF1 n52
              · have c78 := nI_nlt' (by omega) (by omega) c78
                refine x_iload d_Mo_bestFor_81 rfl ?_
                refine x_iload d_Mo_bestFor_83 rfl ?_
                refine x_icmp_ne (tgt := 106) d_Mo_bestFor_85 (by decide) (fun c85 => ?_) (fun c85 => ?_)
                · have c85 := nI_ne' c85
                  have hst := hst _ (if_neg (by omega))
                  simp only [hst] at h9
                  refine x_iinc d_Mo_bestFor_106 rfl (by first | exact inc1 _ | rfl) (by decide) ?_
                  refine x_goto (tgt := 12) d_Mo_bestFor_109 (by decide) ?_
                  exact h9 _ _ _ hF1 n52
                · have c85 := nI_eq' (by omega) (by omega) c85
                  refine x_iload d_Mo_bestFor_88 rfl ?_
                  refine x_iload d_Mo_bestFor_90 rfl ?_
                  refine x_icmp_ge (tgt := 106) d_Mo_bestFor_92 (by decide) (fun c92 => ?_) (fun c92 => ?_)
                  · have c92 := nI_le' (by omega) (by omega) c92
                    have hst := hst _ (if_neg (by omega))
                    simp only [hst] at h9
                    refine x_iinc d_Mo_bestFor_106 rfl (by first | exact inc1 _ | rfl) (by decide) ?_
                    refine x_goto (tgt := 12) d_Mo_bestFor_109 (by decide) ?_
                    exact h9 _ _ _ hF1 n52
                  · have c92 := nI_nle' (by omega) (by omega) c92
                    have hst := hst _ (if_pos (Or.inr ⟨c85, c92⟩))
                    simp only [hst, hbi] at h9
                    refine x_iload d_Mo_bestFor_95 rfl ?_
                    refine x_istore_n d_Mo_bestFor_97 (by decide) ?_
                    refine x_iload d_Mo_bestFor_98 rfl ?_
                    refine x_istore d_Mo_bestFor_100 (by decide) ?_
                    refine x_iload d_Mo_bestFor_102 rfl ?_
                    refine x_istore d_Mo_bestFor_104 (by decide) ?_
                    refine x_iinc d_Mo_bestFor_106 rfl (by first | exact inc1 _ | rfl) (by decide) ?_
                    refine x_goto (tgt := 12) d_Mo_bestFor_109 (by decide) ?_
                    exact h9 _ _ _ hF1 n52
      · rw [if_neg e0]
        have hst : chN R i kd (n + 1) = chN R i kd n := by rw [chN, if_neg (fun z => e0 z.2)]
        have h9 := fun m u7 u8 => ih hj2 m u7 u8
        simp only [hst] at h9
        refine x_istore d_Mo_bestFor_55 (by decide) ?_
        refine x_aload_n d_Mo_bestFor_57 rfl ?_
        refine x_getI hM.f0 rfl fs_Mo_120 d_Mo_bestFor_58 ?_
        refine x_istore d_Mo_bestFor_61 (by decide) ?_
        refine x_iload d_Mo_bestFor_63 rfl ?_
        refine x_if_lt (tgt := 106) d_Mo_bestFor_65 (by decide) (fun c65 => ?_) (fun c65 => ?_)
        · refine x_iinc d_Mo_bestFor_106 rfl (by first | exact inc1 _ | rfl) (by decide) ?_
          refine x_goto (tgt := 12) d_Mo_bestFor_109 (by decide) ?_
          exact h9 _ _ _ hF1 n52
        · exact absurd (errI_neg _) c65
    · have hne : ro R (n / 2) 0 ≠ kd := fun z => c35 (by rw [z])
      have hst : chN R i kd (n + 1) = chN R i kd n := by rw [chN, if_neg (fun z => hne z.1)]
      have h9 := fun m u7 u8 => ih hj2 m u7 u8
      simp only [hst] at h9
      refine x_goto (tgt := 106) d_Mo_bestFor_38 (by decide) ?_
      refine x_iinc d_Mo_bestFor_106 rfl (by first | exact inc1 _ | rfl) (by decide) ?_
      refine x_goto (tgt := 12) d_Mo_bestFor_109 (by decide) ?_
      exact h9 _ _ _ hF hnm
end
section
variable {l : Launch} {g : XG} {sh : Nat → Sh} {mem : Mem} {μ : Nat} {G : GS}
theorem ct_Mo_best (hM : LayMo sh μ) (hC : MR mem μ G) (h60 : nK G.1 ≤ 60) {i kd w : Int32} : Ct l g M_Mo_best [rf g μ, .int i, .int kd, .int w] none sh mem (Ri none sh (MP μ mem (vBest G.1 i kd w, G))) := by
  obtain ⟨hI, hn, hh, ht, hs⟩ := id hC
  have h20 := hI.1.2.2
  have h12 := hI.1.1
  refine x_begin rfl rfl rfl (by decide) rfl ?_
  refine x_aload_n d_Mo_best_0 rfl ?_
  refine x_iload_n d_Mo_best_1 rfl ?_
  refine x_v1p d_Mo_best_2 ml_Mo_139 v_Mo_isRoom rfl ⟨rfl, rfl⟩ hM.io (Nat.le_of_ble_eq_true rfl) (ct_Mo_isRoom hM hn h20) ?_
  refine x_if_ne (tgt := 10) d_Mo_best_5 (by decide) (fun c5 => ?_) (fun c5 => ?_)
  · have hi0 := bI_n.mp c5
    rw [show vBest G.1 i kd w = if inI kd 0 9 ∧ inI w 0 3 then (match chooseS G.1 (tN i) (tN kd) with
        | none => -5
        | some q => nI (bestN q (tN w))) else -2 from if_pos hi0]
    obtain ⟨i, hi, rfl⟩ := hasI_of (by omega) hi0
    rw [tN_nI (by omega)]
    refine x_iload_n d_Mo_best_10 rfl ?_
    refine x_iconst (v := nI 0) d_Mo_best_11 (by decide) ?_
    refine x_bipush (v := nI 9) d_Mo_best_12 (by decide) ?_
    refine x_s3p d_Mo_best_14 ml_Mo_35 v_Mo_in rfl ⟨rfl, rfl⟩ rfl (Nat.le_of_ble_eq_true rfl) (ct_Mo_in) ?_
    refine x_if_eq (tgt := 29) d_Mo_best_17 (by decide) (fun c17 => ?_) (fun c17 => ?_)
    · rw [if_neg (fun z => bI_0.mp c17 z.1)]
      refine x_bipush (v := -2) d_Mo_best_29 (by decide) ?_
      refine x_iret rfl rfl d_Mo_best_31 (Nat.zero_le _) (Nat.zero_le _) ?_
      exact ⟨_, rfl, rfl, rfl, rfl, hC, Fr.rf⟩
    · refine x_iload_n d_Mo_best_20 rfl ?_
      refine x_iconst (v := nI 0) d_Mo_best_21 (by decide) ?_
      refine x_iconst (v := nI 3) d_Mo_best_22 (by decide) ?_
      refine x_s3p d_Mo_best_23 ml_Mo_35 v_Mo_in rfl ⟨rfl, rfl⟩ rfl (Nat.le_of_ble_eq_true rfl) (ct_Mo_in) ?_
      refine x_if_ne (tgt := 32) d_Mo_best_26 (by decide) (fun c26 => ?_) (fun c26 => ?_)
      · have hk0 := bI_n.mp c17
        have hw0 := bI_n.mp c26
        rw [if_pos ⟨hk0, hw0⟩]
        obtain ⟨kd, hkd, rfl⟩ := inI_of (x := kd) (a := 0) (b := 9) (by omega) (by omega) hk0
        obtain ⟨w, hw, rfl⟩ := inI_of (x := w) (a := 0) (b := 3) (by omega) (by omega) hw0
        rw [tN_nI (by omega), tN_nI (by omega)]
        refine x_aload_n d_Mo_best_32 rfl ?_
        refine x_iload_n d_Mo_best_33 rfl ?_
        refine x_iload_n d_Mo_best_34 rfl ?_
        refine x_v2i d_Mo_best_35 ml_Mo_206 v_Mo_bestFor rfl ⟨rfl, rfl⟩ hM.io (Nat.le_of_ble_eq_true rfl) (ct_Mo_bestFor hM hI h60 hn hi hkd.2) (fun r35 mem35 h35 => ?_)
        obtain ⟨f35, n35, rfl⟩ := h35
        have hC1 := hC.fg f35.fg n35
        cases hq : chooseS G.1 i kd with
        | none =>
          dsimp only
          rw [show bI3 none = -5 from rfl]
          refine x_istore d_Mo_best_38 (by decide) ?_
          refine x_iload d_Mo_best_40 rfl ?_
          refine x_bipush (v := -5) d_Mo_best_42 (by decide) ?_
          refine x_icmp_eq (tgt := 52) d_Mo_best_44 (by decide) (fun c44 => ?_) (fun c44 => ?_)
          · refine x_iload d_Mo_best_52 rfl ?_
            refine x_bipush (v := -5) d_Mo_best_54 (by decide) ?_
            refine x_icmp_ne (tgt := 64) d_Mo_best_56 (by decide) (fun c56 => ?_) (fun c56 => ?_)
            · exact absurd rfl c56
            · refine x_bipush (v := -5) d_Mo_best_59 (by decide) ?_
              refine x_goto (tgt := 79) d_Mo_best_61 (by decide) ?_
              refine x_iret rfl rfl d_Mo_best_79 (Nat.zero_le _) (Nat.zero_le _) ?_
              exact ⟨_, rfl, rfl, rfl, rfl, hC1⟩
          · exact absurd rfl c44
        | some q =>
          obtain ⟨d1, d2, d3, d4, d5, d6⟩ := chN_ok _ (Nat.le_refl _) q hq
          have hq0 : 2 * q.1 + q.2.1 < 2 ^ 31 := by omega
          have hqd : (2 * q.1 + q.2.1) / 2 = q.1 := by omega
          have hqm : (2 * q.1 + q.2.1) % 2 = q.2.1 := by omega
          have hqn : ¬ nI (2 * q.1 + q.2.1) = -5 := fun z => absurd (show nI (2 * q.1 + q.2.1) < 0 by rw [z]; decide) (nI_pos hq0)
          dsimp only
          rw [show bI3 (some q) = nI (2 * q.1 + q.2.1) from rfl]
          refine x_istore d_Mo_best_38 (by decide) ?_
          refine x_iload d_Mo_best_40 rfl ?_
          refine x_bipush (v := -5) d_Mo_best_42 (by decide) ?_
          refine x_icmp_eq (tgt := 52) d_Mo_best_44 (by decide) (fun c44 => ?_) (fun c44 => ?_)
          · exact absurd c44 hqn
          · refine x_iload_n d_Mo_best_47 rfl ?_
            refine x_iconst (v := nI 2) d_Mo_best_48 (by decide) ?_
            refine x_icmp_ge (tgt := 80) d_Mo_best_49 (by decide) (fun c49 => ?_) (fun c49 => ?_)
            · have c49 : 2 ≤ w := nI_le' (by omega) (by omega) c49
              refine x_aload_n d_Mo_best_80 rfl ?_
              refine x_iload_n d_Mo_best_81 rfl ?_
              refine x_iload d_Mo_best_82 rfl ?_
              refine x_iconst (v := nI 2) d_Mo_best_84 (by decide) ?_
              refine x_idiv d_Mo_best_85 (by decide) ?_
              rw [pk_div (by omega) (by omega) (by omega), hqd]
              refine x_iload d_Mo_best_86 rfl ?_
              refine x_iconst (v := nI 2) d_Mo_best_88 (by decide) ?_
              refine x_irem d_Mo_best_89 (by decide) ?_
              rw [pk_rem (by omega) (by omega) (by omega), hqm]
              refine x_iload_n d_Mo_best_90 rfl ?_
              refine x_iconst (v := nI 2) d_Mo_best_91 (by decide) ?_
              refine x_icmp_ne (tgt := 99) d_Mo_best_92 (by decide) (fun c92 => ?_) (fun c92 => ?_)
              · have c92 := nI_ne' c92
                have c3 : w = 3 := by omega
                subst c3
                refine x_iconst (v := nI 0) d_Mo_best_99 (by decide) ?_
                refine x_v4i d_Mo_best_100 ml_Mo_202 v_Mo_ifCovered rfl ⟨rfl, rfl⟩ hM.io (Nat.le_of_ble_eq_true rfl) (ct_Mo_ifCovered hM hI h60 n35) (fun r100 mem100 h100 => ?_)
                obtain ⟨f100, n100, rfl, -⟩ := h100
                have hC2 := hC.fg (f35.tr f100).fg n100
                rw [vIf_nI h20 h12 hi d1 d2 (by omega), if_pos d4]
                refine x_iret rfl rfl d_Mo_best_103 (Nat.zero_le _) (Nat.zero_le _) ?_
                exact ⟨_, rfl, rfl, rfl, by first | exact congrArg nI d5.symm | exact congrArg nI d6.symm, hC2⟩
              · have c92 := nI_eq' (by omega) (by omega) c92
                subst c92
                refine x_iconst (v := nI 3) d_Mo_best_95 (by decide) ?_
                refine x_goto (tgt := 100) d_Mo_best_96 (by decide) ?_
                refine x_v4i d_Mo_best_100 ml_Mo_202 v_Mo_ifCovered rfl ⟨rfl, rfl⟩ hM.io (Nat.le_of_ble_eq_true rfl) (ct_Mo_ifCovered hM hI h60 n35) (fun r100 mem100 h100 => ?_)
                obtain ⟨f100, n100, rfl, -⟩ := h100
                have hC2 := hC.fg (f35.tr f100).fg n100
                rw [vIf_nI h20 h12 hi d1 d2 (by omega), if_pos d4]
                refine x_iret rfl rfl d_Mo_best_103 (Nat.zero_le _) (Nat.zero_le _) ?_
                exact ⟨_, rfl, rfl, rfl, by first | exact congrArg nI d5.symm | exact congrArg nI d6.symm, hC2⟩
            · have c49 : w < 2 := nI_nle' (by omega) (by omega) c49
              refine x_iload d_Mo_best_52 rfl ?_
              refine x_bipush (v := -5) d_Mo_best_54 (by decide) ?_
              refine x_icmp_ne (tgt := 64) d_Mo_best_56 (by decide) (fun c56 => ?_) (fun c56 => ?_)
              · refine x_iload_n d_Mo_best_64 rfl ?_
                refine x_if_ne (tgt := 75) d_Mo_best_65 (by decide) (fun c65 => ?_) (fun c65 => ?_)
                · have c65 : w ≠ 0 := nI_ne' c65
                  have c1 : w = 1 := by omega
                  subst c1
                  refine x_iload d_Mo_best_75 rfl ?_
                  refine x_iconst (v := nI 2) d_Mo_best_77 (by decide) ?_
                  refine x_irem d_Mo_best_78 (by decide) ?_
                  rw [pk_rem (by omega) (by omega) (by omega), hqm]
                  refine x_iret rfl rfl d_Mo_best_79 (Nat.zero_le _) (Nat.zero_le _) ?_
                  exact ⟨_, rfl, rfl, rfl, rfl, hC1⟩
                · have c65 := nI_eq' (b := 0) (by omega) (by omega) c65
                  subst c65
                  refine x_iload d_Mo_best_68 rfl ?_
                  refine x_iconst (v := nI 2) d_Mo_best_70 (by decide) ?_
                  refine x_idiv d_Mo_best_71 (by decide) ?_
                  rw [pk_div (by omega) (by omega) (by omega), hqd]
                  refine x_goto (tgt := 79) d_Mo_best_72 (by decide) ?_
                  refine x_iret rfl rfl d_Mo_best_79 (Nat.zero_le _) (Nat.zero_le _) ?_
                  exact ⟨_, rfl, rfl, rfl, rfl, hC1⟩
              · exact absurd c56 hqn
      · rw [if_neg (fun z => bI_0.mp c26 z.2)]
        refine x_bipush (v := -2) d_Mo_best_29 (by decide) ?_
        refine x_iret rfl rfl d_Mo_best_31 (Nat.zero_le _) (Nat.zero_le _) ?_
        exact ⟨_, rfl, rfl, rfl, rfl, hC, Fr.rf⟩
  · rw [show vBest G.1 i kd w = -1 from if_neg (bI_0.mp c5)]
    refine x_iconst (v := -1) d_Mo_best_8 (by decide) ?_
    refine x_iret rfl rfl d_Mo_best_9 (Nat.zero_le _) (Nat.zero_le _) ?_
    exact ⟨_, rfl, rfl, rfl, rfl, hC, Fr.rf⟩
end
