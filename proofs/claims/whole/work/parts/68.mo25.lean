/-! the reference: the room that an offcut suffices for; all rooms covered -/
theorem sN_more {f f' : Nat → Nat} {i d : Nat} : ∀ n, i < n → (∀ k, k < n → k ≠ i → f' k = f k) → f' i = f i + d → sN f' n = sN f n + d
  | 0, h, _, _ => absurd h (by omega)
  | n + 1, h, h1, h2 => by
    rw [sN, sN]
    by_cases hi : i = n
    · subst hi
      rw [sN_cong i (fun k hk => h1 k (by omega) (by omega)), h2]
      omega
    · rw [sN_more n (by omega) (fun k hk => h1 k (by omega)) h2, h1 n (by omega) (fun z => hi z.symm)]
      omega
theorem planS_waste {R : RS} (hI : Inv R) (kd : Nat) : ∀ n, n ≤ R 2 → sN (fun r => ro (planS R kd n).1 r 5) (R 0) = sN (fun r => ro R r 5) (R 0) + (planS R kd n).2.2
  | 0, _ => rfl
  | n + 1, hn => by
    have ih := planS_waste hI kd n (by omega)
    obtain ⟨h1, h2, h3, h4, h5⟩ := planS_ok hI kd n (by omega)
    have h12 := hI.1.1
    rw [planS]
    cases hq : chooseS (planS R kd n).1 n kd with
    | none => exact ih
    | some q =>
      obtain ⟨q1, q2, q3, q4, q5, q6⟩ := chN_ok _ (Nat.le_refl _) q hq
      obtain ⟨⟨k1, k2⟩, -, -, -, -, k6, -⟩ := coverS_keep h1 (show n < _ by omega) q1 q2 q4
      dsimp only
      rw [sN_more (f := fun r => ro (planS R kd n).1 r 5) (i := q.1) (d := q.2.2.1) (R 0) (by omega) (fun k hk hne => k6 k 5 (by omega) (by omega) (Or.inr hne)) (by rw [q5]; unfold wasteD; omega), ih]
      omega
section
variable {l : Launch} {g : XG} {sh : Nat → Sh} {mem : Mem} {μ : Nat} {G : GS}
theorem ct_Mo_suits (hM : LayMo sh μ) (hC : MR mem μ G) {x : Int32} : Ct l g M_Mo_suits [rf g μ, .int x] none sh mem (Ri none sh (MP μ mem (vSuits G.1 x, G))) := by
  obtain ⟨hI, hn, hh, ht, hs⟩ := id hC
  have h300 := hI.1.2.1
  have h20 := hI.1.2.2
  have hR8 := hI.2.1.2.2.2.2
  refine x_begin rfl rfl rfl (by decide) rfl ?_
  refine x_aload_n d_Mo_suits_0 rfl ?_
  refine x_iload_n d_Mo_suits_1 rfl ?_
  refine x_v1p d_Mo_suits_2 ml_Mo_46 v_Mo_isKept rfl ⟨rfl, rfl⟩ hM.io (Nat.le_of_ble_eq_true rfl) (ct_Mo_isKept hM hn h300 hI.roc) ?_
  refine x_if_ne (tgt := 10) d_Mo_suits_5 (by decide) (fun c5 => ?_) (fun c5 => ?_)
  · have hk := bI_n.mp c5
    rw [show vSuits G.1 x = oI (ff (fun i => suitS G.1 (cnt (kp G.1) (tN x)) i) (G.1 2) 0) from if_pos hk]
    obtain ⟨hk0, hk2⟩ := hk
    obtain ⟨k, hk1, rfl⟩ := hasI_of (by omega) hk0
    rw [tN_nI (by omega)] at hk2 ⊢
    obtain ⟨-, -, e3, e4⟩ := EL_e G.1 hk1 hk2
    obtain ⟨o1, o2, o3⟩ := hI.off.2 k hk1 hk2
    refine x_iconst (v := nI 0) d_Mo_suits_10 (by decide) ?_
    refine x_istore_n d_Mo_suits_11 (by decide) ?_
    refine up_ind (G.1 2) (P := fun j => ∀ (u3 u4 : Option Value), ff (fun i => suitS G.1 (cnt (kp G.1) k) i) (G.1 2 - j) j = ff (fun i => suitS G.1 (cnt (kp G.1) k) i) (G.1 2) 0 → X l g M_Mo_suits (XF g (Ri none sh (MP μ mem (oI (ff (fun i => suitS G.1 (cnt (kp G.1) k) i) (G.1 2) 0), G))) M_Mo_suits) 12 [some (rf g μ), some (.int (nI k)), some (.int (nI j)), u3, u4] [] none sh mem 0 0) (fun j hj ih u3 u4 hff => ?_) 0 (Nat.zero_le _) _ _ rfl
    refine x_iload_n d_Mo_suits_12 rfl ?_
    refine x_aload_n d_Mo_suits_13 rfl ?_
    refine x_getR hM.f0 rfl fs_Mo_7 d_Mo_suits_14 ?_
    refine x_iconst (v := nI 2) d_Mo_suits_17 (by decide) ?_
    refine x_iald hM.f1 (vp_in_nI (by omega) (by omega)) d_Mo_suits_18 ?_
    rw [nI_clamp (by omega), hn _ (by omega)]
    refine x_icmp_ge (tgt := 124) d_Mo_suits_19 (by decide) (fun c19 => ?_) (fun c19 => ?_)
    · have hj2 : G.1 2 ≤ j := nI_le' (by omega) (by omega) c19
      rw [ff_e hj2] at hff
      rw [← hff]
      refine x_bipush (v := -5) d_Mo_suits_124 (by decide) ?_
      refine x_iret rfl rfl d_Mo_suits_126 (Nat.zero_le _) (Nat.zero_le _) ?_
      exact ⟨_, rfl, rfl, rfl, rfl, hC, Fr.rf⟩
    · have hj2 := nI_nle' (by omega) (by omega) c19
      obtain ⟨k1, k2, k3⟩ := hI.2.2.2.2.1 j hj2
      have hq1 := k1.1.1
      have hq3 := k1.1.2.1
      refine x_iconst (v := nI 0) d_Mo_suits_22 (by decide) ?_
      refine x_istore_n d_Mo_suits_23 (by decide) ?_
      refine up_ind 2 (P := fun y => ∀ (u4 : Option Value), (∀ y', y' < y → rq G.1 j 8 = 0 → rq G.1 j 0 = 1 → suitY G.1 (cnt (kp G.1) k) j y' = false) → X l g M_Mo_suits (XF g (Ri none sh (MP μ mem (oI (ff (fun i => suitS G.1 (cnt (kp G.1) k) i) (G.1 2) 0), G))) M_Mo_suits) 24 [some (rf g μ), some (.int (nI k)), some (.int (nI j)), some (.int (nI y)), u4] [] none sh mem 0 0) (fun y hy ih2 u4 hno => ?_) 0 (Nat.zero_le _) _ (fun y' h1 => absurd h1 (by omega))
      refine x_iload_n d_Mo_suits_24 rfl ?_
      refine x_iconst (v := nI 2) d_Mo_suits_25 (by decide) ?_
      refine x_icmp_ge (tgt := 118) d_Mo_suits_26 (by decide) (fun c26 => ?_) (fun c26 => ?_)
      · have hy2 : y = 2 := by have := nI_le' (by omega) (by omega) c26; omega
        have hp : suitS G.1 (cnt (kp G.1) k) j = false := by
          unfold suitS
          by_cases h8 : rq G.1 j 8 = 0
          · by_cases h0 : rq G.1 j 0 = 1
            · rw [hno 0 (by omega) h8 h0, hno 1 (by omega) h8 h0, Bool.or_self, Bool.and_false, Bool.and_false]
            · rw [decide_eq_false h0, Bool.false_and, Bool.and_false]
          · rw [decide_eq_false h8, Bool.false_and]
        rw [ff_f hj2 hp] at hff
        refine x_iinc d_Mo_suits_118 rfl (by first | exact inc1 _ | rfl) (by decide) ?_
        refine x_goto (tgt := 12) d_Mo_suits_121 (by decide) ?_
        exact ih hj2 _ _ hff
      · have hy2 : y < 2 := nI_nle' (by omega) (by omega) c26
        have hwd := k1.w (k := 0) (by omega) (show y ≤ 1 by omega)
        have hln := k1.l (k := 0) (by omega) (show y ≤ 1 by omega)
        have hY : suitY G.1 (cnt (kp G.1) k) j y = (!(decide (G.1 8 = 1) && acr (rq G.1 j) y) && (decide (wdt (rq G.1 j) 0 y ≤ oc G.1 k 1) && decide (lng (rq G.1 j) 0 y ≤ oc G.1 k 2))) := by
          unfold suitY
          rw [e3, e4]
        refine x_aload_n d_Mo_suits_29 rfl ?_
        refine x_iload_n d_Mo_suits_30 rfl ?_
        refine x_bipush (v := nI 8) d_Mo_suits_31 (by decide) ?_
        refine x_v2p d_Mo_suits_33 ml_Mo_74 v_Mo_at rfl ⟨rfl, rfl⟩ hM.io (Nat.le_of_ble_eq_true rfl) (ct_Mo_at hM hn (by omega) (by omega)) ?_
        refine x_if_ne (tgt := 72) d_Mo_suits_36 (by decide) (fun c36 => ?_) (fun c36 => ?_)
        · have h8 : rq G.1 j 8 ≠ 0 := fun z => c36 (by rw [z]; rfl)
          have hnew : rq G.1 j 8 = 0 → rq G.1 j 0 = 1 → suitY G.1 (cnt (kp G.1) k) j y = false := fun a _ => absurd a h8
          refine x_iconst (v := nI 0) d_Mo_suits_72 (by decide) ?_
          refine x_istore d_Mo_suits_73 (by decide) ?_
          refine x_iload d_Mo_suits_75 rfl ?_
          refine x_if_eq (tgt := 112) d_Mo_suits_77 (by decide) (fun c77 => ?_) (fun c77 => ?_)
          · refine x_iinc d_Mo_suits_112 rfl (by first | exact inc1 _ | rfl) (by decide) ?_
            refine x_goto (tgt := 24) d_Mo_suits_115 (by decide) ?_
            exact ih2 hy2 _ (fun y' h1 a b => by by_cases h : y' = y; (· rw [h]; exact hnew a b); (· exact hno y' (by omega) a b))
          · exact absurd rfl c77
        · have h8 : rq G.1 j 8 = 0 := nI_eq' (b := 0) (by omega) (by omega) c36
          refine x_aload_n d_Mo_suits_39 rfl ?_
          refine x_iload_n d_Mo_suits_40 rfl ?_
          refine x_iconst (v := nI 0) d_Mo_suits_41 (by decide) ?_
          refine x_v2p d_Mo_suits_42 ml_Mo_74 v_Mo_at rfl ⟨rfl, rfl⟩ hM.io (Nat.le_of_ble_eq_true rfl) (ct_Mo_at hM hn (by omega) (by omega)) ?_
          refine x_iconst (v := nI 1) d_Mo_suits_45 (by decide) ?_
          refine x_icmp_ne (tgt := 72) d_Mo_suits_46 (by decide) (fun c46 => ?_) (fun c46 => ?_)
          · have h0 := nI_ne' c46
            have hnew : rq G.1 j 8 = 0 → rq G.1 j 0 = 1 → suitY G.1 (cnt (kp G.1) k) j y = false := fun _ b => absurd b h0
            refine x_iconst (v := nI 0) d_Mo_suits_72 (by decide) ?_
            refine x_istore d_Mo_suits_73 (by decide) ?_
            refine x_iload d_Mo_suits_75 rfl ?_
            refine x_if_eq (tgt := 112) d_Mo_suits_77 (by decide) (fun c77 => ?_) (fun c77 => ?_)
            · refine x_iinc d_Mo_suits_112 rfl (by first | exact inc1 _ | rfl) (by decide) ?_
              refine x_goto (tgt := 24) d_Mo_suits_115 (by decide) ?_
              exact ih2 hy2 _ (fun y' h1 a b => by by_cases h : y' = y; (· rw [h]; exact hnew a b); (· exact hno y' (by omega) a b))
            · exact absurd rfl c77
          · have h0 := nI_eq' (by omega) (by omega) c46
            refine x_aload_n d_Mo_suits_49 rfl ?_
            refine x_getR hM.f0 rfl fs_Mo_7 d_Mo_suits_50 ?_
            refine x_bipush (v := nI 8) d_Mo_suits_53 (by decide) ?_
            refine x_iald hM.f1 (vp_in_nI (by omega) (by omega)) d_Mo_suits_55 ?_
            rw [nI_clamp (by omega), hn _ (by omega)]
            refine x_if_eq (tgt := 68) d_Mo_suits_56 (by decide) (fun c56 => ?_) (fun c56 => ?_)
            · have c56 : G.1 8 = 0 := nI_eq' (b := 0) (by omega) (by omega) c56
              have hA : (decide (G.1 8 = 1) && acr (rq G.1 j) y) = false := by rw [decide_eq_false (by omega), Bool.false_and]
              rw [hA, Bool.not_false, Bool.true_and] at hY
              refine x_iconst (v := nI 1) d_Mo_suits_68 (by decide) ?_
              refine x_goto (tgt := 73) d_Mo_suits_69 (by decide) ?_
              refine x_istore d_Mo_suits_73 (by decide) ?_
              refine x_iload d_Mo_suits_75 rfl ?_
              refine x_if_eq (tgt := 112) d_Mo_suits_77 (by decide) (fun c77 => ?_) (fun c77 => ?_)
              · exact absurd c77 (by decide)
              · refine x_aload_n d_Mo_suits_80 rfl ?_
                refine x_iload_n d_Mo_suits_81 rfl ?_
                refine x_iconst (v := nI 0) d_Mo_suits_82 (by decide) ?_
                refine x_iload_n d_Mo_suits_83 rfl ?_
                refine x_v3p d_Mo_suits_84 ml_Mo_93 v_Mo_wide rfl ⟨rfl, rfl⟩ hM.io (Nat.le_of_ble_eq_true rfl) (ct_Mo_wide hM hn (by omega) (by omega) (by omega)) ?_
                refine x_aload_n d_Mo_suits_87 rfl ?_
                refine x_iload_n d_Mo_suits_88 rfl ?_
                refine x_v1p d_Mo_suits_89 ml_Mo_39 v_Mo_widthOf rfl ⟨rfl, rfl⟩ hM.io (Nat.le_of_ble_eq_true rfl) (ct_Mo_widthOf hM hn (by omega)) ?_
                refine x_icmp_gt (tgt := 112) d_Mo_suits_92 (by decide) (fun c92 => ?_) (fun c92 => ?_)
                · have c92 := nI_lt' (by omega) (by omega) c92
                  have hnew : rq G.1 j 8 = 0 → rq G.1 j 0 = 1 → suitY G.1 (cnt (kp G.1) k) j y = false := fun _ _ => by rw [hY, decide_eq_false (by omega), Bool.false_and]
                  refine x_iinc d_Mo_suits_112 rfl (by first | exact inc1 _ | rfl) (by decide) ?_
                  refine x_goto (tgt := 24) d_Mo_suits_115 (by decide) ?_
                  exact ih2 hy2 _ (fun y' h1 a b => by by_cases h : y' = y; (· rw [h]; exact hnew a b); (· exact hno y' (by omega) a b))
                · have c92 := nI_nlt' (by omega) (by omega) c92
                  refine x_aload_n d_Mo_suits_95 rfl ?_
                  refine x_iload_n d_Mo_suits_96 rfl ?_
                  refine x_iconst (v := nI 0) d_Mo_suits_97 (by decide) ?_
                  refine x_iload_n d_Mo_suits_98 rfl ?_
                  refine x_v3p d_Mo_suits_99 ml_Mo_97 v_Mo_longs rfl ⟨rfl, rfl⟩ hM.io (Nat.le_of_ble_eq_true rfl) (ct_Mo_longs hM hn (by omega) (by omega) (by omega)) ?_
                  refine x_aload_n d_Mo_suits_102 rfl ?_
                  refine x_iload_n d_Mo_suits_103 rfl ?_
                  refine x_v1p d_Mo_suits_104 ml_Mo_43 v_Mo_lengthOf rfl ⟨rfl, rfl⟩ hM.io (Nat.le_of_ble_eq_true rfl) (ct_Mo_lengthOf hM hn (by omega)) ?_
                  refine x_icmp_gt (tgt := 112) d_Mo_suits_107 (by decide) (fun c107 => ?_) (fun c107 => ?_)
                  · have c107 := nI_lt' (by omega) (by omega) c107
                    have hnew : rq G.1 j 8 = 0 → rq G.1 j 0 = 1 → suitY G.1 (cnt (kp G.1) k) j y = false := fun _ _ => by rw [hY, decide_eq_false (show ¬ lng (rq G.1 j) 0 y ≤ oc G.1 k 2 by omega), Bool.and_false]
                    refine x_iinc d_Mo_suits_112 rfl (by first | exact inc1 _ | rfl) (by decide) ?_
                    refine x_goto (tgt := 24) d_Mo_suits_115 (by decide) ?_
                    exact ih2 hy2 _ (fun y' h1 a b => by by_cases h : y' = y; (· rw [h]; exact hnew a b); (· exact hno y' (by omega) a b))
                  · have c107 := nI_nlt' (by omega) (by omega) c107
                    have hp : suitS G.1 (cnt (kp G.1) k) j = true := by
                      have hyt : suitY G.1 (cnt (kp G.1) k) j y = true := by rw [hY, decide_eq_true c92, decide_eq_true c107]; rfl
                      unfold suitS
                      rw [decide_eq_true h8, decide_eq_true h0, Bool.true_and, Bool.true_and]
                      rcases (show y = 0 ∨ y = 1 by omega) with z | z
                      · rw [z] at hyt
                        rw [hyt, Bool.true_or]
                      · rw [z] at hyt
                        rw [hyt, Bool.or_true]
                    rw [ff_t hj2 hp] at hff
                    rw [← hff]
                    refine x_iload_n d_Mo_suits_110 rfl ?_
                    refine x_iret rfl rfl d_Mo_suits_111 (Nat.zero_le _) (Nat.zero_le _) ?_
                    exact ⟨_, rfl, rfl, rfl, rfl, hC, Fr.rf⟩
            · have c56 : G.1 8 ≠ 0 := fun z => c56 (by rw [z]; rfl)
              have c56 : G.1 8 = 1 := by omega
              refine x_aload_n d_Mo_suits_59 rfl ?_
              refine x_iload_n d_Mo_suits_60 rfl ?_
              refine x_iload_n d_Mo_suits_61 rfl ?_
              refine x_v2p d_Mo_suits_62 ml_Mo_86 v_Mo_isAcross rfl ⟨rfl, rfl⟩ hM.io (Nat.le_of_ble_eq_true rfl) (ct_Mo_isAcross hM hn (by omega) k1 (by omega)) ?_
              refine x_if_ne (tgt := 72) d_Mo_suits_65 (by decide) (fun c65 => ?_) (fun c65 => ?_)
              · have hnew : rq G.1 j 8 = 0 → rq G.1 j 0 = 1 → suitY G.1 (cnt (kp G.1) k) j y = false := fun _ _ => by rw [hY, decide_eq_true c56, bI_n.mp c65]; rfl
                refine x_iconst (v := nI 0) d_Mo_suits_72 (by decide) ?_
                refine x_istore d_Mo_suits_73 (by decide) ?_
                refine x_iload d_Mo_suits_75 rfl ?_
                refine x_if_eq (tgt := 112) d_Mo_suits_77 (by decide) (fun c77 => ?_) (fun c77 => ?_)
                · refine x_iinc d_Mo_suits_112 rfl (by first | exact inc1 _ | rfl) (by decide) ?_
                  refine x_goto (tgt := 24) d_Mo_suits_115 (by decide) ?_
                  exact ih2 hy2 _ (fun y' h1 a b => by by_cases h : y' = y; (· rw [h]; exact hnew a b); (· exact hno y' (by omega) a b))
                · exact absurd rfl c77
              · have hac : acr (rq G.1 j) y = false := by simpa using bI_0.mp c65
                rw [hac, Bool.and_false, Bool.not_false, Bool.true_and] at hY
                refine x_iconst (v := nI 1) d_Mo_suits_68 (by decide) ?_
                refine x_goto (tgt := 73) d_Mo_suits_69 (by decide) ?_
                refine x_istore d_Mo_suits_73 (by decide) ?_
                refine x_iload d_Mo_suits_75 rfl ?_
                refine x_if_eq (tgt := 112) d_Mo_suits_77 (by decide) (fun c77 => ?_) (fun c77 => ?_)
                · exact absurd c77 (by decide)
                · refine x_aload_n d_Mo_suits_80 rfl ?_
                  refine x_iload_n d_Mo_suits_81 rfl ?_
                  refine x_iconst (v := nI 0) d_Mo_suits_82 (by decide) ?_
                  refine x_iload_n d_Mo_suits_83 rfl ?_
                  refine x_v3p d_Mo_suits_84 ml_Mo_93 v_Mo_wide rfl ⟨rfl, rfl⟩ hM.io (Nat.le_of_ble_eq_true rfl) (ct_Mo_wide hM hn (by omega) (by omega) (by omega)) ?_
                  refine x_aload_n d_Mo_suits_87 rfl ?_
                  refine x_iload_n d_Mo_suits_88 rfl ?_
                  refine x_v1p d_Mo_suits_89 ml_Mo_39 v_Mo_widthOf rfl ⟨rfl, rfl⟩ hM.io (Nat.le_of_ble_eq_true rfl) (ct_Mo_widthOf hM hn (by omega)) ?_
                  refine x_icmp_gt (tgt := 112) d_Mo_suits_92 (by decide) (fun c92 => ?_) (fun c92 => ?_)
                  · have c92 := nI_lt' (by omega) (by omega) c92
                    have hnew : rq G.1 j 8 = 0 → rq G.1 j 0 = 1 → suitY G.1 (cnt (kp G.1) k) j y = false := fun _ _ => by rw [hY, decide_eq_false (by omega), Bool.false_and]
                    refine x_iinc d_Mo_suits_112 rfl (by first | exact inc1 _ | rfl) (by decide) ?_
                    refine x_goto (tgt := 24) d_Mo_suits_115 (by decide) ?_
                    exact ih2 hy2 _ (fun y' h1 a b => by by_cases h : y' = y; (· rw [h]; exact hnew a b); (· exact hno y' (by omega) a b))
                  · have c92 := nI_nlt' (by omega) (by omega) c92
                    refine x_aload_n d_Mo_suits_95 rfl ?_
                    refine x_iload_n d_Mo_suits_96 rfl ?_
                    refine x_iconst (v := nI 0) d_Mo_suits_97 (by decide) ?_
                    refine x_iload_n d_Mo_suits_98 rfl ?_
                    refine x_v3p d_Mo_suits_99 ml_Mo_97 v_Mo_longs rfl ⟨rfl, rfl⟩ hM.io (Nat.le_of_ble_eq_true rfl) (ct_Mo_longs hM hn (by omega) (by omega) (by omega)) ?_
                    refine x_aload_n d_Mo_suits_102 rfl ?_
                    refine x_iload_n d_Mo_suits_103 rfl ?_
                    refine x_v1p d_Mo_suits_104 ml_Mo_43 v_Mo_lengthOf rfl ⟨rfl, rfl⟩ hM.io (Nat.le_of_ble_eq_true rfl) (ct_Mo_lengthOf hM hn (by omega)) ?_
                    refine x_icmp_gt (tgt := 112) d_Mo_suits_107 (by decide) (fun c107 => ?_) (fun c107 => ?_)
                    · have c107 := nI_lt' (by omega) (by omega) c107
                      have hnew : rq G.1 j 8 = 0 → rq G.1 j 0 = 1 → suitY G.1 (cnt (kp G.1) k) j y = false := fun _ _ => by rw [hY, decide_eq_false (show ¬ lng (rq G.1 j) 0 y ≤ oc G.1 k 2 by omega), Bool.and_false]
                      refine x_iinc d_Mo_suits_112 rfl (by first | exact inc1 _ | rfl) (by decide) ?_
                      refine x_goto (tgt := 24) d_Mo_suits_115 (by decide) ?_
                      exact ih2 hy2 _ (fun y' h1 a b => by by_cases h : y' = y; (· rw [h]; exact hnew a b); (· exact hno y' (by omega) a b))
                    · have c107 := nI_nlt' (by omega) (by omega) c107
                      have hp : suitS G.1 (cnt (kp G.1) k) j = true := by
                        have hyt : suitY G.1 (cnt (kp G.1) k) j y = true := by rw [hY, decide_eq_true c92, decide_eq_true c107]; rfl
                        unfold suitS
                        rw [decide_eq_true h8, decide_eq_true h0, Bool.true_and, Bool.true_and]
                        rcases (show y = 0 ∨ y = 1 by omega) with z | z
                        · rw [z] at hyt
                          rw [hyt, Bool.true_or]
                        · rw [z] at hyt
                          rw [hyt, Bool.or_true]
                      rw [ff_t hj2 hp] at hff
                      rw [← hff]
                      refine x_iload_n d_Mo_suits_110 rfl ?_
                      refine x_iret rfl rfl d_Mo_suits_111 (Nat.zero_le _) (Nat.zero_le _) ?_
                      exact ⟨_, rfl, rfl, rfl, rfl, hC, Fr.rf⟩
  · rw [show vSuits G.1 x = -1 from if_neg (bI_0.mp c5)]
    refine x_iconst (v := -1) d_Mo_suits_8 (by decide) ?_
    refine x_iret rfl rfl d_Mo_suits_9 (Nat.zero_le _) (Nat.zero_le _) ?_
    exact ⟨_, rfl, rfl, rfl, rfl, hC, Fr.rf⟩
theorem ct_Mo_coverAll (hM : LayMo sh μ) (hC : MR mem μ G) (h60 : nK G.1 ≤ 60) {kd w : Int32} : Ct l g M_Mo_coverAll [rf g μ, .int kd, .int w] none sh mem (Ri none sh (MP μ mem (vCovAll G.1 kd w, G))) := by
  obtain ⟨hI, hn, hh, ht, hs⟩ := id hC
  have h20 := hI.1.2.2
  have h12 := hI.1.1
  refine x_begin rfl rfl rfl (by decide) rfl ?_
  refine x_iload_n d_Mo_coverAll_0 rfl ?_
  refine x_iconst (v := nI 0) d_Mo_coverAll_1 (by decide) ?_
  refine x_bipush (v := nI 9) d_Mo_coverAll_2 (by decide) ?_
  refine x_s3p d_Mo_coverAll_4 ml_Mo_35 v_Mo_in rfl ⟨rfl, rfl⟩ rfl (Nat.le_of_ble_eq_true rfl) (ct_Mo_in) ?_
  refine x_if_eq (tgt := 19) d_Mo_coverAll_7 (by decide) (fun c7 => ?_) (fun c7 => ?_)
  · rw [show vCovAll G.1 kd w = -2 from if_neg (fun z => bI_0.mp c7 z.1)]
    refine x_bipush (v := -2) d_Mo_coverAll_19 (by decide) ?_
    refine x_iret rfl rfl d_Mo_coverAll_21 (Nat.zero_le _) (Nat.zero_le _) ?_
    exact ⟨_, rfl, rfl, rfl, rfl, hC, Fr.rf⟩
  · refine x_iload_n d_Mo_coverAll_10 rfl ?_
    refine x_iconst (v := nI 0) d_Mo_coverAll_11 (by decide) ?_
    refine x_iconst (v := nI 1) d_Mo_coverAll_12 (by decide) ?_
    refine x_s3p d_Mo_coverAll_13 ml_Mo_35 v_Mo_in rfl ⟨rfl, rfl⟩ rfl (Nat.le_of_ble_eq_true rfl) (ct_Mo_in) ?_
    refine x_if_ne (tgt := 22) d_Mo_coverAll_16 (by decide) (fun c16 => ?_) (fun c16 => ?_)
    · have hk0 := bI_n.mp c7
      have hw0 := bI_n.mp c16
      rw [show vCovAll G.1 kd w = nI (if tN w = 0 then (planS G.1 (tN kd) (G.1 2)).2.1 else (planS G.1 (tN kd) (G.1 2)).2.2) from if_pos ⟨hk0, hw0⟩]
      obtain ⟨kd, hkd, rfl⟩ := inI_of (x := kd) (a := 0) (b := 9) (by omega) (by omega) hk0
      obtain ⟨w, hw, rfl⟩ := inI_of (x := w) (a := 0) (b := 1) (by omega) (by omega) hw0
      rw [tN_nI (by omega), tN_nI (by omega)]
      refine x_iconst (v := nI 0) d_Mo_coverAll_22 (by decide) ?_
      refine x_istore_n d_Mo_coverAll_23 (by decide) ?_
      refine up_ind 1953 (P := fun j => ∀ (m : Mem), (∀ o, o ≠ μ + 4 → m o = mem o) → (∀ x, x < j → m (μ + 4) x = nI (G.1 x)) → X l g M_Mo_coverAll (XF g (Ri none sh (MP μ mem (nI (if w = 0 then (planS G.1 kd (G.1 2)).2.1 else (planS G.1 kd (G.1 2)).2.2), G))) M_Mo_coverAll) 24 [some (rf g μ), some (.int (nI kd)), some (.int (nI w)), some (.int (nI j)), none, none, none] [] none sh m 0 0) (fun j hj ih m hm hx => ?_) 0 (Nat.zero_le _) mem (fun _ _ => rfl) (fun x hx => absurd hx (by omega))
      refine x_iload_n d_Mo_coverAll_24 rfl ?_
      refine x_sipush (v := nI 1953) d_Mo_coverAll_25 (by decide) ?_
      refine x_icmp_ge (tgt := 49) d_Mo_coverAll_28 (by decide) (fun c28 => ?_) (fun c28 => ?_)
      · have hj2 : j = 1953 := by have := nI_le' (by omega) (by omega) c28; omega
        subst hj2
        have hd : NowR m (μ + 4) G.1 := fun x hx2 => hx x hx2
        have hn1 : NowR m (μ + 1) G.1 := hn.mv (hm _ (by omega))
        refine x_aload_n d_Mo_coverAll_49 rfl ?_
        refine x_v0p d_Mo_coverAll_50 ml_Mo_197 v_Mo_wasteOfAll rfl ⟨rfl, rfl⟩ hM.io (Nat.le_of_ble_eq_true rfl) (ct_Mo_wasteOfAll hM hn1 h12) ?_
        refine x_istore_n d_Mo_coverAll_53 (by decide) ?_
        refine x_iconst (v := nI 0) d_Mo_coverAll_54 (by decide) ?_
        refine x_istore d_Mo_coverAll_55 (by decide) ?_
        refine x_iconst (v := nI 0) d_Mo_coverAll_57 (by decide) ?_
        refine x_istore d_Mo_coverAll_58 (by decide) ?_
        refine up_ind (G.1 2) (P := fun n => ∀ (m2 : Mem) (u6 : Option Value), FB μ m m2 → NowR m2 (μ + 1) (planS G.1 kd n).1 → nK (planS G.1 kd n).1 ≤ 60 → X l g M_Mo_coverAll (XF g (Ri none sh (MP μ mem (nI (if w = 0 then (planS G.1 kd (G.1 2)).2.1 else (planS G.1 kd (G.1 2)).2.2), G))) M_Mo_coverAll) 60 [some (rf g μ), some (.int (nI kd)), some (.int (nI w)), some (.int (nI (sN (fun r => ro G.1 r 5) (G.1 0)))), some (.int (nI (planS G.1 kd n).2.1)), some (.int (nI n)), u6] [] none sh m2 0 0) (fun n hn2 ih2 m2 u6 hF hnm hk60 => ?_) 0 (Nat.zero_le _) m _ FB.rf hn1 h60
        obtain ⟨hIn, hp0, hp2, hp3, hp4⟩ := planS_ok hI kd n hn2
        refine x_iload d_Mo_coverAll_60 rfl ?_
        refine x_aload_n d_Mo_coverAll_62 rfl ?_
        refine x_getR hM.f0 rfl fs_Mo_7 d_Mo_coverAll_63 ?_
        refine x_iconst (v := nI 2) d_Mo_coverAll_66 (by decide) ?_
        refine x_iald hM.f1 (vp_in_nI (by omega) (by omega)) d_Mo_coverAll_67 ?_
        rw [nI_clamp (by omega), hnm _ (by omega), hp2]
        refine x_icmp_ge (tgt := 111) d_Mo_coverAll_68 (by decide) (fun c68 => ?_) (fun c68 => ?_)
        · have hj3 : n = G.1 2 := by have := nI_le' (by omega) (by omega) c68; omega
          have hW := planS_waste hI kd n hn2
          refine x_aload_n d_Mo_coverAll_111 rfl ?_
          refine x_v0p d_Mo_coverAll_112 ml_Mo_197 v_Mo_wasteOfAll rfl ⟨rfl, rfl⟩ hM.io (Nat.le_of_ble_eq_true rfl) (ct_Mo_wasteOfAll hM hnm (by omega)) ?_
          rw [hp0, hW]
          refine x_iload_n d_Mo_coverAll_115 rfl ?_
          refine x_isub d_Mo_coverAll_116 ?_
          rw [pk_sub (by omega), Nat.add_sub_cancel_left]
          refine x_istore d_Mo_coverAll_117 (by decide) ?_
          refine x_iconst (v := nI 0) d_Mo_coverAll_119 (by decide) ?_
          refine x_istore d_Mo_coverAll_120 (by decide) ?_
          refine up_ind 1953 (P := fun j => ∀ (m3 : Mem), F1 μ m2 m3 → (∀ x, x < j → m3 (μ + 1) x = nI (G.1 x)) → X l g M_Mo_coverAll (XF g (Ri none sh (MP μ mem (nI (if w = 0 then (planS G.1 kd (G.1 2)).2.1 else (planS G.1 kd (G.1 2)).2.2), G))) M_Mo_coverAll) 122 [some (rf g μ), some (.int (nI kd)), some (.int (nI w)), some (.int (nI (sN (fun r => ro G.1 r 5) (G.1 0)))), some (.int (nI (planS G.1 kd n).2.1)), some (.int (nI (planS G.1 kd n).2.2)), some (.int (nI j))] [] none sh m3 0 0) (fun j hj4 ih3 m3 hm3 hx3 => ?_) 0 (Nat.zero_le _) m2 F1.rf (fun x hx => absurd hx (by omega))
          refine x_iload d_Mo_coverAll_122 rfl ?_
          refine x_sipush (v := nI 1953) d_Mo_coverAll_124 (by decide) ?_
          refine x_icmp_ge (tgt := 150) d_Mo_coverAll_127 (by decide) (fun c127 => ?_) (fun c127 => ?_)
          · have hj5 : j = 1953 := by have := nI_le' (by omega) (by omega) c127; omega
            subst hj5
            have hFG : FG μ mem m3 := ⟨fun o a b c d _ => ((hm3 o b).trans (hF.1 o a b c)).trans (hm o d), fun k a b => by rw [hm3 _ (by omega), hF.2 k b, hm _ (by omega)]⟩
            have hC1 := hC.fg hFG (fun x hx2 => hx3 x hx2)
            refine x_iload_n d_Mo_coverAll_150 rfl ?_
            refine x_if_ne (tgt := 159) d_Mo_coverAll_151 (by decide) (fun c151 => ?_) (fun c151 => ?_)
            · have c151 : w ≠ 0 := fun z => c151 (by rw [z]; rfl)
              rw [if_neg c151]
              refine x_iload d_Mo_coverAll_159 rfl ?_
              refine x_iret rfl rfl d_Mo_coverAll_161 (Nat.zero_le _) (Nat.zero_le _) ?_
              exact ⟨_, rfl, rfl, rfl, by rw [hj3], hC1⟩
            · have c151 := nI_eq' (b := 0) (by omega) (by omega) c151
              rw [if_pos c151]
              refine x_iload d_Mo_coverAll_154 rfl ?_
              refine x_goto (tgt := 161) d_Mo_coverAll_156 (by decide) ?_
              refine x_iret rfl rfl d_Mo_coverAll_161 (Nat.zero_le _) (Nat.zero_le _) ?_
              exact ⟨_, rfl, rfl, rfl, by rw [hj3], hC1⟩
          · have hj5 : j < 1953 := nI_nle' (by omega) (by omega) c127
            refine x_aload_n d_Mo_coverAll_130 rfl ?_
            refine x_getR hM.f0 rfl fs_Mo_7 d_Mo_coverAll_131 ?_
            refine x_iload d_Mo_coverAll_134 rfl ?_
            refine x_aload_n d_Mo_coverAll_136 rfl ?_
            refine x_getR hM.f0 rfl fs_Mo_19 d_Mo_coverAll_137 ?_
            refine x_iload d_Mo_coverAll_140 rfl ?_
            refine x_iald hM.f4 (vp_in_nI (by omega) (by omega)) d_Mo_coverAll_142 ?_
            rw [nI_clamp (by omega), hm3 _ (by omega), hF.1 _ (by omega) (by omega) (by omega), hd _ hj5]
            refine x_iast hM.f1 (vp_in_nI (by omega) (by omega)) d_Mo_coverAll_143 ?_
            rw [nI_clamp (by omega)]
            refine x_iinc d_Mo_coverAll_144 rfl (by first | exact inc1 _ | rfl) (by decide) ?_
            refine x_goto (tgt := 122) d_Mo_coverAll_147 (by decide) ?_
            exact ih3 hj5 _ (hm3.tr F1.um) (fun x hx2 => by by_cases h : x = j; (· rw [h, um_eq]); (· rw [um_k _ _ h]; exact hx3 x (by omega)))
        · have hj3 := nI_nle' (by omega) (by omega) c68
          have h9 := fun m u6 => ih2 hj3 m u6
          refine x_aload_n d_Mo_coverAll_71 rfl ?_
          refine x_iload d_Mo_coverAll_72 rfl ?_
          refine x_iload_n d_Mo_coverAll_74 rfl ?_
          refine x_v2i d_Mo_coverAll_75 ml_Mo_206 v_Mo_bestFor rfl ⟨rfl, rfl⟩ hM.io (Nat.le_of_ble_eq_true rfl) (ct_Mo_bestFor hM hIn hk60 hnm (by omega) hkd.2) (fun r75 mem75 h75 => ?_)
          obtain ⟨f75, n75, rfl⟩ := h75
          have hF1 := hF.tr f75
          cases hq : chooseS (planS G.1 kd n).1 n kd with
          | none =>
            have hst : planS G.1 kd (n + 1) = planS G.1 kd n := by rw [planS, hq]
            simp only [hst] at h9
            rw [show bI3 none = -5 from rfl]
            refine x_istore d_Mo_coverAll_78 (by decide) ?_
            refine x_iload d_Mo_coverAll_80 rfl ?_
            refine x_bipush (v := -5) d_Mo_coverAll_82 (by decide) ?_
            refine x_icmp_eq (tgt := 105) d_Mo_coverAll_84 (by decide) (fun c84 => ?_) (fun c84 => ?_)
            · refine x_iinc d_Mo_coverAll_105 rfl (by first | exact inc1 _ | rfl) (by decide) ?_
              refine x_goto (tgt := 60) d_Mo_coverAll_108 (by decide) ?_
              exact h9 _ _ hF1 n75 hk60
            · exact absurd rfl c84
          | some q =>
            obtain ⟨q1, q2, q3, q4, q5, q6⟩ := chN_ok _ (Nat.le_refl _) q hq
            have hq0 : 2 * q.1 + q.2.1 < 2 ^ 31 := by omega
            have hqd : (2 * q.1 + q.2.1) / 2 = q.1 := by omega
            have hqm : (2 * q.1 + q.2.1) % 2 = q.2.1 := by omega
            have hqn : ¬ nI (2 * q.1 + q.2.1) = -5 := fun z => absurd (show nI (2 * q.1 + q.2.1) < 0 by rw [z]; decide) (nI_pos hq0)
            have hst : planS G.1 kd (n + 1) = ((coverS (planS G.1 kd n).1 n q.1 q.2.1).2, (planS G.1 kd n).2.1 + 1, (planS G.1 kd n).2.2 + q.2.2.1) := by rw [planS, hq]
            simp only [hst] at h9
            rw [show bI3 (some q) = nI (2 * q.1 + q.2.1) from rfl]
            refine x_istore d_Mo_coverAll_78 (by decide) ?_
            refine x_iload d_Mo_coverAll_80 rfl ?_
            refine x_bipush (v := -5) d_Mo_coverAll_82 (by decide) ?_
            refine x_icmp_eq (tgt := 105) d_Mo_coverAll_84 (by decide) (fun c84 => ?_) (fun c84 => ?_)
            · exact absurd c84 hqn
            · refine x_aload_n d_Mo_coverAll_87 rfl ?_
              refine x_iload d_Mo_coverAll_88 rfl ?_
              refine x_iload d_Mo_coverAll_90 rfl ?_
              refine x_iconst (v := nI 2) d_Mo_coverAll_92 (by decide) ?_
              refine x_idiv d_Mo_coverAll_93 (by decide) ?_
              rw [pk_div (by omega) (by omega) (by omega), hqd]
              refine x_iload d_Mo_coverAll_94 rfl ?_
              refine x_iconst (v := nI 2) d_Mo_coverAll_96 (by decide) ?_
              refine x_irem d_Mo_coverAll_97 (by decide) ?_
              rw [pk_rem (by omega) (by omega) (by omega), hqm]
              refine x_v3i d_Mo_coverAll_98 ml_Mo_151 v_Mo_coverNow rfl ⟨rfl, rfl⟩ hM.io (Nat.le_of_ble_eq_true rfl) (ct_Mo_coverNow hM hIn hk60 n75 (by omega) q1 q2) (fun r98 mem98 h98 => ?_)
              obtain ⟨-, f98, k98⟩ := h98
              obtain ⟨n98, k98, -⟩ := k98 q4
              refine x_pop d_Mo_coverAll_101 rfl ?_
              refine x_iinc d_Mo_coverAll_102 rfl (by first | exact inc1 _ | rfl) (by decide) ?_
              refine x_iinc d_Mo_coverAll_105 rfl (by first | exact inc1 _ | rfl) (by decide) ?_
              refine x_goto (tgt := 60) d_Mo_coverAll_108 (by decide) ?_
              exact h9 _ _ (hF1.tr f98.fb) n98 k98
      · have hj2 : j < 1953 := nI_nle' (by omega) (by omega) c28
        refine x_aload_n d_Mo_coverAll_31 rfl ?_
        refine x_getR hM.f0 rfl fs_Mo_19 d_Mo_coverAll_32 ?_
        refine x_iload_n d_Mo_coverAll_35 rfl ?_
        refine x_aload_n d_Mo_coverAll_36 rfl ?_
        refine x_getR hM.f0 rfl fs_Mo_7 d_Mo_coverAll_37 ?_
        refine x_iload_n d_Mo_coverAll_40 rfl ?_
        refine x_iald hM.f1 (vp_in_nI (by omega) (by omega)) d_Mo_coverAll_41 ?_
        rw [nI_clamp (by omega), hm _ (by omega), hn _ (by omega)]
        refine x_iast hM.f4 (vp_in_nI (by omega) (by omega)) d_Mo_coverAll_42 ?_
        rw [nI_clamp (by omega)]
        refine x_iinc d_Mo_coverAll_43 rfl (by first | exact inc1 _ | rfl) (by decide) ?_
        refine x_goto (tgt := 24) d_Mo_coverAll_46 (by decide) ?_
        exact ih hj2 _ (fun o ho => by rw [um_ne _ _ _ ho]; exact hm o ho) (fun x hx2 => by by_cases h : x = j; (· rw [h, um_eq]); (· rw [um_k _ _ h]; exact hx x (by omega)))
    · rw [show vCovAll G.1 kd w = -2 from if_neg (fun z => bI_0.mp c16 z.2)]
      refine x_bipush (v := -2) d_Mo_coverAll_19 (by decide) ?_
      refine x_iret rfl rfl d_Mo_coverAll_21 (Nat.zero_le _) (Nat.zero_le _) ?_
      exact ⟨_, rfl, rfl, rfl, rfl, hC, Fr.rf⟩
end
