/-! the reference: strips and seams of a covered room, what lies, waste of all -/
section
variable {l : Launch} {g : XG} {sh : Nat → Sh} {mem : Mem} {μ : Nat} {R : RS}
theorem ct_Mo_stripsOf (hM : LayMo sh μ) (hI : Inv R) (hn : NowR mem (μ + 1) R) {i : Nat} (hi : i < R 2) (h8 : rq R i 8 = 1) : Ct l g M_Mo_stripsOf [rf g μ, .int (nI i)] none sh mem (Pq (.int (nI (stripsN (rq R i) (rq R i 10) (ro R (rq R i 9) 1)))) none sh mem) := by
  obtain ⟨k1, k2, k3⟩ := hI.2.2.2.2.1 i hi
  obtain ⟨k4, k5⟩ := k3 h8
  obtain ⟨v1, v2, v3, v4, v5⟩ := hI.2.2.1 _ k4
  have h12 := hI.1.1
  have h20 := hI.1.2.2
  have hq3 := k1.1.2.1
  refine x_begin rfl rfl rfl (by decide) rfl ?_
  refine x_iconst (v := nI 0) d_Mo_stripsOf_0 (by decide) ?_
  refine x_istore_n d_Mo_stripsOf_1 (by decide) ?_
  refine x_iconst (v := nI 0) d_Mo_stripsOf_2 (by decide) ?_
  refine x_istore_n d_Mo_stripsOf_3 (by decide) ?_
  refine up_ind (rq R i 0) (P := fun k => X l g M_Mo_stripsOf (XF g (Pq (.int (nI (stripsN (rq R i) (rq R i 10) (ro R (rq R i 9) 1)))) none sh mem) M_Mo_stripsOf) 4 [some (rf g μ), some (.int (nI i)), some (.int (nI (sN (fun k => mny (rq R i) k (rq R i 10) (ro R (rq R i 9) 1)) k))), some (.int (nI k))] [] none sh mem 0 0) (fun k hk ih => ?_) 0 (Nat.zero_le _)
  refine x_iload_n d_Mo_stripsOf_4 rfl ?_
  refine x_aload_n d_Mo_stripsOf_5 rfl ?_
  refine x_iload_n d_Mo_stripsOf_6 rfl ?_
  refine x_iconst (v := nI 0) d_Mo_stripsOf_7 (by decide) ?_
  refine x_v2p d_Mo_stripsOf_8 ml_Mo_74 v_Mo_at rfl ⟨rfl, rfl⟩ hM.io (Nat.le_of_ble_eq_true rfl) (ct_Mo_at hM hn (by omega) (by omega)) ?_
  refine x_icmp_ge (tgt := 51) d_Mo_stripsOf_11 (by decide) (fun c11 => ?_) (fun c11 => ?_)
  · have hk2 : k = rq R i 0 := by have := nI_le' (by omega) (by omega) c11; omega
    rw [hk2]
    refine x_iload_n d_Mo_stripsOf_51 rfl ?_
    refine x_iret rfl rfl d_Mo_stripsOf_52 (Nat.zero_le _) (Nat.zero_le _) ?_
    exact ⟨rfl, rfl, rfl, rfl⟩
  · have hk2 := nI_nle' (by omega) (by omega) c11
    have hwd := k1.w hk2 k5
    refine x_iload_n d_Mo_stripsOf_14 rfl ?_
    refine x_aload_n d_Mo_stripsOf_15 rfl ?_
    refine x_iload_n d_Mo_stripsOf_16 rfl ?_
    refine x_iload_n d_Mo_stripsOf_17 rfl ?_
    refine x_aload_n d_Mo_stripsOf_18 rfl ?_
    refine x_iload_n d_Mo_stripsOf_19 rfl ?_
    refine x_bipush (v := nI 10) d_Mo_stripsOf_20 (by decide) ?_
    refine x_v2p d_Mo_stripsOf_22 ml_Mo_74 v_Mo_at rfl ⟨rfl, rfl⟩ hM.io (Nat.le_of_ble_eq_true rfl) (ct_Mo_at hM hn (by omega) (by omega)) ?_
    refine x_v3p d_Mo_stripsOf_25 ml_Mo_93 v_Mo_wide rfl ⟨rfl, rfl⟩ hM.io (Nat.le_of_ble_eq_true rfl) (ct_Mo_wide hM hn (by omega) (by omega) k5) ?_
    refine x_aload_n d_Mo_stripsOf_28 rfl ?_
    refine x_aload_n d_Mo_stripsOf_29 rfl ?_
    refine x_iload_n d_Mo_stripsOf_30 rfl ?_
    refine x_bipush (v := nI 9) d_Mo_stripsOf_31 (by decide) ?_
    refine x_v2p d_Mo_stripsOf_33 ml_Mo_74 v_Mo_at rfl ⟨rfl, rfl⟩ hM.io (Nat.le_of_ble_eq_true rfl) (ct_Mo_at hM hn (by omega) (by omega)) ?_
    refine x_iconst (v := nI 1) d_Mo_stripsOf_36 (by decide) ?_
    refine x_v2p d_Mo_stripsOf_37 ml_Mo_90 v_Mo_of rfl ⟨rfl, rfl⟩ hM.io (Nat.le_of_ble_eq_true rfl) (ct_Mo_of hM hn (by omega) (by omega)) ?_
    refine x_s2p d_Mo_stripsOf_40 ml_Mo_100 v_Mo_rounds rfl ⟨rfl, rfl⟩ rfl (Nat.le_of_ble_eq_true rfl) (ct_Mo_rounds  (by omega) v2) ?_
    rw [show (wdt (rq R i) k (rq R i 10) + ro R (rq R i 9) 1 - 1) / ro R (rq R i 9) 1 = mny (rq R i) k (rq R i 10) (ro R (rq R i 9) 1) from rfl]
    refine x_iadd d_Mo_stripsOf_43 ?_
    rw [nI_add]
    refine x_istore_n d_Mo_stripsOf_44 (by decide) ?_
    refine x_iinc d_Mo_stripsOf_45 rfl (by first | exact inc1 _ | rfl) (by decide) ?_
    refine x_goto (tgt := 4) d_Mo_stripsOf_48 (by decide) ?_
    exact ih hk2
theorem ct_Mo_seamsOf (hM : LayMo sh μ) (hI : Inv R) (hn : NowR mem (μ + 1) R) {i : Nat} (hi : i < R 2) (h8 : rq R i 8 = 1) : Ct l g M_Mo_seamsOf [rf g μ, .int (nI i)] none sh mem (Pq (.int (nI (seamN (rq R i) (rq R i 10) (ro R (rq R i 9) 1)))) none sh mem) := by
  obtain ⟨k1, k2, k3⟩ := hI.2.2.2.2.1 i hi
  obtain ⟨k4, k5⟩ := k3 h8
  obtain ⟨v1, v2, v3, v4, v5⟩ := hI.2.2.1 _ k4
  have h12 := hI.1.1
  have h20 := hI.1.2.2
  have hq3 := k1.1.2.1
  refine x_begin rfl rfl rfl (by decide) rfl ?_
  refine x_iconst (v := nI 0) d_Mo_seamsOf_0 (by decide) ?_
  refine x_istore_n d_Mo_seamsOf_1 (by decide) ?_
  refine x_iconst (v := nI 0) d_Mo_seamsOf_2 (by decide) ?_
  refine x_istore_n d_Mo_seamsOf_3 (by decide) ?_
  refine up_ind (rq R i 0) (P := fun k => X l g M_Mo_seamsOf (XF g (Pq (.int (nI (seamN (rq R i) (rq R i 10) (ro R (rq R i 9) 1)))) none sh mem) M_Mo_seamsOf) 4 [some (rf g μ), some (.int (nI i)), some (.int (nI (sN (fun k => (mny (rq R i) k (rq R i 10) (ro R (rq R i 9) 1) - 1) * lng (rq R i) k (rq R i 10)) k))), some (.int (nI k))] [] none sh mem 0 0) (fun k hk ih => ?_) 0 (Nat.zero_le _)
  refine x_iload_n d_Mo_seamsOf_4 rfl ?_
  refine x_aload_n d_Mo_seamsOf_5 rfl ?_
  refine x_iload_n d_Mo_seamsOf_6 rfl ?_
  refine x_iconst (v := nI 0) d_Mo_seamsOf_7 (by decide) ?_
  refine x_v2p d_Mo_seamsOf_8 ml_Mo_74 v_Mo_at rfl ⟨rfl, rfl⟩ hM.io (Nat.le_of_ble_eq_true rfl) (ct_Mo_at hM hn (by omega) (by omega)) ?_
  refine x_icmp_ge (tgt := 67) d_Mo_seamsOf_11 (by decide) (fun c11 => ?_) (fun c11 => ?_)
  · have hk2 : k = rq R i 0 := by have := nI_le' (by omega) (by omega) c11; omega
    rw [hk2]
    refine x_iload_n d_Mo_seamsOf_67 rfl ?_
    refine x_iret rfl rfl d_Mo_seamsOf_68 (Nat.zero_le _) (Nat.zero_le _) ?_
    exact ⟨rfl, rfl, rfl, rfl⟩
  · have hk2 := nI_nle' (by omega) (by omega) c11
    have hwd := k1.w hk2 k5
    have hmn := mny_le k1 hk2 k5 v2.1
    refine x_iload_n d_Mo_seamsOf_14 rfl ?_
    refine x_aload_n d_Mo_seamsOf_15 rfl ?_
    refine x_iload_n d_Mo_seamsOf_16 rfl ?_
    refine x_iload_n d_Mo_seamsOf_17 rfl ?_
    refine x_aload_n d_Mo_seamsOf_18 rfl ?_
    refine x_iload_n d_Mo_seamsOf_19 rfl ?_
    refine x_bipush (v := nI 10) d_Mo_seamsOf_20 (by decide) ?_
    refine x_v2p d_Mo_seamsOf_22 ml_Mo_74 v_Mo_at rfl ⟨rfl, rfl⟩ hM.io (Nat.le_of_ble_eq_true rfl) (ct_Mo_at hM hn (by omega) (by omega)) ?_
    refine x_v3p d_Mo_seamsOf_25 ml_Mo_93 v_Mo_wide rfl ⟨rfl, rfl⟩ hM.io (Nat.le_of_ble_eq_true rfl) (ct_Mo_wide hM hn (by omega) (by omega) k5) ?_
    refine x_aload_n d_Mo_seamsOf_28 rfl ?_
    refine x_aload_n d_Mo_seamsOf_29 rfl ?_
    refine x_iload_n d_Mo_seamsOf_30 rfl ?_
    refine x_bipush (v := nI 9) d_Mo_seamsOf_31 (by decide) ?_
    refine x_v2p d_Mo_seamsOf_33 ml_Mo_74 v_Mo_at rfl ⟨rfl, rfl⟩ hM.io (Nat.le_of_ble_eq_true rfl) (ct_Mo_at hM hn (by omega) (by omega)) ?_
    refine x_iconst (v := nI 1) d_Mo_seamsOf_36 (by decide) ?_
    refine x_v2p d_Mo_seamsOf_37 ml_Mo_90 v_Mo_of rfl ⟨rfl, rfl⟩ hM.io (Nat.le_of_ble_eq_true rfl) (ct_Mo_of hM hn (by omega) (by omega)) ?_
    refine x_s2p d_Mo_seamsOf_40 ml_Mo_100 v_Mo_rounds rfl ⟨rfl, rfl⟩ rfl (Nat.le_of_ble_eq_true rfl) (ct_Mo_rounds  (by omega) v2) ?_
    rw [show (wdt (rq R i) k (rq R i 10) + ro R (rq R i 9) 1 - 1) / ro R (rq R i 9) 1 = mny (rq R i) k (rq R i 10) (ro R (rq R i 9) 1) from rfl]
    refine x_iconst (v := nI 1) d_Mo_seamsOf_43 (by decide) ?_
    refine x_isub d_Mo_seamsOf_44 ?_
    rw [pk_sub hmn.1]
    refine x_aload_n d_Mo_seamsOf_45 rfl ?_
    refine x_iload_n d_Mo_seamsOf_46 rfl ?_
    refine x_iload_n d_Mo_seamsOf_47 rfl ?_
    refine x_aload_n d_Mo_seamsOf_48 rfl ?_
    refine x_iload_n d_Mo_seamsOf_49 rfl ?_
    refine x_bipush (v := nI 10) d_Mo_seamsOf_50 (by decide) ?_
    refine x_v2p d_Mo_seamsOf_52 ml_Mo_74 v_Mo_at rfl ⟨rfl, rfl⟩ hM.io (Nat.le_of_ble_eq_true rfl) (ct_Mo_at hM hn (by omega) (by omega)) ?_
    refine x_v3p d_Mo_seamsOf_55 ml_Mo_97 v_Mo_longs rfl ⟨rfl, rfl⟩ hM.io (Nat.le_of_ble_eq_true rfl) (ct_Mo_longs hM hn (by omega) (by omega) k5) ?_
    refine x_imul d_Mo_seamsOf_58 ?_
    rw [pk_mul]
    refine x_iadd d_Mo_seamsOf_59 ?_
    rw [nI_add]
    refine x_istore_n d_Mo_seamsOf_60 (by decide) ?_
    refine x_iinc d_Mo_seamsOf_61 rfl (by first | exact inc1 _ | rfl) (by decide) ?_
    refine x_goto (tgt := 4) d_Mo_seamsOf_64 (by decide) ?_
    exact ih hk2
theorem ct_Mo_rankOf (hM : LayMo sh μ) (hI : Inv R) (hn : NowR mem (μ + 1) R) {i s : Nat} (hi : i < R 2) (h8 : rq R i 8 = 1) (hs : s < stripsN (rq R i) (rq R i 10) (ro R (rq R i 9) 1)) : ∃ k a, k < rq R i 0 ∧ a < mny (rq R i) k (rq R i 10) (ro R (rq R i 9) 1) ∧ (SL (rq R i) (rq R i 10) (ro R (rq R i 9) 1))[s]? = some (min (ro R (rq R i 9) 1) (wdt (rq R i) k (rq R i 10) - a * ro R (rq R i 9) 1), lng (rq R i) k (rq R i 10)) ∧ Ct l g M_Mo_rankOf [rf g μ, .int (nI i), .int (nI s)] none sh mem (Pq (.int (nI (100 * k + a))) none sh mem) := by
  obtain ⟨k1, k2, k3⟩ := hI.2.2.2.2.1 i hi
  obtain ⟨k4, k5⟩ := k3 h8
  obtain ⟨v1, v2, v3, v4, v5⟩ := hI.2.2.1 _ k4
  have h12 := hI.1.1
  have h20 := hI.1.2.2
  have hq3 := k1.1.2.1
  have h36 := stripsN_le k1 k5 v2.1
  -- where the strip lies
  have key : ∀ n j a, j + n = rq R i 0 → a < (SLf (rq R i) (rq R i 10) (ro R (rq R i 9) 1) n j).length → a ≤ 36 → ∃ k b, j ≤ k ∧ k < rq R i 0 ∧ b < mny (rq R i) k (rq R i 10) (ro R (rq R i 9) 1) ∧ (SLf (rq R i) (rq R i 10) (ro R (rq R i 9) 1) n j)[a]? = some (min (ro R (rq R i 9) 1) (wdt (rq R i) k (rq R i 10) - b * ro R (rq R i 9) 1), lng (rq R i) k (rq R i 10)) ∧ ∀ (u : Option Value), X l g M_Mo_rankOf (XF g (Pq (.int (nI (100 * k + b))) none sh mem) M_Mo_rankOf) 5 [some (rf g μ), some (.int (nI i)), some (.int (nI s)), some (.int (nI a)), some (.int (nI j)), u] [] none sh mem 0 0 := by
    intro n
    induction n with
    | zero => intro j a hj ha; exact absurd ha (by rw [SLf]; simp)
    | succ n ih =>
      intro j a hj ha ha36
      have hj2 : j < rq R i 0 := by omega
      have hwd := k1.w hj2 k5
      have hmn := mny_le k1 hj2 k5 v2.1
      by_cases hin : a < mny (rq R i) j (rq R i 10) (ro R (rq R i 9) 1)
      · refine ⟨j, a, Nat.le_refl _, hj2, hin, SLf_in hin, fun u => ?_⟩
        refine x_iload d_Mo_rankOf_5 rfl ?_
        refine x_aload_n d_Mo_rankOf_7 rfl ?_
        refine x_iload_n d_Mo_rankOf_8 rfl ?_
        refine x_iconst (v := nI 0) d_Mo_rankOf_9 (by decide) ?_
        refine x_v2p d_Mo_rankOf_10 ml_Mo_74 v_Mo_at rfl ⟨rfl, rfl⟩ hM.io (Nat.le_of_ble_eq_true rfl) (ct_Mo_at hM hn (by omega) (by omega)) ?_
        refine x_icmp_ge (tgt := 72) d_Mo_rankOf_13 (by decide) (fun c13 => ?_) (fun c13 => ?_)
        · exact absurd c13 (nI_ge hj2 (by omega))
        · refine x_aload_n d_Mo_rankOf_16 rfl ?_
          refine x_iload_n d_Mo_rankOf_17 rfl ?_
          refine x_iload d_Mo_rankOf_18 rfl ?_
          refine x_aload_n d_Mo_rankOf_20 rfl ?_
          refine x_iload_n d_Mo_rankOf_21 rfl ?_
          refine x_bipush (v := nI 10) d_Mo_rankOf_22 (by decide) ?_
          refine x_v2p d_Mo_rankOf_24 ml_Mo_74 v_Mo_at rfl ⟨rfl, rfl⟩ hM.io (Nat.le_of_ble_eq_true rfl) (ct_Mo_at hM hn (by omega) (by omega)) ?_
          refine x_v3p d_Mo_rankOf_27 ml_Mo_93 v_Mo_wide rfl ⟨rfl, rfl⟩ hM.io (Nat.le_of_ble_eq_true rfl) (ct_Mo_wide hM hn (by omega) (by omega) k5) ?_
          refine x_aload_n d_Mo_rankOf_30 rfl ?_
          refine x_aload_n d_Mo_rankOf_31 rfl ?_
          refine x_iload_n d_Mo_rankOf_32 rfl ?_
          refine x_bipush (v := nI 9) d_Mo_rankOf_33 (by decide) ?_
          refine x_v2p d_Mo_rankOf_35 ml_Mo_74 v_Mo_at rfl ⟨rfl, rfl⟩ hM.io (Nat.le_of_ble_eq_true rfl) (ct_Mo_at hM hn (by omega) (by omega)) ?_
          refine x_iconst (v := nI 1) d_Mo_rankOf_38 (by decide) ?_
          refine x_v2p d_Mo_rankOf_39 ml_Mo_90 v_Mo_of rfl ⟨rfl, rfl⟩ hM.io (Nat.le_of_ble_eq_true rfl) (ct_Mo_of hM hn (by omega) (by omega)) ?_
          refine x_s2p d_Mo_rankOf_42 ml_Mo_100 v_Mo_rounds rfl ⟨rfl, rfl⟩ rfl (Nat.le_of_ble_eq_true rfl) (ct_Mo_rounds  (by omega) v2) ?_
          rw [show (wdt (rq R i) j (rq R i 10) + ro R (rq R i 9) 1 - 1) / ro R (rq R i 9) 1 = mny (rq R i) j (rq R i 10) (ro R (rq R i 9) 1) from rfl]
          refine x_istore d_Mo_rankOf_45 (by decide) ?_
          refine x_iload_n d_Mo_rankOf_47 rfl ?_
          refine x_iload d_Mo_rankOf_48 rfl ?_
          refine x_icmp_ge (tgt := 61) d_Mo_rankOf_50 (by decide) (fun c50 => ?_) (fun c50 => ?_)
          · exact absurd c50 (nI_ge hin (by omega))
          · refine x_bipush (v := nI 100) d_Mo_rankOf_53 (by decide) ?_
            refine x_iload d_Mo_rankOf_55 rfl ?_
            refine x_imul d_Mo_rankOf_57 ?_
            rw [pk_mul]
            refine x_iload_n d_Mo_rankOf_58 rfl ?_
            refine x_iadd d_Mo_rankOf_59 ?_
            rw [nI_add]
            refine x_iret rfl rfl d_Mo_rankOf_60 (Nat.zero_le _) (Nat.zero_le _) ?_
            exact ⟨rfl, rfl, rfl, rfl⟩
      · have hle : mny (rq R i) j (rq R i 10) (ro R (rq R i 9) 1) ≤ a := by omega
        have ha2 : a - mny (rq R i) j (rq R i 10) (ro R (rq R i 9) 1) < (SLf (rq R i) (rq R i 10) (ro R (rq R i 9) 1) n (j + 1)).length := by
          rw [SLf, List.length_append, SLk_len] at ha
          omega
        obtain ⟨k, b, g1, g2, g3, g4, g5⟩ := ih (j + 1) _ (by omega) ha2 (by omega)
        refine ⟨k, b, by omega, g2, g3, (SLf_out hle).trans g4, fun u => ?_⟩
        refine x_iload d_Mo_rankOf_5 rfl ?_
        refine x_aload_n d_Mo_rankOf_7 rfl ?_
        refine x_iload_n d_Mo_rankOf_8 rfl ?_
        refine x_iconst (v := nI 0) d_Mo_rankOf_9 (by decide) ?_
        refine x_v2p d_Mo_rankOf_10 ml_Mo_74 v_Mo_at rfl ⟨rfl, rfl⟩ hM.io (Nat.le_of_ble_eq_true rfl) (ct_Mo_at hM hn (by omega) (by omega)) ?_
        refine x_icmp_ge (tgt := 72) d_Mo_rankOf_13 (by decide) (fun c13 => ?_) (fun c13 => ?_)
        · exact absurd c13 (nI_ge hj2 (by omega))
        · refine x_aload_n d_Mo_rankOf_16 rfl ?_
          refine x_iload_n d_Mo_rankOf_17 rfl ?_
          refine x_iload d_Mo_rankOf_18 rfl ?_
          refine x_aload_n d_Mo_rankOf_20 rfl ?_
          refine x_iload_n d_Mo_rankOf_21 rfl ?_
          refine x_bipush (v := nI 10) d_Mo_rankOf_22 (by decide) ?_
          refine x_v2p d_Mo_rankOf_24 ml_Mo_74 v_Mo_at rfl ⟨rfl, rfl⟩ hM.io (Nat.le_of_ble_eq_true rfl) (ct_Mo_at hM hn (by omega) (by omega)) ?_
          refine x_v3p d_Mo_rankOf_27 ml_Mo_93 v_Mo_wide rfl ⟨rfl, rfl⟩ hM.io (Nat.le_of_ble_eq_true rfl) (ct_Mo_wide hM hn (by omega) (by omega) k5) ?_
          refine x_aload_n d_Mo_rankOf_30 rfl ?_
          refine x_aload_n d_Mo_rankOf_31 rfl ?_
          refine x_iload_n d_Mo_rankOf_32 rfl ?_
          refine x_bipush (v := nI 9) d_Mo_rankOf_33 (by decide) ?_
          refine x_v2p d_Mo_rankOf_35 ml_Mo_74 v_Mo_at rfl ⟨rfl, rfl⟩ hM.io (Nat.le_of_ble_eq_true rfl) (ct_Mo_at hM hn (by omega) (by omega)) ?_
          refine x_iconst (v := nI 1) d_Mo_rankOf_38 (by decide) ?_
          refine x_v2p d_Mo_rankOf_39 ml_Mo_90 v_Mo_of rfl ⟨rfl, rfl⟩ hM.io (Nat.le_of_ble_eq_true rfl) (ct_Mo_of hM hn (by omega) (by omega)) ?_
          refine x_s2p d_Mo_rankOf_42 ml_Mo_100 v_Mo_rounds rfl ⟨rfl, rfl⟩ rfl (Nat.le_of_ble_eq_true rfl) (ct_Mo_rounds  (by omega) v2) ?_
          rw [show (wdt (rq R i) j (rq R i 10) + ro R (rq R i 9) 1 - 1) / ro R (rq R i 9) 1 = mny (rq R i) j (rq R i 10) (ro R (rq R i 9) 1) from rfl]
          refine x_istore d_Mo_rankOf_45 (by decide) ?_
          refine x_iload_n d_Mo_rankOf_47 rfl ?_
          refine x_iload d_Mo_rankOf_48 rfl ?_
          refine x_icmp_ge (tgt := 61) d_Mo_rankOf_50 (by decide) (fun c50 => ?_) (fun c50 => ?_)
          · refine x_iload_n d_Mo_rankOf_61 rfl ?_
            refine x_iload d_Mo_rankOf_62 rfl ?_
            refine x_isub d_Mo_rankOf_64 ?_
            rw [pk_sub hle]
            refine x_istore_n d_Mo_rankOf_65 (by decide) ?_
            refine x_iinc d_Mo_rankOf_66 rfl (by first | exact inc1 _ | rfl) (by decide) ?_
            refine x_goto (tgt := 5) d_Mo_rankOf_69 (by decide) ?_
            exact g5 _
          · exact absurd (nI_le hle (by omega)) c50
  obtain ⟨k, b, g1, g2, g3, g4, g5⟩ := key (rq R i 0) 0 s (by omega) (by have := SL_len (rq R i) (rq R i 10) (ro R (rq R i 9) 1); unfold SL at this; omega) (by omega)
  refine ⟨k, b, g2, g3, g4, ?_⟩
  refine x_begin rfl rfl rfl (by decide) rfl ?_
  refine x_iload_n d_Mo_rankOf_0 rfl ?_
  refine x_istore_n d_Mo_rankOf_1 (by decide) ?_
  refine x_iconst (v := nI 0) d_Mo_rankOf_2 (by decide) ?_
  refine x_istore d_Mo_rankOf_3 (by decide) ?_
  exact g5 _
end
