/-! THE LAW: its loop, its beginning -/
section
variable {l : Launch} {g : XG} {sh : Nat → Sh} {b Ls : Nat} {xs : Nat → Int32} {nm : String}
theorem law_loop (hL : LayCc sh 0) (hM : LayMo sh 410) (hLs : Ls ≤ 2560) : ∀ j, j ≤ 512 → ∀ (mem : Mem) (G : GS), CR mem 0 G → MR mem 410 G → LX l g nm b Ls xs sh (5 * j) 18 [] mem := by
  refine up_ind 512 (fun j hj ih mem G hC hR => ?_)
  refine x_iload_n d_La_law_18 rfl ?_
  refine x_aload_b d_La_law_19 rfl ?_
  refine x_slen d_La_law_20 ?_
  refine x_iconst (v := nI 5) d_La_law_21 (by decide) ?_
  refine x_isub d_La_law_22 ?_
  refine x_icmp_gt (tgt := 852) d_La_law_23 (by decide) (fun c23 => ?_) (fun c23 => ?_)
  · refine x_iconst (v := nI 1) d_La_law_852 (by decide) ?_
    exact x_lwret (Nat.le_of_ble_eq_true rfl) (Nat.le_of_ble_eq_true rfl) d_La_law_853
  · have h5 : 5 * j + 5 ≤ Ls := by
      have h1 : ¬ (nI Ls - nI 5).toInt < (nI (5 * j)).toInt := fun h => c23 (Int32.lt_iff_toInt_lt.mpr h)
      rw [pk_sub_toInt (by omega) (by omega), nI_toInt (by omega)] at h1
      omega
    have kk : ∀ (m : Mem) (G : GS), CR m 0 G → MR m 410 G → LX l g nm b Ls xs sh (5 * j) 846 [] m := by
      intro m G hC hR
      refine x_iinc d_La_law_846 rfl (show nI (5 * j) + Int32.ofInt 5 = nI (5 * (j + 1)) from (inc5 (5 * j)).trans (congrArg nI (by omega))) (show (3 : Nat) < 8 by decide) ?_
      refine x_goto (tgt := 18) d_La_law_849 (by decide) ?_
      exact ih (by omega) _ _ hC hR
    refine x_aload_b d_La_law_26 rfl ?_
    refine x_iload_n d_La_law_27 rfl ?_
    refine x_sld (by omega) hLs d_La_law_28 ?_
    refine x_bipush (v := nI 31) d_La_law_29 (by decide) ?_
    refine x_iand d_La_law_31 ?_
    rcases sw_cases (xs (5 * j) &&& nI 31) (n := 23) (by omega) with ⟨i, hi, he⟩ | ⟨ho, hno⟩
    · rw [he]
      rcases (show i = 0 ∨ i = 1 ∨ i = 2 ∨ i = 3 ∨ i = 4 ∨ i = 5 ∨ i = 6 ∨ i = 7 ∨ i = 8 ∨ i = 9 ∨ i = 10 ∨ i = 11 ∨ i = 12 ∨ i = 13 ∨ i = 14 ∨ i = 15 ∨ i = 16 ∨ i = 17 ∨ i = 18 ∨ i = 19 ∨ i = 20 ∨ i = 21 ∨ i = 22 ∨ i = 23 by omega) with rfl | rfl | rfl | rfl | rfl | rfl | rfl | rfl | rfl | rfl | rfl | rfl | rfl | rfl | rfl | rfl | rfl | rfl | rfl | rfl | rfl | rfl | rfl | rfl
      · refine x_tableIn (off := 112) (tgt := 144) d_La_law_32 (by decide) (by decide) (by decide) (by decide) ?_
        exact arm_roll hL hM h5 hLs hC hR kk
      · refine x_tableIn (off := 165) (tgt := 197) d_La_law_32 (by decide) (by decide) (by decide) (by decide) ?_
        exact arm_rooms hL hM h5 hLs hC hR kk
      · refine x_tableIn (off := 178) (tgt := 210) d_La_law_32 (by decide) (by decide) (by decide) (by decide) ?_
        exact arm_cover hL hM h5 hLs hC hR kk
      · refine x_tableIn (off := 221) (tgt := 253) d_La_law_32 (by decide) (by decide) (by decide) (by decide) ?_
        exact arm_takeUp hL hM h5 hLs hC hR kk
      · refine x_tableIn (off := 244) (tgt := 276) d_La_law_32 (by decide) (by decide) (by decide) (by decide) ?_
        exact arm_sell hL hM h5 hLs hC hR kk
      · refine x_tableIn (off := 267) (tgt := 299) d_La_law_32 (by decide) (by decide) (by decide) (by decide) ?_
        exact arm_clear hL hM h5 hLs hC hR kk
      · refine x_tableIn (off := 300) (tgt := 332) d_La_law_32 (by decide) (by decide) (by decide) (by decide) ?_
        exact arm_set hL hM h5 hLs hC hR kk
      · refine x_tableIn (off := 333) (tgt := 365) d_La_law_32 (by decide) (by decide) (by decide) (by decide) ?_
        exact arm_type hL hM h5 hLs hC hR kk
      · refine x_tableIn (off := 358) (tgt := 390) d_La_law_32 (by decide) (by decide) (by decide) (by decide) ?_
        exact arm_clearText hL hM h5 hLs hC hR kk
      · refine x_tableIn (off := 371) (tgt := 403) d_La_law_32 (by decide) (by decide) (by decide) (by decide) ?_
        exact arm_fault hL hM h5 hLs hC hR kk
      · refine x_tableIn (off := 384) (tgt := 416) d_La_law_32 (by decide) (by decide) (by decide) (by decide) ?_
        exact arm_undo hL hM h5 hLs hC hR kk
      · refine x_tableIn (off := 397) (tgt := 429) d_La_law_32 (by decide) (by decide) (by decide) (by decide) ?_
        exact arm_keep hL hM h5 hLs hC hR kk
      · refine x_tableIn (off := 410) (tgt := 442) d_La_law_32 (by decide) (by decide) (by decide) (by decide) ?_
        exact arm_restore hL hM h5 hLs hC hR kk
      · refine x_tableIn (off := 423) (tgt := 455) d_La_law_32 (by decide) (by decide) (by decide) (by decide) ?_
        exact arm_rollOf hL hM h5 hLs hC hR kk
      · refine x_tableIn (off := 456) (tgt := 488) d_La_law_32 (by decide) (by decide) (by decide) (by decide) ?_
        exact arm_offcut hL hM h5 hLs hC hR kk
      · refine x_tableIn (off := 489) (tgt := 521) d_La_law_32 (by decide) (by decide) (by decide) (by decide) ?_
        exact arm_sorted hL hM h5 hLs hC hR kk
      · refine x_tableIn (off := 512) (tgt := 544) d_La_law_32 (by decide) (by decide) (by decide) (by decide) ?_
        exact arm_room hL hM h5 hLs hC hR kk
      · refine x_tableIn (off := 545) (tgt := 577) d_La_law_32 (by decide) (by decide) (by decide) (by decide) ?_
        exact arm_strip hL hM h5 hLs hC hR kk
      · refine x_tableIn (off := 588) (tgt := 620) d_La_law_32 (by decide) (by decide) (by decide) (by decide) ?_
        exact arm_count hL hM h5 hLs hC hR kk
      · refine x_tableIn (off := 611) (tgt := 643) d_La_law_32 (by decide) (by decide) (by decide) (by decide) ?_
        exact arm_wasted hL hM h5 hLs hC hR kk
      · refine x_tableIn (off := 662) (tgt := 694) d_La_law_32 (by decide) (by decide) (by decide) (by decide) ?_
        exact arm_ifCovered hL hM h5 hLs hC hR kk
      · refine x_tableIn (off := 715) (tgt := 747) d_La_law_32 (by decide) (by decide) (by decide) (by decide) ?_
        exact arm_best hL hM h5 hLs hC hR kk
      · refine x_tableIn (off := 758) (tgt := 790) d_La_law_32 (by decide) (by decide) (by decide) (by decide) ?_
        exact arm_suits hL hM h5 hLs hC hR kk
      · refine x_tableIn (off := 781) (tgt := 813) d_La_law_32 (by decide) (by decide) (by decide) (by decide) ?_
        exact arm_coverAll hL hM h5 hLs hC hR kk
    · refine x_tableOut (tgt := 846) d_La_law_32 ho (by decide) ?_
      exact kk _ _ hC hR
end
section
variable {l : Launch} {g : XG} {b Ls : Nat} {xs : Nat → Int32} {nm : String}
theorem law_begin (hLs : Ls ≤ 2560) : X l g (M_law nm) (LF g b Ls xs) 0 [some (.ref b), none, none, none, none, none, none, none] [] (some 0) (fun _ => sh0) (fun _ _ => 0) 0 0 := by
  refine x_new ns_La_7 (List.cons_ne_nil _ _) d_La_law_0 (Nat.le_of_ble_eq_true rfl) (Nat.le_of_ble_eq_true rfl) ?_
  refine x_dup d_La_law_3 rfl ?_
  refine x_callI (M' := M_Cc_init) (As := []) d_La_law_4 ml_La_9 v_Cc_init rfl rfl rfl (Nat.le_of_ble_eq_true rfl) (ct_Cc_init (us_at _ _ _) (fun k => by rw [zm_at])) (fun v1 N1 sh1 mem1 q1 => ?_)
  obtain ⟨rfl, hN, a1, a2, a3, a4⟩ := q1
  have hN : N1 = some 410 := hN
  subst hN
  refine x_astore_n d_La_law_7 (show (1 : Nat) < 8 by decide) ?_
  refine x_new ns_La_10 (List.cons_ne_nil _ _) d_La_law_8 (Nat.le_of_ble_eq_true rfl) (Nat.le_of_ble_eq_true rfl) ?_
  refine x_dup d_La_law_11 rfl ?_
  refine x_callI (M' := M_Mo_init) (As := []) d_La_law_12 ml_La_12 v_Mo_init rfl rfl rfl (Nat.le_of_ble_eq_true rfl) (ct_Mo_init (us_at _ _ _) (fun k => by rw [zm_at])) (fun v2 N2 sh2 mem2 q2 => ?_)
  obtain ⟨rfl, hN, e1, e2, e3, e4⟩ := q2
  have hN : N2 = some 418 := hN
  subst hN
  refine x_noN ?_
  refine x_astore_n d_La_law_15 (show (2 : Nat) < 8 by decide) ?_
  refine x_iconst (v := nI 0) d_La_law_16 (by decide) ?_
  refine x_istore_n d_La_law_17 (show (3 : Nat) < 8 by decide) ?_
  have hL : LayCc sh2 0 := fun i hi => by
    rw [e2 (0 + i) (by omega), us_ne _ _ (by omega)]
    exact a1 i hi
  have hM : LayMo sh2 410 := fun i hi => e1 i hi
  have hC : CR mem2 0 G00 := CR_start (fun i hi k => by
    rw [e4 (0 + i) (by omega), zm_ne _ (by omega)]
    exact a3 i hi k)
  have hR : MR mem2 410 G00 := MR_start (fun i hi k => e3 i hi k)
  exact law_loop hL hM hLs 0 (by omega) mem2 G00 hC hR
end
