/-! the acts of the counter, walked -/
theorem priceS_lt {R : RS} (hI : Inv R) {i r y : Nat} (hi : i < R 2) (hr : r < R 0) (hy : y ≤ 1) : priceS R i r y < 2 ^ 22 := by
  obtain ⟨⟨i1, i2, i3⟩, ⟨i4, ⟨i5, i6⟩, i7, ⟨i8, i9⟩, i10⟩, i11, i12, i13, i14, i15⟩ := hI
  obtain ⟨k1, ⟨k2, k3⟩, k4, k5, k6, k7⟩ := i11 r hr
  have h1 := areaN_le (i13 i hi).1
  have h2 := seamN_le (i13 i hi).1 hy k2
  have h3 : areaN (rq R i) * ro R r 3 ≤ 10800 * 99 := mul_b h1 k5
  have h4 : R 6 * (if acr (rq R i) y then R 7 else 1) ≤ 99 * 9 := mul_b i7 (by split <;> omega)
  have h5 := mul_b h2 h4
  unfold priceS
  omega
def rw8 (R : RS) (i : Nat) : Nat := if rq R i 8 = 1 then ro R (rq R i 9) 1 else 0
theorem RoomRep.w8 {mem : Mem} {ρ i : Nat} {R : RS} (hI : Inv R) (hi : i < R 2) (h : RoomRep mem ρ R i) : mem (ρ + 12) i = nI (rw8 R i) ∧ rw8 R i ≤ 60 ∧ (0 < rw8 R i ↔ rq R i 8 = 1) := by
  obtain ⟨h1, h2, h3⟩ := h
  unfold rw8
  by_cases h8 : rq R i 8 = 1
  · rw [if_pos h8]
    obtain ⟨k1, k2, k3, k4, k5⟩ := (h3 h8).1
    exact ⟨k1, k5, fun _ => h8, fun _ => by omega⟩
  · rw [if_neg h8]
    have := (hI.2.2.2.2.1 i hi).2.1
    exact ⟨h2 (by omega), by omega, fun z => absurd z (by omega), fun z => absurd z h8⟩
theorem cnt_cong {p q : Nat → Bool} : ∀ n, (∀ i, i < n → p i = q i) → cnt p n = cnt q n
  | 0, _ => rfl
  | n + 1, h => by rw [cnt, cnt, cnt_cong n (fun i hi => h i (by omega)), h n (by omega)]
theorem cnt_list {E : List OE} {f : OE → Bool} {p : Nat → Bool} (h : ∀ i (hi : i < E.length), p i = f E[i]) : ∀ n, n ≤ E.length → cnt p n = (E.take n).countP f
  | 0, _ => by simp [cnt]
  | n + 1, hn => by
    rw [cnt, cnt_list h n (by omega), List.take_succ, List.getElem?_eq_getElem (by omega), List.countP_append, h n (by omega)]
    simp
theorem smallOnes_EL {R : RS} (hI : Inv R) {r A : Nat} (hr : r < 12) (hA : A ≤ 9999) (hE : ∀ i, i < (EL R).length → eR (EL R) i < 12 ∧ eA (EL R) i ≤ 3600) : cnt (fun i => decide (nI (eR (EL R) i) = nI r ∧ nI (eA (EL R) i) < nI A)) (EL R).length = cnt (smK R r A) (R 1) := by
  rw [← count_EL, cnt_list (f := smB r A) (E := EL R) (fun i hi => ?_) _ (Nat.le_refl _), List.take_length]
  obtain ⟨h1, h2⟩ := hE i hi
  rw [smB_at hi, Bool.decide_and]
  congr 1
  · exact decide_eq_decide.mpr (nI_eq (by omega) (by omega))
  · exact decide_eq_decide.mpr (nI_ltI (by omega) (by omega))
section
variable {l : Launch} {g : XG} {sh : Nat → Sh} {mem : Mem} {κ : Nat} {G : GS}
theorem ct_Cc_roll (hL : LayCc sh κ) (hC : CR mem κ G) {k w len p : Int32} : Ct l g M_Cc_roll [rf g κ, .int k, .int w, .int len, .int p] none sh mem (Ri none sh (CP κ mem (spRoll G k w len p))) := by
  obtain ⟨hI, hb, hh, ht, hs⟩ := id hC
  have h12 := hI.1.1
  refine x_begin rfl rfl rfl (by decide) rfl ?_
  have no : ¬ ((inI k 0 9 ∧ inI w 5 60) ∧ inI len 1 999 ∧ inI p 0 99) → spRoll G k w len p = (-2, G) := fun z => if_neg z
  refine x_iload_n d_Cc_roll_0 rfl ?_
  refine x_s1p d_Cc_roll_1 ml_Cc_46 v_Cc_isKind rfl ⟨rfl, rfl⟩ rfl (Nat.le_of_ble_eq_true rfl) (ct_Cc_isKind) ?_
  refine x_if_eq (tgt := 18) d_Cc_roll_4 (by decide) (fun c4 => ?_) (fun c4 => ?_)
  · rw [no (fun z => bI_0.mp c4 z.1.1)]
    refine x_bipush (v := -2) d_Cc_roll_18 (by decide) ?_
    refine x_iret rfl rfl d_Cc_roll_20 (Nat.zero_le _) (Nat.zero_le _) ?_
    exact ⟨_, rfl, rfl, rfl, rfl, hC, Fr.rf⟩
  · refine x_iload_n d_Cc_roll_7 rfl ?_
    refine x_iconst (v := nI 5) d_Cc_roll_8 (by decide) ?_
    refine x_icmp_lt (tgt := 18) d_Cc_roll_9 (by decide) (fun c9 => ?_) (fun c9 => ?_)
    · rw [no (fun z => rng_no (Or.inl c9) z.1.2)]
      refine x_bipush (v := -2) d_Cc_roll_18 (by decide) ?_
      refine x_iret rfl rfl d_Cc_roll_20 (Nat.zero_le _) (Nat.zero_le _) ?_
      exact ⟨_, rfl, rfl, rfl, rfl, hC, Fr.rf⟩
    · refine x_iload_n d_Cc_roll_12 rfl ?_
      refine x_bipush (v := nI 60) d_Cc_roll_13 (by decide) ?_
      refine x_icmp_le (tgt := 21) d_Cc_roll_15 (by decide) (fun c15 => ?_) (fun c15 => ?_)
      · refine x_iload_n d_Cc_roll_21 rfl ?_
        refine x_iconst (v := nI 1) d_Cc_roll_22 (by decide) ?_
        refine x_icmp_lt (tgt := 45) d_Cc_roll_23 (by decide) (fun c23 => ?_) (fun c23 => ?_)
        · rw [no (fun z => rng_no (Or.inl c23) z.2.1)]
          refine x_bipush (v := -2) d_Cc_roll_45 (by decide) ?_
          refine x_iret rfl rfl d_Cc_roll_47 (Nat.zero_le _) (Nat.zero_le _) ?_
          exact ⟨_, rfl, rfl, rfl, rfl, hC, Fr.rf⟩
        · refine x_iload_n d_Cc_roll_26 rfl ?_
          refine x_sipush (v := nI 999) d_Cc_roll_27 (by decide) ?_
          refine x_icmp_gt (tgt := 45) d_Cc_roll_30 (by decide) (fun c30 => ?_) (fun c30 => ?_)
          · rw [no (fun z => rng_no (Or.inr c30) z.2.1)]
            refine x_bipush (v := -2) d_Cc_roll_45 (by decide) ?_
            refine x_iret rfl rfl d_Cc_roll_47 (Nat.zero_le _) (Nat.zero_le _) ?_
            exact ⟨_, rfl, rfl, rfl, rfl, hC, Fr.rf⟩
          · refine x_iload d_Cc_roll_33 rfl ?_
            refine x_if_lt (tgt := 45) d_Cc_roll_35 (by decide) (fun c35 => ?_) (fun c35 => ?_)
            · rw [no (fun z => rng_no (Or.inl c35) z.2.2)]
              refine x_bipush (v := -2) d_Cc_roll_45 (by decide) ?_
              refine x_iret rfl rfl d_Cc_roll_47 (Nat.zero_le _) (Nat.zero_le _) ?_
              exact ⟨_, rfl, rfl, rfl, rfl, hC, Fr.rf⟩
            · refine x_iload d_Cc_roll_38 rfl ?_
              refine x_bipush (v := nI 99) d_Cc_roll_40 (by decide) ?_
              refine x_icmp_le (tgt := 48) d_Cc_roll_42 (by decide) (fun c42 => ?_) (fun c42 => ?_)
              · have yes : ((inI k 0 9 ∧ inI w 5 60) ∧ inI len 1 999 ∧ inI p 0 99) := ⟨⟨bI_n.mp c4, i_nlt.mp c9, c15⟩, rng_yes c23 c30, i_nlt.mp c35, c42⟩
                rw [show spRoll G k w len p = if 12 ≤ G.1 0 then (-3, G) else (nI (G.1 0), actG G (rollS G.1 (tN k) (tN w) (tN len) (tN p))) from if_pos yes]
                obtain ⟨⟨y1, y2⟩, y3, y4⟩ := yes
                obtain ⟨k, q1, rfl⟩ := inI_of (by omega) (by omega) y1
                obtain ⟨w, q2, rfl⟩ := inI_of (by omega) (by omega) y2
                obtain ⟨len, q3, rfl⟩ := inI_of (by omega) (by omega) y3
                obtain ⟨p, q4, rfl⟩ := inI_of (by omega) (by omega) y4
                rw [tN_nI (by omega), tN_nI (by omega), tN_nI (by omega), tN_nI (by omega)]
                refine x_aload_n d_Cc_roll_48 rfl ?_
                refine x_getR hL.f0 rfl fs_Cc_10 d_Cc_roll_49 ?_
                refine x_getR hL.s1.f0 rfl fs_Cc_50 d_Cc_roll_52 ?_
                refine x_getI hL.s1.s3.f0 rfl fs_Cc_54 d_Cc_roll_55 ?_
                rw [hb.2.2.1.1]
                refine x_bipush (v := nI 12) d_Cc_roll_58 (by decide) ?_
                refine x_icmp_lt (tgt := 66) d_Cc_roll_60 (by decide) (fun c60 => ?_) (fun c60 => ?_)
                · have c60 := nI_lt' (by omega) (by omega) c60
                  rw [if_neg (show ¬ 12 ≤ G.1 0 by omega)]
                  refine x_aload_n d_Cc_roll_66 rfl ?_
                  refine x_getR hL.f0 rfl fs_Cc_28 d_Cc_roll_67 ?_
                  refine x_aload_n d_Cc_roll_70 rfl ?_
                  refine x_getR hL.f0 rfl fs_Cc_10 d_Cc_roll_71 ?_
                  refine x_v1v d_Cc_roll_74 ml_Cc_60 v_Hi_record rfl ⟨rfl, rfl⟩ hL.s193.io (Nat.le_of_ble_eq_true rfl) (ct_Hi_record hL.s193 hL.s1 (by omega) hh hI hb) (fun mem74 h74 => ?_)
                  obtain ⟨F1, hh1⟩ := h74
                  have hb1 := hC.book1 F1
                  refine x_aload_n d_Cc_roll_77 rfl ?_
                  refine x_getR hL.f0 rfl fs_Cc_10 d_Cc_roll_78 ?_
                  refine x_getR hL.s1.f0 rfl fs_Cc_50 d_Cc_roll_81 ?_
                  refine x_iload_n d_Cc_roll_84 rfl ?_
                  refine x_iload_n d_Cc_roll_85 rfl ?_
                  refine x_iload_n d_Cc_roll_86 rfl ?_
                  refine x_iload d_Cc_roll_87 rfl ?_
                  refine x_v4i d_Cc_roll_89 ml_Cc_64 v_Ro_append rfl ⟨rfl, rfl⟩ hL.s1.s3.io (Nat.le_of_ble_eq_true rfl) (ct_Ro_append hL.s1.s3 hb1.2.2.1.1 (by omega)) (fun r89 mem89 h89 => ?_)
                  obtain ⟨rfl, rfl⟩ := h89
                  refine x_iret rfl rfl d_Cc_roll_92 (Nat.zero_le _) (Nat.zero_le _) ?_
                  refine ⟨_, rfl, rfl, rfl, rfl, hC.acted F1 hh1 ?_ (rollS_inv hI (by omega) q1.2 q2 q3 q4.2) (hb1.roll hI (by omega))⟩
                  intro o ho
                  unfold roApp
                  rw [um_ne _ _ _ (by omega), um_ne _ _ _ (by omega), um_ne _ _ _ (by omega), um_ne _ _ _ (by omega), um_ne _ _ _ (by omega), um_ne _ _ _ (by omega)]
                · have c60 := nI_nlt' (by omega) (by omega) c60
                  rw [if_pos c60]
                  refine x_bipush (v := -3) d_Cc_roll_63 (by decide) ?_
                  refine x_iret rfl rfl d_Cc_roll_65 (Nat.zero_le _) (Nat.zero_le _) ?_
                  exact ⟨_, rfl, rfl, rfl, rfl, hC, Fr.rf⟩
              · rw [no (fun z => c42 z.2.2.2)]
                refine x_bipush (v := -2) d_Cc_roll_45 (by decide) ?_
                refine x_iret rfl rfl d_Cc_roll_47 (Nat.zero_le _) (Nat.zero_le _) ?_
                exact ⟨_, rfl, rfl, rfl, rfl, hC, Fr.rf⟩
      · rw [no (fun z => c15 z.1.2.2)]
        refine x_bipush (v := -2) d_Cc_roll_18 (by decide) ?_
        refine x_iret rfl rfl d_Cc_roll_20 (Nat.zero_le _) (Nat.zero_le _) ?_
        exact ⟨_, rfl, rfl, rfl, rfl, hC, Fr.rf⟩
theorem ct_Cc_takeUp (hL : LayCc sh κ) (hC : CR mem κ G) {i : Int32} : Ct l g M_Cc_takeUp [rf g κ, .int i] none sh mem (Ri none sh (CP κ mem (spTakeUp G i))) := by
  obtain ⟨hI, hb, hh, ht, hs⟩ := id hC
  have h20 := hI.1.2.2
  refine x_begin rfl rfl rfl (by decide) rfl ?_
  refine x_aload_n d_Cc_takeUp_0 rfl ?_
  refine x_getR hL.f0 rfl fs_Cc_10 d_Cc_takeUp_1 ?_
  refine x_getR hL.s1.f0 rfl fs_Cc_79 d_Cc_takeUp_4 ?_
  refine x_iload_n d_Cc_takeUp_7 rfl ?_
  refine x_v1p d_Cc_takeUp_8 ml_Cc_86 v_Rm_has rfl ⟨rfl, rfl⟩ hL.s1.s29.io (Nat.le_of_ble_eq_true rfl) (ct_Rm_has hL.s1.s29 hb.2.2.2.2.1 h20) ?_
  refine x_if_ne (tgt := 16) d_Cc_takeUp_11 (by decide) (fun c11 => ?_) (fun c11 => ?_)
  · have hi0 := bI_n.mp c11
    rw [show spTakeUp G i = if rq G.1 (tN i) 8 = 1 then (nI (liftS G.1 (tN i)).2, actG G (liftS G.1 (tN i)).1) else (-5, G) from if_pos hi0]
    obtain ⟨i, hi, rfl⟩ := hasI_of (by omega) hi0
    rw [tN_nI (by omega)]
    obtain ⟨w1, w2, w3⟩ := (hb.2.2.2.2.2 i hi).w8 hI hi
    refine x_aload_n d_Cc_takeUp_16 rfl ?_
    refine x_getR hL.f0 rfl fs_Cc_10 d_Cc_takeUp_17 ?_
    refine x_getR hL.s1.f0 rfl fs_Cc_79 d_Cc_takeUp_20 ?_
    refine x_iload_n d_Cc_takeUp_23 rfl ?_
    refine x_v1p d_Cc_takeUp_24 ml_Cc_100 v_Rm_isCovered rfl ⟨rfl, rfl⟩ hL.s1.s29.io (Nat.le_of_ble_eq_true rfl) (ct_Rm_isCovered hL.s1.s29 (by omega) w1 w2) ?_
    refine x_if_ne (tgt := 33) d_Cc_takeUp_27 (by decide) (fun c27 => ?_) (fun c27 => ?_)
    · have h8 := w3.mp (bI_n.mp c27)
      rw [if_pos h8]
      refine x_aload_n d_Cc_takeUp_33 rfl ?_
      refine x_getR hL.f0 rfl fs_Cc_28 d_Cc_takeUp_34 ?_
      refine x_aload_n d_Cc_takeUp_37 rfl ?_
      refine x_getR hL.f0 rfl fs_Cc_10 d_Cc_takeUp_38 ?_
      refine x_v1v d_Cc_takeUp_41 ml_Cc_60 v_Hi_record rfl ⟨rfl, rfl⟩ hL.s193.io (Nat.le_of_ble_eq_true rfl) (ct_Hi_record hL.s193 hL.s1 (by omega) hh hI hb) (fun mem41 h41 => ?_)
      obtain ⟨F1, hh1⟩ := h41
      have hb1 := hC.book1 F1
      refine x_aload_n d_Cc_takeUp_44 rfl ?_
      refine x_getR hL.f0 rfl fs_Cc_10 d_Cc_takeUp_45 ?_
      refine x_iload_n d_Cc_takeUp_48 rfl ?_
      refine x_v1i d_Cc_takeUp_49 ml_Cc_103 v_Bk_lift rfl ⟨rfl, rfl⟩ hL.s1.io (Nat.le_of_ble_eq_true rfl) (ct_Bk_lift hL.s1 hI hb1 hi h8) (fun r49 mem49 h49 => ?_)
      obtain ⟨F2, rfl, hb2⟩ := h49
      refine x_iret rfl rfl d_Cc_takeUp_52 (Nat.zero_le _) (Nat.zero_le _) ?_
      exact ⟨_, rfl, rfl, rfl, rfl, hC.acted F1 hh1 F2 (liftS_inv hI hi h8) hb2⟩
    · rw [if_neg (fun z => bI_0.mp c27 (w3.mpr z))]
      refine x_bipush (v := -5) d_Cc_takeUp_30 (by decide) ?_
      refine x_iret rfl rfl d_Cc_takeUp_32 (Nat.zero_le _) (Nat.zero_le _) ?_
      exact ⟨_, rfl, rfl, rfl, rfl, hC, Fr.rf⟩
  · rw [show spTakeUp G i = (-1, G) from if_neg (bI_0.mp c11)]
    refine x_iconst (v := -1) d_Cc_takeUp_14 (by decide) ?_
    refine x_iret rfl rfl d_Cc_takeUp_15 (Nat.zero_le _) (Nat.zero_le _) ?_
    exact ⟨_, rfl, rfl, rfl, rfl, hC, Fr.rf⟩
theorem ct_Cc_sell (hL : LayCc sh κ) (hC : CR mem κ G) {x : Int32} : Ct l g M_Cc_sell [rf g κ, .int x] none sh mem (Ri none sh (CP κ mem (spSell G x))) := by
  obtain ⟨hI, hb, hh, ht, hs⟩ := id hC
  have h300 := hI.1.2.1
  refine x_begin rfl rfl rfl (by decide) rfl ?_
  refine x_aload_n d_Cc_sell_0 rfl ?_
  refine x_getR hL.f0 rfl fs_Cc_10 d_Cc_sell_1 ?_
  refine x_getR hL.s1.f0 rfl fs_Cc_107 d_Cc_sell_4 ?_
  refine x_iload_n d_Cc_sell_7 rfl ?_
  refine x_v1p d_Cc_sell_8 ml_Cc_111 v_Of_placeOf rfl ⟨rfl, rfl⟩ hL.s1.s20.io (Nat.le_of_ble_eq_true rfl) (ct_Of_placeOf hL.s1.s20 hb.2.2.2.1) ?_
  rw [placeOf_EL h300]
  by_cases hk : keptI G.1 x
  · rw [if_pos hk, show spSell G x = (nI (oc G.1 (tN x) 1 * oc G.1 (tN x) 2 * ro G.1 (oc G.1 (tN x) 0 - 1) 3 / 2), actG G (sellS G.1 (tN x))) from if_pos hk]
    obtain ⟨hk0, hk2⟩ := hk
    obtain ⟨k, hk1, rfl⟩ := hasI_of (by omega) hk0
    rw [tN_nI (by omega)] at hk2 ⊢
    have hcl := cnt_le (kp G.1) k
    refine x_istore_n d_Cc_sell_11 (by decide) ?_
    refine x_iload_n d_Cc_sell_12 rfl ?_
    refine x_if_ge (tgt := 18) d_Cc_sell_13 (by decide) (fun c13 => ?_) (fun c13 => ?_)
    · refine x_aload_n d_Cc_sell_18 rfl ?_
      refine x_getR hL.f0 rfl fs_Cc_28 d_Cc_sell_19 ?_
      refine x_aload_n d_Cc_sell_22 rfl ?_
      refine x_getR hL.f0 rfl fs_Cc_10 d_Cc_sell_23 ?_
      refine x_v1v d_Cc_sell_26 ml_Cc_60 v_Hi_record rfl ⟨rfl, rfl⟩ hL.s193.io (Nat.le_of_ble_eq_true rfl) (ct_Hi_record hL.s193 hL.s1 (by omega) hh hI hb) (fun mem26 h26 => ?_)
      obtain ⟨F1, hh1⟩ := h26
      have hb1 := hC.book1 F1
      refine x_aload_n d_Cc_sell_29 rfl ?_
      refine x_getR hL.f0 rfl fs_Cc_10 d_Cc_sell_30 ?_
      refine x_iload_n d_Cc_sell_33 rfl ?_
      refine x_v1i d_Cc_sell_34 ml_Cc_116 v_Bk_sellAt rfl ⟨rfl, rfl⟩ hL.s1.io (Nat.le_of_ble_eq_true rfl) (ct_Bk_sellAt hL.s1 hI hb1 hk1 hk2) (fun r34 mem34 h34 => ?_)
      obtain ⟨F2, rfl, hb2⟩ := h34
      refine x_iret rfl rfl d_Cc_sell_37 (Nat.zero_le _) (Nat.zero_le _) ?_
      exact ⟨_, rfl, rfl, rfl, rfl, hC.acted F1 hh1 F2 (sellS_inv hI hk1 hk2) hb2⟩
    · exact absurd (nI_pos' (by omega)) c13
  · rw [if_neg hk, show spSell G x = (-1, G) from if_neg hk]
    refine x_istore_n d_Cc_sell_11 (by decide) ?_
    refine x_iload_n d_Cc_sell_12 rfl ?_
    refine x_if_ge (tgt := 18) d_Cc_sell_13 (by decide) (fun c13 => ?_) (fun c13 => ?_)
    · exact absurd c13 (by decide)
    · refine x_iconst (v := -1) d_Cc_sell_16 (by decide) ?_
      refine x_iret rfl rfl d_Cc_sell_17 (Nat.zero_le _) (Nat.zero_le _) ?_
      exact ⟨_, rfl, rfl, rfl, rfl, hC, Fr.rf⟩
theorem ct_Cc_clear (hL : LayCc sh κ) (hC : CR mem κ G) {r A : Int32} : Ct l g M_Cc_clear [rf g κ, .int r, .int A] none sh mem (Ri none sh (CP κ mem (spClear G r A))) := by
  obtain ⟨hI, hb, hh, ht, hs⟩ := id hC
  have h12 := hI.1.1
  have h300 := hI.1.2.1
  refine x_begin rfl rfl rfl (by decide) rfl ?_
  refine x_aload_n d_Cc_clear_0 rfl ?_
  refine x_getR hL.f0 rfl fs_Cc_10 d_Cc_clear_1 ?_
  refine x_getR hL.s1.f0 rfl fs_Cc_50 d_Cc_clear_4 ?_
  refine x_iload_n d_Cc_clear_7 rfl ?_
  refine x_v1p d_Cc_clear_8 ml_Cc_89 v_Ro_has rfl ⟨rfl, rfl⟩ hL.s1.s3.io (Nat.le_of_ble_eq_true rfl) (ct_Ro_has hL.s1.s3 hb.2.2.1.1 h12) ?_
  refine x_if_ne (tgt := 16) d_Cc_clear_11 (by decide) (fun c11 => ?_) (fun c11 => ?_)
  · have hr0 := bI_n.mp c11
    rw [show spClear G r A = if inI A 1 9999 then (if cnt (smK G.1 (tN r) (tN A)) (G.1 1) = 0 then (-5, G) else (nI (cnt (smK G.1 (tN r) (tN A)) (G.1 1)), actG G (clearS G.1 (tN r) (tN A)))) else (-2, G) from if_pos hr0]
    obtain ⟨r, hr, rfl⟩ := hasI_of (by omega) hr0
    rw [tN_nI (by omega)]
    refine x_iload_n d_Cc_clear_16 rfl ?_
    refine x_iconst (v := nI 1) d_Cc_clear_17 (by decide) ?_
    refine x_icmp_lt (tgt := 28) d_Cc_clear_18 (by decide) (fun c18 => ?_) (fun c18 => ?_)
    · rw [if_neg (rng_no (Or.inl c18))]
      refine x_bipush (v := -2) d_Cc_clear_28 (by decide) ?_
      refine x_iret rfl rfl d_Cc_clear_30 (Nat.zero_le _) (Nat.zero_le _) ?_
      exact ⟨_, rfl, rfl, rfl, rfl, hC, Fr.rf⟩
    · refine x_iload_n d_Cc_clear_21 rfl ?_
      refine x_sipush (v := nI 9999) d_Cc_clear_22 (by decide) ?_
      refine x_icmp_le (tgt := 31) d_Cc_clear_25 (by decide) (fun c25 => ?_) (fun c25 => ?_)
      · have hA : inI A 1 9999 := ⟨i_nlt.mp c18, c25⟩
        rw [if_pos hA]
        obtain ⟨A, hA, rfl⟩ := inI_of (by omega) (by omega) hA
        rw [tN_nI (by omega)]
        have hcl := cnt_le (smK G.1 r A) (G.1 1)
        refine x_aload_n d_Cc_clear_31 rfl ?_
        refine x_getR hL.f0 rfl fs_Cc_10 d_Cc_clear_32 ?_
        refine x_getR hL.s1.f0 rfl fs_Cc_107 d_Cc_clear_35 ?_
        refine x_iload_n d_Cc_clear_38 rfl ?_
        refine x_iload_n d_Cc_clear_39 rfl ?_
        refine x_v2p d_Cc_clear_40 ml_Cc_119 v_Of_smallOnes rfl ⟨rfl, rfl⟩ hL.s1.s20.io (Nat.le_of_ble_eq_true rfl) (ct_Of_smallOnes hL.s1.s20 hb.2.2.2.1) ?_
        rw [smallOnes_EL hI (by omega) (by omega) (fun i hi => by obtain ⟨⟨e1, e2, e3, e4⟩, -⟩ := hb.2.2.2.1.2.2.2.2 i hi; exact ⟨e2, mul_b e3 e4⟩)]
        refine x_if_ne (tgt := 49) d_Cc_clear_43 (by decide) (fun c43 => ?_) (fun c43 => ?_)
        · rw [if_neg (fun z => c43 (by rw [z]; rfl))]
          refine x_aload_n d_Cc_clear_49 rfl ?_
          refine x_getR hL.f0 rfl fs_Cc_28 d_Cc_clear_50 ?_
          refine x_aload_n d_Cc_clear_53 rfl ?_
          refine x_getR hL.f0 rfl fs_Cc_10 d_Cc_clear_54 ?_
          refine x_v1v d_Cc_clear_57 ml_Cc_60 v_Hi_record rfl ⟨rfl, rfl⟩ hL.s193.io (Nat.le_of_ble_eq_true rfl) (ct_Hi_record hL.s193 hL.s1 (by omega) hh hI hb) (fun mem57 h57 => ?_)
          obtain ⟨F1, hh1⟩ := h57
          have hb1 := hC.book1 F1
          refine x_aload_n d_Cc_clear_60 rfl ?_
          refine x_getR hL.f0 rfl fs_Cc_10 d_Cc_clear_61 ?_
          refine x_iload_n d_Cc_clear_64 rfl ?_
          refine x_iload_n d_Cc_clear_65 rfl ?_
          refine x_v2i d_Cc_clear_66 ml_Cc_123 v_Bk_throwSmallOnes rfl ⟨rfl, rfl⟩ hL.s1.io (Nat.le_of_ble_eq_true rfl) (ct_Bk_throwSmallOnes hL.s1 hI hb1 (by omega) (by omega)) (fun r66 mem66 h66 => ?_)
          obtain ⟨F2, rfl, hb2⟩ := h66
          refine x_iret rfl rfl d_Cc_clear_69 (Nat.zero_le _) (Nat.zero_le _) ?_
          exact ⟨_, rfl, rfl, rfl, rfl, hC.acted F1 hh1 F2 (clearS_inv hI hr) hb2⟩
        · rw [if_pos (nI_eq' (a := cnt (smK G.1 r A) (G.1 1)) (b := 0) (by omega) (by omega) c43)]
          refine x_bipush (v := -5) d_Cc_clear_46 (by decide) ?_
          refine x_iret rfl rfl d_Cc_clear_48 (Nat.zero_le _) (Nat.zero_le _) ?_
          exact ⟨_, rfl, rfl, rfl, rfl, hC, Fr.rf⟩
      · rw [if_neg (fun z => c25 z.2)]
        refine x_bipush (v := -2) d_Cc_clear_28 (by decide) ?_
        refine x_iret rfl rfl d_Cc_clear_30 (Nat.zero_le _) (Nat.zero_le _) ?_
        exact ⟨_, rfl, rfl, rfl, rfl, hC, Fr.rf⟩
  · rw [show spClear G r A = (-1, G) from if_neg (bI_0.mp c11)]
    refine x_iconst (v := -1) d_Cc_clear_14 (by decide) ?_
    refine x_iret rfl rfl d_Cc_clear_15 (Nat.zero_le _) (Nat.zero_le _) ?_
    exact ⟨_, rfl, rfl, rfl, rfl, hC, Fr.rf⟩
theorem ct_Cc_set (hL : LayCc sh κ) (hC : CR mem κ G) {k v : Int32} : Ct l g M_Cc_set [rf g κ, .int k, .int v] none sh mem (Ri none sh (CP κ mem (spSet G k v))) := by
  obtain ⟨hI, hb, hh, ht, hs⟩ := id hC
  obtain ⟨-, ⟨i4, ⟨i5, i6⟩, i7, ⟨i8, i9⟩, i10⟩, -⟩ := id hI
  have h99 : ∀ i, i < 5 → G.1 (4 + i) ≤ 99 := fun i hi => by
    rcases (show i = 0 ∨ i = 1 ∨ i = 2 ∨ i = 3 ∨ i = 4 by omega) with rfl | rfl | rfl | rfl | rfl
    · exact Nat.le_trans i4 (by omega)
    · exact Nat.le_trans i6 (by omega)
    · exact i7
    · exact Nat.le_trans i9 (by omega)
    · exact Nat.le_trans i10 (by omega)
  refine x_begin rfl rfl rfl (by decide) rfl ?_
  refine x_iload_n d_Cc_set_0 rfl ?_
  refine x_iload_n d_Cc_set_1 rfl ?_
  refine x_s2p d_Cc_set_2 ml_Cc_126 v_Cc_isSetting rfl ⟨rfl, rfl⟩ rfl (Nat.le_of_ble_eq_true rfl) (ct_Cc_isSetting) ?_
  refine x_if_ne (tgt := 11) d_Cc_set_5 (by decide) (fun c5 => ?_) (fun c5 => ?_)
  · have hv := bI_n.mp c5
    rw [show spSet G k v = if tN v = G.1 (4 + tN k) then (-5, G) else (nI (G.1 (4 + tN k)), actG G (un G.1 (4 + tN k) (tN v))) from if_pos hv]
    obtain ⟨k, v, hk, rfl, rfl, hv, hd⟩ := setI_of hv
    rw [tN_nI (by omega), tN_nI (by omega)]
    have h9 := h99 k hk
    refine x_aload_n d_Cc_set_11 rfl ?_
    refine x_getR hL.f0 rfl fs_Cc_10 d_Cc_set_12 ?_
    refine x_getR hL.s1.f0 rfl fs_Cc_130 d_Cc_set_15 ?_
    refine x_iload_n d_Cc_set_18 rfl ?_
    refine x_v1p d_Cc_set_19 ml_Cc_134 v_Rw_at rfl ⟨rfl, rfl⟩ (row_io hL.s1.f1) (Nat.le_of_ble_eq_true rfl) (ct_Rw_at hL.s1.f1 hL.s1.f2 (by omega)) ?_
    rw [hb.1 k hk]
    refine x_istore_n d_Cc_set_22 (by decide) ?_
    refine x_iload_n d_Cc_set_23 rfl ?_
    refine x_iload_n d_Cc_set_24 rfl ?_
    refine x_icmp_ne (tgt := 31) d_Cc_set_25 (by decide) (fun c25 => ?_) (fun c25 => ?_)
    · rw [if_neg (fun z => c25 (by rw [z]))]
      refine x_aload_n d_Cc_set_31 rfl ?_
      refine x_getR hL.f0 rfl fs_Cc_28 d_Cc_set_32 ?_
      refine x_aload_n d_Cc_set_35 rfl ?_
      refine x_getR hL.f0 rfl fs_Cc_10 d_Cc_set_36 ?_
      refine x_v1v d_Cc_set_39 ml_Cc_60 v_Hi_record rfl ⟨rfl, rfl⟩ hL.s193.io (Nat.le_of_ble_eq_true rfl) (ct_Hi_record hL.s193 hL.s1 (by omega) hh hI hb) (fun mem39 h39 => ?_)
      obtain ⟨F1, hh1⟩ := h39
      have hb1 := hC.book1 F1
      refine x_aload_n d_Cc_set_42 rfl ?_
      refine x_getR hL.f0 rfl fs_Cc_10 d_Cc_set_43 ?_
      refine x_getR hL.s1.f0 rfl fs_Cc_130 d_Cc_set_46 ?_
      refine x_iload_n d_Cc_set_49 rfl ?_
      refine x_iload_n d_Cc_set_50 rfl ?_
      refine x_v2v d_Cc_set_51 ml_Cc_139 v_Rw_put rfl ⟨rfl, rfl⟩ (row_io hL.s1.f1) (Nat.le_of_ble_eq_true rfl) (ct_Rw_put hL.s1.f1 hL.s1.f2 (by omega)) (fun _ hE => ?_)
      subst hE
      refine x_iload_n d_Cc_set_54 rfl ?_
      refine x_iret rfl rfl d_Cc_set_55 (Nat.zero_le _) (Nat.zero_le _) ?_
      exact ⟨_, rfl, rfl, rfl, rfl, hC.acted F1 hh1 (Fr.um (by omega) (by omega)) (setS_inv hI hd) (hb1.set hI hk)⟩
    · rw [if_pos (nI_eq' (by omega) (by omega) c25)]
      refine x_bipush (v := -5) d_Cc_set_28 (by decide) ?_
      refine x_iret rfl rfl d_Cc_set_30 (Nat.zero_le _) (Nat.zero_le _) ?_
      exact ⟨_, rfl, rfl, rfl, rfl, hC, Fr.rf⟩
  · rw [show spSet G k v = (-2, G) from if_neg (bI_0.mp c5)]
    refine x_bipush (v := -2) d_Cc_set_8 (by decide) ?_
    refine x_iret rfl rfl d_Cc_set_10 (Nat.zero_le _) (Nat.zero_le _) ?_
    exact ⟨_, rfl, rfl, rfl, rfl, hC, Fr.rf⟩
end
