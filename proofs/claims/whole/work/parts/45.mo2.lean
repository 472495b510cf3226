/-! the reference: rests, cutting, the offcut for a strip -/
def fitk (R : RS) (r w k j : Nat) : Bool := decide (oc R j 0 - 1 = r) && (decide (w ≤ oc R j 1) && decide (k ≤ oc R j 2))
def pfk (R : RS) (r w k : Nat) : Nat → Option Nat
  | 0 => none
  | j + 1 => if kp R j && fitk R r w k j then (match pfk R r w k j with
    | none => some j
    | some b => if oA R j < oA R b then some j else some b) else pfk R r w k j
theorem pfk_lt {R : RS} {r w k : Nat} : ∀ (j b : Nat), pfk R r w k j = some b → b < j ∧ kp R b = true
  | 0, b, h => by cases h
  | j + 1, b, h => by
    rw [pfk] at h
    split at h
    · rename_i hf
      have hk : kp R j = true := (Bool.and_eq_true_iff.mp hf).1
      split at h
      · cases h
        exact ⟨by omega, hk⟩
      · rename_i b0 hb0
        split at h
        · cases h
          exact ⟨by omega, hk⟩
        · cases h
          have := pfk_lt j b hb0
          exact ⟨by omega, this.2⟩
    · have := pfk_lt j b h
      exact ⟨by omega, this.2⟩
theorem eA_EL {R : RS} {k : Nat} (hk : k < R 1) (h : kp R k = true) : eA (EL R) (cnt (kp R) k) = oA R k := by
  obtain ⟨-, -, h3, h4⟩ := EL_e R hk h
  unfold eA oA
  rw [h3, h4]
theorem pfo_EL {R : RS} {r w k : Nat} : ∀ n, n ≤ R 1 → pfo (EL R) r w k (cnt (kp R) n) = (pfk R r w k n).map (cnt (kp R))
  | 0, _ => rfl
  | n + 1, hn => by
    have ih := pfo_EL (R := R) (r := r) (w := w) (k := k) n (by omega)
    by_cases hk : kp R n = true
    · obtain ⟨e1, e2, e3, e4⟩ := EL_e R (show n < R 1 by omega) hk
      have hfit : fit (EL R) r w k (cnt (kp R) n) = fitk R r w k n := by
        unfold fit fitk
        rw [e2, e3, e4]
      rw [cnt_t hk, pfo, pfk, ih, hfit, hk, Bool.true_and]
      by_cases hf : fitk R r w k n = true
      · rw [if_pos hf, if_pos hf]
        cases hb : pfk R r w k n with
        | none => rfl
        | some b =>
          obtain ⟨b1, b2⟩ := pfk_lt _ _ hb
          dsimp only [Option.map_some]
          rw [eA_EL (by omega) hk, eA_EL (by omega) b2]
          split <;> rfl
      · rw [if_neg hf, if_neg hf]
    · rw [cnt_f (by simpa using hk), ih, pfk, if_neg (by simp [hk])]
theorem takeS_k (R : RS) (r W w k i s : Nat) : takeS R r W w k i s = match pfk R r w k (R 1) with
    | some p => some (dropR (un R (1233 + 36 * i + s) p) p, oc R p 1, oc R p 2)
    | none => if ro R r 2 < k then none else some (un (un R (1233 + 36 * i + s) NONE32) (9 + 7 * r + 2) (ro R r 2 - k), W, k) := by
  unfold takeS
  have h := pfo_EL (R := R) (r := r) (w := w) (k := k) (R 1) (Nat.le_refl _)
  rw [show cnt (kp R) (R 1) = (EL R).length from (nK_cnt R).symm] at h
  rw [h]
  cases hp : pfk R r w k (R 1) with
  | none => rfl
  | some p =>
    obtain ⟨b1, b2⟩ := pfk_lt _ _ hp
    obtain ⟨e1, e2, e3, e4⟩ := EL_e R b1 b2
    dsimp only [Option.map_some]
    rw [e1, e3, e4]
/-- the reference's way to leave a rest -/
def restM (R : RS) (r a b : Nat) : Option RS := if a < R 5 ∨ b < R 5 then some (wasteR R r (a * b)) else if R 1 = 300 then none else some (addR R r a b)
theorem nK_waste {R : RS} {r x : Nat} (hr : r < 12) (h2 : R 1 ≤ 300) : nK (wasteR R r x) = nK R := by
  unfold nK
  rw [EL_waste hr h2]
theorem nK_add (R : RS) (r a b : Nat) : nK (addR R r a b) = nK R + 1 := by
  unfold nK
  rw [EL_add, List.length_append, List.length_singleton]
theorem restM_nK {R R' : RS} {r a b : Nat} (hr : r < 12) (h2 : R 1 ≤ 300) (h : restM R r a b = some R') : nK R ≤ nK R' ∧ R' 1 ≤ 300 := by
  unfold restM at h
  split at h
  · cases h
    rw [nK_waste hr h2]
    exact ⟨Nat.le_refl _, by unfold wasteR; rw [un_ne _ _ (by omega)]; exact h2⟩
  · split at h
    · cases h
    · cases h
      rw [nK_add]
      exact ⟨by omega, by rw [show addR R r a b 1 = R 1 + 1 from un_at _ _ _]; omega⟩
/-- the two ways agree while there is room, and where there is none the reference sees it at the end -/
theorem restS_M {R : RS} {r a b : Nat} (hr : r < 12) (h2 : R 1 ≤ 300) (h60 : nK R ≤ 60) : restS R r a b = (restM R r a b).bind (fun R' => if nK R' ≤ 60 then some R' else none) := by
  unfold restS restM
  by_cases h : a < R 5 ∨ b < R 5
  · rw [if_pos h, if_pos h, Option.bind_some, nK_waste hr h2, if_pos h60]
  · rw [if_neg h, if_neg h]
    by_cases h3 : R 1 = 300
    · rw [if_pos h3, if_pos (by omega)]
      rfl
    · rw [if_neg h3, Option.bind_some, nK_add]
      by_cases h4 : 60 ≤ nK R
      · rw [if_pos (by omega), if_neg (by omega)]
      · rw [if_neg (by omega), if_pos (by omega)]
section
variable {l : Launch} {g : XG} {sh : Nat → Sh} {mem : Mem} {μ : Nat} {R : RS}
theorem ct_Mo_rest (hM : LayMo sh μ) (hn : NowR mem (μ + 1) R) (h300 : R 1 ≤ 300) (hR5 : R 5 ≤ 20) {r a b : Nat} (hr : r < 12) (ha : a ≤ 60) (hb : b ≤ 60) : Ct l g M_Mo_rest [rf g μ, .int (nI r), .int (nI a), .int (nI b)] none sh mem (Ri none sh (fun x m => F1 μ mem m ∧ ((restM R r a b = none ∧ x = nI 0) ∨ ∃ R', restM R r a b = some R' ∧ x = nI 1 ∧ NowR m (μ + 1) R'))) := by
  refine x_begin rfl rfl rfl (by decide) rfl ?_
  refine x_iload_n d_Mo_rest_0 rfl ?_
  refine x_aload_n d_Mo_rest_1 rfl ?_
  refine x_getR hM.f0 rfl fs_Mo_7 d_Mo_rest_2 ?_
  refine x_iconst (v := nI 5) d_Mo_rest_5 (by decide) ?_
  refine x_iald hM.f1 (vp_in_nI (by omega) (by omega)) d_Mo_rest_6 ?_
  rw [nI_clamp (by omega), hn _ (by omega)]
  refine x_icmp_lt (tgt := 20) d_Mo_rest_7 (by decide) (fun c7 => ?_) (fun c7 => ?_)
  · have c7 := nI_lt' (by omega) (by omega) c7
    have hrs : restM R r a b = some (wasteR R r (a * b)) := if_pos (Or.inl c7)
    refine x_aload_n d_Mo_rest_20 rfl ?_
    refine x_iload_n d_Mo_rest_21 rfl ?_
    refine x_iconst (v := nI 5) d_Mo_rest_22 (by decide) ?_
    refine x_iload_n d_Mo_rest_23 rfl ?_
    refine x_iload_n d_Mo_rest_24 rfl ?_
    refine x_imul d_Mo_rest_25 ?_
    rw [pk_mul]
    refine x_v3v d_Mo_rest_26 ml_Mo_50 v_Mo_add rfl ⟨rfl, rfl⟩ hM.io (Nat.le_of_ble_eq_true rfl) (ct_Mo_add hM hn hr (by omega)) (fun _ hE => ?_)
    subst hE
    refine x_iconst (v := nI 1) d_Mo_rest_29 (by decide) ?_
    refine x_iret rfl (by decide) d_Mo_rest_30 (Nat.zero_le _) (Nat.zero_le _) ?_
    exact ⟨_, rfl, rfl, rfl, F1.um, Or.inr ⟨_, hrs, rfl, hn.up (nI_add _ _)⟩⟩
  · have c7 := nI_nlt' (by omega) (by omega) c7
    refine x_iload_n d_Mo_rest_10 rfl ?_
    refine x_aload_n d_Mo_rest_11 rfl ?_
    refine x_getR hM.f0 rfl fs_Mo_7 d_Mo_rest_12 ?_
    refine x_iconst (v := nI 5) d_Mo_rest_15 (by decide) ?_
    refine x_iald hM.f1 (vp_in_nI (by omega) (by omega)) d_Mo_rest_16 ?_
    rw [nI_clamp (by omega), hn _ (by omega)]
    refine x_icmp_ge (tgt := 31) d_Mo_rest_17 (by decide) (fun c17 => ?_) (fun c17 => ?_)
    · have c17 := nI_le' (by omega) (by omega) c17
      have hrs : restM R r a b = if R 1 = 300 then none else some (addR R r a b) := if_neg (by omega)
      refine x_aload_n d_Mo_rest_31 rfl ?_
      refine x_getR hM.f0 rfl fs_Mo_7 d_Mo_rest_32 ?_
      refine x_iconst (v := nI 1) d_Mo_rest_35 (by decide) ?_
      refine x_iald hM.f1 (vp_in_nI (by omega) (by omega)) d_Mo_rest_36 ?_
      rw [nI_clamp (by omega), hn _ (by omega)]
      refine x_sipush (v := nI 300) d_Mo_rest_37 (by decide) ?_
      refine x_icmp_ne (tgt := 45) d_Mo_rest_40 (by decide) (fun c40 => ?_) (fun c40 => ?_)
      · have c40 := nI_ne' c40
        rw [if_neg c40] at hrs
        refine x_aload_n d_Mo_rest_45 rfl ?_
        refine x_iload_n d_Mo_rest_46 rfl ?_
        refine x_iload_n d_Mo_rest_47 rfl ?_
        refine x_iload_n d_Mo_rest_48 rfl ?_
        refine x_v3v d_Mo_rest_49 ml_Mo_54 v_Mo_addOffcut rfl ⟨rfl, rfl⟩ hM.io (Nat.le_of_ble_eq_true rfl) (ct_Mo_addOffcut hM hn (by omega)) (fun mem49 h49 => ?_)
        refine x_iconst (v := nI 1) d_Mo_rest_52 (by decide) ?_
        refine x_iret rfl (by decide) d_Mo_rest_53 (Nat.zero_le _) (Nat.zero_le _) ?_
        exact ⟨_, rfl, rfl, rfl, h49.2, Or.inr ⟨_, hrs, rfl, h49.1⟩⟩
      · have c40 := nI_eq' (by omega) (by omega) c40
        rw [if_pos c40] at hrs
        refine x_iconst (v := nI 0) d_Mo_rest_43 (by decide) ?_
        refine x_iret rfl (by decide) d_Mo_rest_44 (Nat.zero_le _) (Nat.zero_le _) ?_
        exact ⟨_, rfl, rfl, rfl, F1.rf, Or.inl ⟨hrs, rfl⟩⟩
    · have c17 : b < R 5 := nI_nle' (by omega) (by omega) c17
      have hrs : restM R r a b = some (wasteR R r (a * b)) := if_pos (Or.inr c17)
      refine x_aload_n d_Mo_rest_20 rfl ?_
      refine x_iload_n d_Mo_rest_21 rfl ?_
      refine x_iconst (v := nI 5) d_Mo_rest_22 (by decide) ?_
      refine x_iload_n d_Mo_rest_23 rfl ?_
      refine x_iload_n d_Mo_rest_24 rfl ?_
      refine x_imul d_Mo_rest_25 ?_
      rw [pk_mul]
      refine x_v3v d_Mo_rest_26 ml_Mo_50 v_Mo_add rfl ⟨rfl, rfl⟩ hM.io (Nat.le_of_ble_eq_true rfl) (ct_Mo_add hM hn hr (by omega)) (fun _ hE => ?_)
      subst hE
      refine x_iconst (v := nI 1) d_Mo_rest_29 (by decide) ?_
      refine x_iret rfl (by decide) d_Mo_rest_30 (Nat.zero_le _) (Nat.zero_le _) ?_
      exact ⟨_, rfl, rfl, rfl, F1.um, Or.inr ⟨_, hrs, rfl, hn.up (nI_add _ _)⟩⟩
theorem ct_Mo_offcutFor (hM : LayMo sh μ) (hn : NowR mem (μ + 1) R) (hO : OffOk R) (h12 : R 0 ≤ 12) {r w k : Nat} (hr : r < 12) (hw : w ≤ 60) (hk : k ≤ 60) : Ct l g M_Mo_offcutFor [rf g μ, .int (nI r), .int (nI w), .int (nI k)] none sh mem (Pq (.int (oI (pfk R r w k (R 1)))) none sh mem) := by
  have h300 := hO.1
  have hroc : ∀ j, j < R 1 → oc R j 0 < 2 ^ 31 := fun j hj => by
    by_cases h : kp R j = true
    · have := (hO.2 j hj h).1; omega
    · have : ¬ 0 < oc R j 0 := fun z => h (decide_eq_true z)
      omega
  refine x_begin rfl rfl rfl (by decide) rfl ?_
  refine x_bipush (v := -5) d_Mo_offcutFor_0 (by decide) ?_
  refine x_istore d_Mo_offcutFor_2 (by decide) ?_
  refine x_iconst (v := nI 0) d_Mo_offcutFor_4 (by decide) ?_
  refine x_istore d_Mo_offcutFor_5 (by decide) ?_
  refine up_ind (R 1) (P := fun j => ∀ (u6 : Option Value), X l g M_Mo_offcutFor (XF g (Pq (.int (oI (pfk R r w k (R 1)))) none sh mem) M_Mo_offcutFor) 7 [some (rf g μ), some (.int (nI r)), some (.int (nI w)), some (.int (nI k)), some (.int (oI (pfk R r w k j))), some (.int (nI j)), u6] [] none sh mem 0 0) (fun j hj ih u6 => ?_) 0 (Nat.zero_le _) _
  refine x_iload d_Mo_offcutFor_7 rfl ?_
  refine x_aload_n d_Mo_offcutFor_9 rfl ?_
  refine x_getR hM.f0 rfl fs_Mo_7 d_Mo_offcutFor_10 ?_
  refine x_iconst (v := nI 1) d_Mo_offcutFor_13 (by decide) ?_
  refine x_iald hM.f1 (vp_in_nI (by omega) (by omega)) d_Mo_offcutFor_14 ?_
  rw [nI_clamp (by omega), hn _ (by omega)]
  refine x_icmp_ge (tgt := 101) d_Mo_offcutFor_15 (by decide) (fun c15 => ?_) (fun c15 => ?_)
  · have hj2 : j = R 1 := by have := nI_le' (by omega) (by omega) c15; omega
    rw [hj2]
    refine x_iload d_Mo_offcutFor_101 rfl ?_
    refine x_iret rfl rfl d_Mo_offcutFor_103 (Nat.zero_le _) (Nat.zero_le _) ?_
    exact ⟨rfl, rfl, rfl, rfl⟩
  · have hj3 := nI_nle' (by omega) (by omega) c15
    have h9 := ih hj3
    refine x_aload_n d_Mo_offcutFor_18 rfl ?_
    refine x_iload d_Mo_offcutFor_19 rfl ?_
    refine x_v1p d_Mo_offcutFor_21 ml_Mo_46 v_Mo_isKept rfl ⟨rfl, rfl⟩ hM.io (Nat.le_of_ble_eq_true rfl) (ct_Mo_isKept hM hn h300 hroc) ?_
    refine x_if_eq (tgt := 61) d_Mo_offcutFor_24 (by decide) (fun c24 => ?_) (fun c24 => ?_)
    · have hkp : ¬ kp R j = true := fun z => bI_0.mp c24 ⟨hasI_nI (by omega) hj3, by rw [tN_nI (by omega)]; exact z⟩
      rw [pfk, if_neg (by simp [hkp])] at h9
      refine x_iconst (v := nI 0) d_Mo_offcutFor_61 (by decide) ?_
      refine x_istore d_Mo_offcutFor_62 (by decide) ?_
      refine x_iload d_Mo_offcutFor_64 rfl ?_
      refine x_if_eq (tgt := 95) d_Mo_offcutFor_66 (by decide) (fun c66 => ?_) (fun c66 => ?_)
      · refine x_iinc d_Mo_offcutFor_95 rfl (by first | exact inc1 _ | rfl) (by decide) ?_
        refine x_goto (tgt := 7) d_Mo_offcutFor_98 (by decide) ?_
        exact h9 _
      · exact absurd rfl c66
    · have hkp : kp R j = true := by
        have h := (bI_n.mp c24).2
        rw [tN_nI (by omega)] at h
        exact h
      obtain ⟨o1, o2, o3⟩ := hO.2 j hj3 hkp
      refine x_aload_n d_Mo_offcutFor_27 rfl ?_
      refine x_iload d_Mo_offcutFor_28 rfl ?_
      refine x_v1p d_Mo_offcutFor_30 ml_Mo_68 v_Mo_rollOfOffcut rfl ⟨rfl, rfl⟩ hM.io (Nat.le_of_ble_eq_true rfl) (ct_Mo_rollOfOffcut hM hn (by omega) hkp) ?_
      refine x_iload_n d_Mo_offcutFor_33 rfl ?_
      refine x_icmp_ne (tgt := 61) d_Mo_offcutFor_34 (by decide) (fun c34 => ?_) (fun c34 => ?_)
      · have hne := nI_ne' c34
        rw [pfk, if_neg (by simp [fitk, hne])] at h9
        refine x_iconst (v := nI 0) d_Mo_offcutFor_61 (by decide) ?_
        refine x_istore d_Mo_offcutFor_62 (by decide) ?_
        refine x_iload d_Mo_offcutFor_64 rfl ?_
        refine x_if_eq (tgt := 95) d_Mo_offcutFor_66 (by decide) (fun c66 => ?_) (fun c66 => ?_)
        · refine x_iinc d_Mo_offcutFor_95 rfl (by first | exact inc1 _ | rfl) (by decide) ?_
          refine x_goto (tgt := 7) d_Mo_offcutFor_98 (by decide) ?_
          exact h9 _
        · exact absurd rfl c66
      · have c34 := nI_eq' (by omega) (by omega) c34
        refine x_aload_n d_Mo_offcutFor_37 rfl ?_
        refine x_iload d_Mo_offcutFor_38 rfl ?_
        refine x_v1p d_Mo_offcutFor_40 ml_Mo_39 v_Mo_widthOf rfl ⟨rfl, rfl⟩ hM.io (Nat.le_of_ble_eq_true rfl) (ct_Mo_widthOf hM hn (by omega)) ?_
        refine x_iload_n d_Mo_offcutFor_43 rfl ?_
        refine x_icmp_lt (tgt := 61) d_Mo_offcutFor_44 (by decide) (fun c44 => ?_) (fun c44 => ?_)
        · have c44 := nI_lt' (by omega) (by omega) c44
          rw [pfk, if_neg (by simp [fitk]; omega)] at h9
          refine x_iconst (v := nI 0) d_Mo_offcutFor_61 (by decide) ?_
          refine x_istore d_Mo_offcutFor_62 (by decide) ?_
          refine x_iload d_Mo_offcutFor_64 rfl ?_
          refine x_if_eq (tgt := 95) d_Mo_offcutFor_66 (by decide) (fun c66 => ?_) (fun c66 => ?_)
          · refine x_iinc d_Mo_offcutFor_95 rfl (by first | exact inc1 _ | rfl) (by decide) ?_
            refine x_goto (tgt := 7) d_Mo_offcutFor_98 (by decide) ?_
            exact h9 _
          · exact absurd rfl c66
        · have c44 := nI_nlt' (by omega) (by omega) c44
          refine x_aload_n d_Mo_offcutFor_47 rfl ?_
          refine x_iload d_Mo_offcutFor_48 rfl ?_
          refine x_v1p d_Mo_offcutFor_50 ml_Mo_43 v_Mo_lengthOf rfl ⟨rfl, rfl⟩ hM.io (Nat.le_of_ble_eq_true rfl) (ct_Mo_lengthOf hM hn (by omega)) ?_
          refine x_iload_n d_Mo_offcutFor_53 rfl ?_
          refine x_icmp_lt (tgt := 61) d_Mo_offcutFor_54 (by decide) (fun c54 => ?_) (fun c54 => ?_)
          · have c54 := nI_lt' (by omega) (by omega) c54
            rw [pfk, if_neg (by simp [fitk]; omega)] at h9
            refine x_iconst (v := nI 0) d_Mo_offcutFor_61 (by decide) ?_
            refine x_istore d_Mo_offcutFor_62 (by decide) ?_
            refine x_iload d_Mo_offcutFor_64 rfl ?_
            refine x_if_eq (tgt := 95) d_Mo_offcutFor_66 (by decide) (fun c66 => ?_) (fun c66 => ?_)
            · refine x_iinc d_Mo_offcutFor_95 rfl (by first | exact inc1 _ | rfl) (by decide) ?_
              refine x_goto (tgt := 7) d_Mo_offcutFor_98 (by decide) ?_
              exact h9 _
            · exact absurd rfl c66
          · have c54 := nI_nlt' (by omega) (by omega) c54
            rw [pfk, if_pos (show (kp R j && fitk R r w k j) = true by simp [fitk, hkp, c34, c44, c54])] at h9
            cases hq : pfk R r w k j with
            | none =>
              rw [hq] at h9
              refine x_iconst (v := nI 1) d_Mo_offcutFor_57 (by decide) ?_
              refine x_goto (tgt := 62) d_Mo_offcutFor_58 (by decide) ?_
              refine x_istore d_Mo_offcutFor_62 (by decide) ?_
              refine x_iload d_Mo_offcutFor_64 rfl ?_
              refine x_if_eq (tgt := 95) d_Mo_offcutFor_66 (by decide) (fun c66 => ?_) (fun c66 => ?_)
              · exact absurd c66 (by decide)
              · refine x_iload d_Mo_offcutFor_69 rfl ?_
                refine x_bipush (v := -5) d_Mo_offcutFor_71 (by decide) ?_
                refine x_icmp_eq (tgt := 91) d_Mo_offcutFor_73 (by decide) (fun c73 => ?_) (fun c73 => ?_)
                · refine x_iload d_Mo_offcutFor_91 rfl ?_
                  refine x_istore d_Mo_offcutFor_93 (by decide) ?_
                  refine x_iinc d_Mo_offcutFor_95 rfl (by first | exact inc1 _ | rfl) (by decide) ?_
                  refine x_goto (tgt := 7) d_Mo_offcutFor_98 (by decide) ?_
                  exact h9 _
                · exact absurd rfl c73
            | some b =>
              rw [hq] at h9
              obtain ⟨hbj, hbk⟩ := pfk_lt j b hq
              obtain ⟨p1, p2, p3⟩ := hO.2 b (by omega) hbk
              have hA1 : oA R j ≤ 3600 := mul_b o2 o3
              have hA2 : oA R b ≤ 3600 := mul_b p2 p3
              refine x_iconst (v := nI 1) d_Mo_offcutFor_57 (by decide) ?_
              refine x_goto (tgt := 62) d_Mo_offcutFor_58 (by decide) ?_
              refine x_istore d_Mo_offcutFor_62 (by decide) ?_
              refine x_iload d_Mo_offcutFor_64 rfl ?_
              refine x_if_eq (tgt := 95) d_Mo_offcutFor_66 (by decide) (fun c66 => ?_) (fun c66 => ?_)
              · exact absurd c66 (by decide)
              · refine x_iload d_Mo_offcutFor_69 rfl ?_
                refine x_bipush (v := -5) d_Mo_offcutFor_71 (by decide) ?_
                refine x_icmp_eq (tgt := 91) d_Mo_offcutFor_73 (by decide) (fun c73 => ?_) (fun c73 => ?_)
                · exact absurd (show oI (some b) < 0 by rw [c73]; decide) (oI_neg (by omega))
                · refine x_aload_n d_Mo_offcutFor_76 rfl ?_
                  refine x_iload d_Mo_offcutFor_77 rfl ?_
                  refine x_v1p d_Mo_offcutFor_79 ml_Mo_71 v_Mo_areaOf rfl ⟨rfl, rfl⟩ hM.io (Nat.le_of_ble_eq_true rfl) (ct_Mo_areaOf hM hn (by omega)) ?_
                  refine x_aload_n d_Mo_offcutFor_82 rfl ?_
                  refine x_iload d_Mo_offcutFor_83 rfl ?_
                  refine x_v1p d_Mo_offcutFor_85 ml_Mo_71 v_Mo_areaOf rfl ⟨rfl, rfl⟩ hM.io (Nat.le_of_ble_eq_true rfl) (ct_Mo_areaOf hM hn (k := b) (by omega)) ?_
                  refine x_icmp_ge (tgt := 95) d_Mo_offcutFor_88 (by decide) (fun c88 => ?_) (fun c88 => ?_)
                  · have c88 := nI_le' (by omega) (by omega) c88
                    dsimp only at h9
                    rw [if_neg (by omega)] at h9
                    refine x_iinc d_Mo_offcutFor_95 rfl (by first | exact inc1 _ | rfl) (by decide) ?_
                    refine x_goto (tgt := 7) d_Mo_offcutFor_98 (by decide) ?_
                    exact h9 _
                  · have c88 := nI_nle' (by omega) (by omega) c88
                    dsimp only at h9
                    rw [if_pos c88] at h9
                    refine x_iload d_Mo_offcutFor_91 rfl ?_
                    refine x_istore d_Mo_offcutFor_93 (by decide) ?_
                    refine x_iinc d_Mo_offcutFor_95 rfl (by first | exact inc1 _ | rfl) (by decide) ?_
                    refine x_goto (tgt := 7) d_Mo_offcutFor_98 (by decide) ?_
                    exact h9 _
end
