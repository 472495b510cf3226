/-! the reference: small methods -/
theorem NowR.up {mem : Mem} {a j x : Nat} {R : RS} {v : Int32} (h : NowR mem a R) (hv : v = nI x) : NowR (um mem a j v) a (un R j x) := fun i hi => by
  by_cases hij : i = j
  · rw [hij, um_eq, un_at, hv]
  · rw [um_k _ _ hij, un_ne _ _ hij]
    exact h i hi
def F1 (μ : Nat) (mem m : Mem) : Prop := ∀ o, o ≠ μ + 1 → m o = mem o
theorem F1.rf {μ : Nat} {mem : Mem} : F1 μ mem mem := fun _ _ => rfl
theorem F1.tr {μ : Nat} {m1 m2 m3 : Mem} (h : F1 μ m1 m2) (k : F1 μ m2 m3) : F1 μ m1 m3 := fun o ho => (k o ho).trans (h o ho)
theorem F1.um {μ k : Nat} {m : Mem} {x : Int32} : F1 μ m (um m (μ + 1) k x) := fun o ho => um_ne m k x ho
theorem in_has {x : Int32} {n : Nat} (hn : n < 2 ^ 30) : (nI 0 ≤ x ∧ x ≤ nI n - nI 1) ↔ hasI x n := by
  by_cases h0 : n = 0
  · subst h0
    constructor
    · intro h
      exact absurd (Int32.le_trans h.1 h.2) (by decide)
    · intro h
      exact absurd h.2 (fun z => h.1 z)
  · rw [pk_sub (by omega)]
    constructor
    · intro h
      obtain ⟨i, h1, rfl⟩ := inI_of (by omega) (by omega) h
      exact hasI_nI (by omega) (by omega)
    · intro h
      obtain ⟨i, h1, rfl⟩ := hasI_of (by omega) h
      exact ⟨nI_le (Nat.zero_le _) (by omega), nI_le (by omega) (by omega)⟩
section
variable {l : Launch} {g : XG} {sh : Nat → Sh} {mem : Mem} {μ : Nat} {R : RS}
theorem ct_Mo_in {x a b : Int32} : Ct l g M_Mo_in [.int x, .int a, .int b] none sh mem (Pq (.int (bI (a ≤ x ∧ x ≤ b))) none sh mem) := by
  refine x_begin rfl rfl rfl (by decide) rfl ?_
  refine x_iload_n d_Mo_in_0 rfl ?_
  refine x_iload_n d_Mo_in_1 rfl ?_
  refine x_icmp_lt (tgt := 14) d_Mo_in_2 (by decide) (fun c2 => ?_) (fun c2 => ?_)
  · rw [bI_f (fun z => i_nle.mpr c2 z.1)]
    refine x_iconst (v := nI 0) d_Mo_in_14 (by decide) ?_
    refine x_iret rfl (by decide) d_Mo_in_15 (Nat.zero_le _) (Nat.zero_le _) ?_
    exact ⟨rfl, rfl, rfl, rfl⟩
  · refine x_iload_n d_Mo_in_5 rfl ?_
    refine x_iload_n d_Mo_in_6 rfl ?_
    refine x_icmp_gt (tgt := 14) d_Mo_in_7 (by decide) (fun c7 => ?_) (fun c7 => ?_)
    · rw [bI_f (fun z => i_nle.mpr c7 z.2)]
      refine x_iconst (v := nI 0) d_Mo_in_14 (by decide) ?_
      refine x_iret rfl (by decide) d_Mo_in_15 (Nat.zero_le _) (Nat.zero_le _) ?_
      exact ⟨rfl, rfl, rfl, rfl⟩
    · rw [bI_t ⟨i_nlt.mp c2, i_nlt.mp c7⟩]
      refine x_iconst (v := nI 1) d_Mo_in_10 (by decide) ?_
      refine x_goto (tgt := 15) d_Mo_in_11 (by decide) ?_
      refine x_iret rfl (by decide) d_Mo_in_15 (Nat.zero_le _) (Nat.zero_le _) ?_
      exact ⟨rfl, rfl, rfl, rfl⟩
theorem ct_Mo_of (hM : LayMo sh μ) (hn : NowR mem (μ + 1) R) {r f : Nat} (hr : r < 12) (hf : f < 7) : Ct l g M_Mo_of [rf g μ, .int (nI r), .int (nI f)] none sh mem (Pq (.int (nI (ro R r f))) none sh mem) := by
  refine x_begin rfl rfl rfl (by decide) rfl ?_
  refine x_aload_n d_Mo_of_0 rfl ?_
  refine x_getR hM.f0 rfl fs_Mo_7 d_Mo_of_1 ?_
  refine x_bipush (v := nI 9) d_Mo_of_4 (by decide) ?_
  refine x_bipush (v := nI 7) d_Mo_of_6 (by decide) ?_
  refine x_iload_n d_Mo_of_8 rfl ?_
  refine x_imul d_Mo_of_9 ?_
  rw [pk_mul]
  refine x_iadd d_Mo_of_10 ?_
  rw [nI_add]
  refine x_iload_n d_Mo_of_11 rfl ?_
  refine x_iadd d_Mo_of_12 ?_
  rw [nI_add]
  refine x_iald hM.f1 (vp_in_nI (by omega) (by omega)) d_Mo_of_13 ?_
  rw [nI_clamp (by omega), hn _ (by omega)]
  refine x_iret rfl rfl d_Mo_of_14 (Nat.zero_le _) (Nat.zero_le _) ?_
  exact ⟨rfl, rfl, rfl, rfl⟩
theorem ct_Mo_add (hM : LayMo sh μ) (hn : NowR mem (μ + 1) R) {r f : Nat} {v : Int32} (hr : r < 12) (hf : f < 7) : Ct l g M_Mo_add [rf g μ, .int (nI r), .int (nI f), .int v] none sh mem (Rv none sh (fun m => m = um mem (μ + 1) (9 + 7 * r + f) (nI (ro R r f) + v))) := by
  refine x_begin rfl rfl rfl (by decide) rfl ?_
  refine x_aload_n d_Mo_add_0 rfl ?_
  refine x_getR hM.f0 rfl fs_Mo_7 d_Mo_add_1 ?_
  refine x_bipush (v := nI 9) d_Mo_add_4 (by decide) ?_
  refine x_bipush (v := nI 7) d_Mo_add_6 (by decide) ?_
  refine x_iload_n d_Mo_add_8 rfl ?_
  refine x_imul d_Mo_add_9 ?_
  rw [pk_mul]
  refine x_iadd d_Mo_add_10 ?_
  rw [nI_add]
  refine x_iload_n d_Mo_add_11 rfl ?_
  refine x_iadd d_Mo_add_12 ?_
  rw [nI_add]
  refine x_dup2 d_Mo_add_13 rfl rfl ?_
  refine x_iald hM.f1 (vp_in_nI (by omega) (by omega)) d_Mo_add_14 ?_
  rw [nI_clamp (by omega), hn _ (by omega)]
  refine x_iload_n d_Mo_add_15 rfl ?_
  refine x_iadd d_Mo_add_16 ?_
  refine x_iast hM.f1 (vp_in_nI (by omega) (by omega)) d_Mo_add_17 ?_
  rw [nI_clamp (by omega)]
  refine x_vret rfl d_Mo_add_18 (Nat.zero_le _) (Nat.zero_le _) ?_
  exact ⟨rfl, rfl, rfl, rfl⟩
theorem ct_Mo_at (hM : LayMo sh μ) (hn : NowR mem (μ + 1) R) {i w : Nat} (hi : i < 20) (hw : w < 12) : Ct l g M_Mo_at [rf g μ, .int (nI i), .int (nI w)] none sh mem (Pq (.int (nI (rq R i w))) none sh mem) := by
  rw [rq_w hw]
  refine x_begin rfl rfl rfl (by decide) rfl ?_
  refine x_aload_n d_Mo_at_0 rfl ?_
  refine x_getR hM.f0 rfl fs_Mo_7 d_Mo_at_1 ?_
  refine x_sipush (v := nI 993) d_Mo_at_4 (by decide) ?_
  refine x_bipush (v := nI 12) d_Mo_at_7 (by decide) ?_
  refine x_iload_n d_Mo_at_9 rfl ?_
  refine x_imul d_Mo_at_10 ?_
  rw [pk_mul]
  refine x_iadd d_Mo_at_11 ?_
  rw [nI_add]
  refine x_iload_n d_Mo_at_12 rfl ?_
  refine x_iadd d_Mo_at_13 ?_
  rw [nI_add]
  refine x_iald hM.f1 (vp_in_nI (by omega) (by omega)) d_Mo_at_14 ?_
  rw [nI_clamp (by omega), hn _ (by omega)]
  refine x_iret rfl rfl d_Mo_at_15 (Nat.zero_le _) (Nat.zero_le _) ?_
  exact ⟨rfl, rfl, rfl, rfl⟩
theorem ct_Mo_put (hM : LayMo sh μ) {i w : Nat} {v : Int32} (hi : i < 20) (hw : w < 12) : Ct l g M_Mo_put [rf g μ, .int (nI i), .int (nI w), .int v] none sh mem (Rv none sh (fun m => m = um mem (μ + 1) (993 + 12 * i + w) v)) := by
  refine x_begin rfl rfl rfl (by decide) rfl ?_
  refine x_aload_n d_Mo_put_0 rfl ?_
  refine x_getR hM.f0 rfl fs_Mo_7 d_Mo_put_1 ?_
  refine x_sipush (v := nI 993) d_Mo_put_4 (by decide) ?_
  refine x_bipush (v := nI 12) d_Mo_put_7 (by decide) ?_
  refine x_iload_n d_Mo_put_9 rfl ?_
  refine x_imul d_Mo_put_10 ?_
  rw [pk_mul]
  refine x_iadd d_Mo_put_11 ?_
  rw [nI_add]
  refine x_iload_n d_Mo_put_12 rfl ?_
  refine x_iadd d_Mo_put_13 ?_
  rw [nI_add]
  refine x_iload_n d_Mo_put_14 rfl ?_
  refine x_iast hM.f1 (vp_in_nI (by omega) (by omega)) d_Mo_put_15 ?_
  rw [nI_clamp (by omega)]
  refine x_vret rfl d_Mo_put_16 (Nat.zero_le _) (Nat.zero_le _) ?_
  exact ⟨rfl, rfl, rfl, rfl⟩
theorem ct_Mo_isRoll (hM : LayMo sh μ) (hn : NowR mem (μ + 1) R) (h12 : R 0 ≤ 12) {x : Int32} : Ct l g M_Mo_isRoll [rf g μ, .int x] none sh mem (Pq (.int (bI (hasI x (R 0)))) none sh mem) := by
  refine x_begin rfl rfl rfl (by decide) rfl ?_
  refine x_iload_n d_Mo_isRoll_0 rfl ?_
  refine x_iconst (v := nI 0) d_Mo_isRoll_1 (by decide) ?_
  refine x_aload_n d_Mo_isRoll_2 rfl ?_
  refine x_getR hM.f0 rfl fs_Mo_7 d_Mo_isRoll_3 ?_
  refine x_iconst (v := nI 0) d_Mo_isRoll_6 (by decide) ?_
  refine x_iald hM.f1 (vp_in_nI (by omega) (by omega)) d_Mo_isRoll_7 ?_
  rw [nI_clamp (by omega), hn _ (by omega)]
  refine x_iconst (v := nI 1) d_Mo_isRoll_8 (by decide) ?_
  refine x_isub d_Mo_isRoll_9 ?_
  refine x_s3p d_Mo_isRoll_10 ml_Mo_35 v_Mo_in rfl ⟨rfl, rfl⟩ rfl (Nat.le_of_ble_eq_true rfl) (ct_Mo_in) ?_
  rw [bI_c (in_has (by omega))]
  refine x_iret rfl bI_nar d_Mo_isRoll_13 (Nat.zero_le _) (Nat.zero_le _) ?_
  exact ⟨rfl, rfl, rfl, rfl⟩
theorem ct_Mo_isRoom (hM : LayMo sh μ) (hn : NowR mem (μ + 1) R) (h20 : R 2 ≤ 20) {x : Int32} : Ct l g M_Mo_isRoom [rf g μ, .int x] none sh mem (Pq (.int (bI (hasI x (R 2)))) none sh mem) := by
  refine x_begin rfl rfl rfl (by decide) rfl ?_
  refine x_iload_n d_Mo_isRoom_0 rfl ?_
  refine x_iconst (v := nI 0) d_Mo_isRoom_1 (by decide) ?_
  refine x_aload_n d_Mo_isRoom_2 rfl ?_
  refine x_getR hM.f0 rfl fs_Mo_7 d_Mo_isRoom_3 ?_
  refine x_iconst (v := nI 2) d_Mo_isRoom_6 (by decide) ?_
  refine x_iald hM.f1 (vp_in_nI (by omega) (by omega)) d_Mo_isRoom_7 ?_
  rw [nI_clamp (by omega), hn _ (by omega)]
  refine x_iconst (v := nI 1) d_Mo_isRoom_8 (by decide) ?_
  refine x_isub d_Mo_isRoom_9 ?_
  refine x_s3p d_Mo_isRoom_10 ml_Mo_35 v_Mo_in rfl ⟨rfl, rfl⟩ rfl (Nat.le_of_ble_eq_true rfl) (ct_Mo_in) ?_
  rw [bI_c (in_has (by omega))]
  refine x_iret rfl bI_nar d_Mo_isRoom_13 (Nat.zero_le _) (Nat.zero_le _) ?_
  exact ⟨rfl, rfl, rfl, rfl⟩
theorem ct_Mo_isKept (hM : LayMo sh μ) (hn : NowR mem (μ + 1) R) (h300 : R 1 ≤ 300) (hr : ∀ k, k < R 1 → oc R k 0 < 2 ^ 31) {x : Int32} : Ct l g M_Mo_isKept [rf g μ, .int x] none sh mem (Pq (.int (bI (keptI R x))) none sh mem) := by
  refine x_begin rfl rfl rfl (by decide) rfl ?_
  refine x_iload_n d_Mo_isKept_0 rfl ?_
  refine x_iconst (v := nI 0) d_Mo_isKept_1 (by decide) ?_
  refine x_aload_n d_Mo_isKept_2 rfl ?_
  refine x_getR hM.f0 rfl fs_Mo_7 d_Mo_isKept_3 ?_
  refine x_iconst (v := nI 1) d_Mo_isKept_6 (by decide) ?_
  refine x_iald hM.f1 (vp_in_nI (by omega) (by omega)) d_Mo_isKept_7 ?_
  rw [nI_clamp (by omega), hn _ (by omega)]
  refine x_iconst (v := nI 1) d_Mo_isKept_8 (by decide) ?_
  refine x_isub d_Mo_isKept_9 ?_
  refine x_s3p d_Mo_isKept_10 ml_Mo_35 v_Mo_in rfl ⟨rfl, rfl⟩ rfl (Nat.le_of_ble_eq_true rfl) (ct_Mo_in) ?_
  rw [bI_c (in_has (by omega))]
  refine x_if_eq (tgt := 34) d_Mo_isKept_13 (by decide) (fun c13 => ?_) (fun c13 => ?_)
  · rw [bI_f (show ¬ keptI R x from fun z => bI_0.mp c13 z.1)]
    refine x_iconst (v := nI 0) d_Mo_isKept_34 (by decide) ?_
    refine x_iret rfl (by decide) d_Mo_isKept_35 (Nat.zero_le _) (Nat.zero_le _) ?_
    exact ⟨rfl, rfl, rfl, rfl⟩
  · have hx := bI_n.mp c13
    obtain ⟨k, hk, rfl⟩ := hasI_of (by omega) hx
    have hrk := hr k hk
    refine x_aload_n d_Mo_isKept_16 rfl ?_
    refine x_getR hM.f0 rfl fs_Mo_7 d_Mo_isKept_17 ?_
    refine x_bipush (v := nI 93) d_Mo_isKept_20 (by decide) ?_
    refine x_iconst (v := nI 3) d_Mo_isKept_22 (by decide) ?_
    refine x_iload_n d_Mo_isKept_23 rfl ?_
    refine x_imul d_Mo_isKept_24 ?_
    rw [pk_mul]
    refine x_iadd d_Mo_isKept_25 ?_
    rw [nI_add]
    refine x_iald hM.f1 (vp_in_nI (by omega) (by omega)) d_Mo_isKept_26 ?_
    rw [nI_clamp (by omega), hn _ (by omega), show R (93 + 3 * k) = oc R k 0 from rfl]
    refine x_if_le (tgt := 34) d_Mo_isKept_27 (by decide) (fun c27 => ?_) (fun c27 => ?_)
    · rw [bI_f (show ¬ keptI R (nI k) from fun z => by
        have h1 := z.2
        rw [tN_nI (by omega)] at h1
        have h2 : 0 < oc R k 0 := of_decide_eq_true h1
        exact absurd (nI_le' (b := 0) hrk (by omega) c27) (by omega))]
      refine x_iconst (v := nI 0) d_Mo_isKept_34 (by decide) ?_
      refine x_iret rfl (by decide) d_Mo_isKept_35 (Nat.zero_le _) (Nat.zero_le _) ?_
      exact ⟨rfl, rfl, rfl, rfl⟩
    · have h2 : 0 < oc R k 0 := nI_nle' (b := 0) hrk (by omega) c27
      rw [bI_t (show keptI R (nI k) from ⟨hx, by rw [tN_nI (by omega)]; exact decide_eq_true h2⟩)]
      refine x_iconst (v := nI 1) d_Mo_isKept_30 (by decide) ?_
      refine x_goto (tgt := 35) d_Mo_isKept_31 (by decide) ?_
      refine x_iret rfl (by decide) d_Mo_isKept_35 (Nat.zero_le _) (Nat.zero_le _) ?_
      exact ⟨rfl, rfl, rfl, rfl⟩
theorem ct_Mo_rollOfOffcut (hM : LayMo sh μ) (hn : NowR mem (μ + 1) R) {k : Nat} (hk : k < 300) (hkp : kp R k = true) : Ct l g M_Mo_rollOfOffcut [rf g μ, .int (nI k)] none sh mem (Pq (.int (nI (oc R k 0 - 1))) none sh mem) := by
  have h2 : 0 < oc R k 0 := of_decide_eq_true hkp
  refine x_begin rfl rfl rfl (by decide) rfl ?_
  refine x_aload_n d_Mo_rollOfOffcut_0 rfl ?_
  refine x_getR hM.f0 rfl fs_Mo_7 d_Mo_rollOfOffcut_1 ?_
  refine x_bipush (v := nI 93) d_Mo_rollOfOffcut_4 (by decide) ?_
  refine x_iconst (v := nI 3) d_Mo_rollOfOffcut_6 (by decide) ?_
  refine x_iload_n d_Mo_rollOfOffcut_7 rfl ?_
  refine x_imul d_Mo_rollOfOffcut_8 ?_
  rw [pk_mul]
  refine x_iadd d_Mo_rollOfOffcut_9 ?_
  rw [nI_add]
  refine x_iald hM.f1 (vp_in_nI (by omega) (by omega)) d_Mo_rollOfOffcut_10 ?_
  rw [nI_clamp (by omega), hn _ (by omega), show R (93 + 3 * k) = oc R k 0 from rfl]
  refine x_iconst (v := nI 1) d_Mo_rollOfOffcut_11 (by decide) ?_
  refine x_isub d_Mo_rollOfOffcut_12 ?_
  rw [pk_sub h2]
  refine x_iret rfl rfl d_Mo_rollOfOffcut_13 (Nat.zero_le _) (Nat.zero_le _) ?_
  exact ⟨rfl, rfl, rfl, rfl⟩
theorem ct_Mo_widthOf (hM : LayMo sh μ) (hn : NowR mem (μ + 1) R) {k : Nat} (hk : k < 300) : Ct l g M_Mo_widthOf [rf g μ, .int (nI k)] none sh mem (Pq (.int (nI (oc R k 1))) none sh mem) := by
  refine x_begin rfl rfl rfl (by decide) rfl ?_
  refine x_aload_n d_Mo_widthOf_0 rfl ?_
  refine x_getR hM.f0 rfl fs_Mo_7 d_Mo_widthOf_1 ?_
  refine x_bipush (v := nI 93) d_Mo_widthOf_4 (by decide) ?_
  refine x_iconst (v := nI 3) d_Mo_widthOf_6 (by decide) ?_
  refine x_iload_n d_Mo_widthOf_7 rfl ?_
  refine x_imul d_Mo_widthOf_8 ?_
  rw [pk_mul]
  refine x_iadd d_Mo_widthOf_9 ?_
  rw [nI_add]
  refine x_iconst (v := nI 1) d_Mo_widthOf_10 (by decide) ?_
  refine x_iadd d_Mo_widthOf_11 ?_
  rw [nI_add]
  refine x_iald hM.f1 (vp_in_nI (by omega) (by omega)) d_Mo_widthOf_12 ?_
  rw [nI_clamp (by omega), hn _ (by omega)]
  refine x_iret rfl rfl d_Mo_widthOf_13 (Nat.zero_le _) (Nat.zero_le _) ?_
  exact ⟨rfl, rfl, rfl, rfl⟩
theorem ct_Mo_lengthOf (hM : LayMo sh μ) (hn : NowR mem (μ + 1) R) {k : Nat} (hk : k < 300) : Ct l g M_Mo_lengthOf [rf g μ, .int (nI k)] none sh mem (Pq (.int (nI (oc R k 2))) none sh mem) := by
  refine x_begin rfl rfl rfl (by decide) rfl ?_
  refine x_aload_n d_Mo_lengthOf_0 rfl ?_
  refine x_getR hM.f0 rfl fs_Mo_7 d_Mo_lengthOf_1 ?_
  refine x_bipush (v := nI 93) d_Mo_lengthOf_4 (by decide) ?_
  refine x_iconst (v := nI 3) d_Mo_lengthOf_6 (by decide) ?_
  refine x_iload_n d_Mo_lengthOf_7 rfl ?_
  refine x_imul d_Mo_lengthOf_8 ?_
  rw [pk_mul]
  refine x_iadd d_Mo_lengthOf_9 ?_
  rw [nI_add]
  refine x_iconst (v := nI 2) d_Mo_lengthOf_10 (by decide) ?_
  refine x_iadd d_Mo_lengthOf_11 ?_
  rw [nI_add]
  refine x_iald hM.f1 (vp_in_nI (by omega) (by omega)) d_Mo_lengthOf_12 ?_
  rw [nI_clamp (by omega), hn _ (by omega)]
  refine x_iret rfl rfl d_Mo_lengthOf_13 (Nat.zero_le _) (Nat.zero_le _) ?_
  exact ⟨rfl, rfl, rfl, rfl⟩
theorem ct_Mo_areaOf (hM : LayMo sh μ) (hn : NowR mem (μ + 1) R) {k : Nat} (hk : k < 300) : Ct l g M_Mo_areaOf [rf g μ, .int (nI k)] none sh mem (Pq (.int (nI (oA R k))) none sh mem) := by
  refine x_begin rfl rfl rfl (by decide) rfl ?_
  refine x_aload_n d_Mo_areaOf_0 rfl ?_
  refine x_iload_n d_Mo_areaOf_1 rfl ?_
  refine x_v1p d_Mo_areaOf_2 ml_Mo_39 v_Mo_widthOf rfl ⟨rfl, rfl⟩ hM.io (Nat.le_of_ble_eq_true rfl) (ct_Mo_widthOf hM hn hk) ?_
  refine x_aload_n d_Mo_areaOf_5 rfl ?_
  refine x_iload_n d_Mo_areaOf_6 rfl ?_
  refine x_v1p d_Mo_areaOf_7 ml_Mo_43 v_Mo_lengthOf rfl ⟨rfl, rfl⟩ hM.io (Nat.le_of_ble_eq_true rfl) (ct_Mo_lengthOf hM hn hk) ?_
  refine x_imul d_Mo_areaOf_10 ?_
  rw [pk_mul]
  refine x_iret rfl rfl d_Mo_areaOf_11 (Nat.zero_le _) (Nat.zero_le _) ?_
  exact ⟨rfl, rfl, rfl, rfl⟩
theorem ct_Mo_keptOnes (hM : LayMo sh μ) (hn : NowR mem (μ + 1) R) (h300 : R 1 ≤ 300) (hr : ∀ k, k < R 1 → oc R k 0 < 2 ^ 31) : Ct l g M_Mo_keptOnes [rf g μ] none sh mem (Pq (.int (nI (nK R))) none sh mem) := by
  rw [nK_cnt]
  refine x_begin rfl rfl rfl (by decide) rfl ?_
  refine x_iconst (v := nI 0) d_Mo_keptOnes_0 (by decide) ?_
  refine x_istore_n d_Mo_keptOnes_1 (by decide) ?_
  refine x_iconst (v := nI 0) d_Mo_keptOnes_2 (by decide) ?_
  refine x_istore_n d_Mo_keptOnes_3 (by decide) ?_
  refine up_ind (R 1) (P := fun j => X l g M_Mo_keptOnes (XF g (Pq (.int (nI (cnt (kp R) (R 1)))) none sh mem) M_Mo_keptOnes) 4 [some (rf g μ), some (.int (nI (cnt (kp R) j))), some (.int (nI j))] [] none sh mem 0 0) (fun j hj ih => ?_) 0 (Nat.zero_le _)
  refine x_iload_n d_Mo_keptOnes_4 rfl ?_
  refine x_aload_n d_Mo_keptOnes_5 rfl ?_
  refine x_getR hM.f0 rfl fs_Mo_7 d_Mo_keptOnes_6 ?_
  refine x_iconst (v := nI 1) d_Mo_keptOnes_9 (by decide) ?_
  refine x_iald hM.f1 (vp_in_nI (by omega) (by omega)) d_Mo_keptOnes_10 ?_
  rw [nI_clamp (by omega), hn _ (by omega)]
  refine x_icmp_ge (tgt := 36) d_Mo_keptOnes_11 (by decide) (fun c11 => ?_) (fun c11 => ?_)
  · have hj2 : j = R 1 := by have := nI_le' (by omega) (by omega) c11; omega
    refine x_iload_n d_Mo_keptOnes_36 rfl ?_
    refine x_iret rfl rfl d_Mo_keptOnes_37 (Nat.zero_le _) (Nat.zero_le _) ?_
    exact ⟨by rw [hj2], rfl, rfl, rfl⟩
  · have hj3 := nI_nle' (by omega) (by omega) c11
    refine x_iload_n d_Mo_keptOnes_14 rfl ?_
    refine x_aload_n d_Mo_keptOnes_15 rfl ?_
    refine x_iload_n d_Mo_keptOnes_16 rfl ?_
    refine x_v1p d_Mo_keptOnes_17 ml_Mo_46 v_Mo_isKept rfl ⟨rfl, rfl⟩ hM.io (Nat.le_of_ble_eq_true rfl) (ct_Mo_isKept hM hn h300 hr) ?_
    refine x_if_eq (tgt := 27) d_Mo_keptOnes_20 (by decide) (fun c20 => ?_) (fun c20 => ?_)
    · have hkp : kp R j = false := by
        cases h : kp R j with
        | false => rfl
        | true => exact absurd ⟨hasI_nI (by omega) hj3, by rw [tN_nI (by omega)]; exact h⟩ (bI_0.mp c20)
      refine x_iconst (v := nI 0) d_Mo_keptOnes_27 (by decide) ?_
      refine x_iadd d_Mo_keptOnes_28 ?_
      rw [nI_add]
      refine x_istore_n d_Mo_keptOnes_29 (by decide) ?_
      refine x_iinc d_Mo_keptOnes_30 rfl (by first | exact inc1 _ | rfl) (by decide) ?_
      refine x_goto (tgt := 4) d_Mo_keptOnes_33 (by decide) ?_
      have h9 := ih hj3
      first | (rw [cnt_t hkp] at h9; exact h9) | (rw [cnt_f hkp] at h9; exact h9)
    · have hkp : kp R j = true := by
        have h := (bI_n.mp c20).2
        rw [tN_nI (by omega)] at h
        exact h
      refine x_iconst (v := nI 1) d_Mo_keptOnes_23 (by decide) ?_
      refine x_goto (tgt := 28) d_Mo_keptOnes_24 (by decide) ?_
      refine x_iadd d_Mo_keptOnes_28 ?_
      rw [nI_add]
      refine x_istore_n d_Mo_keptOnes_29 (by decide) ?_
      refine x_iinc d_Mo_keptOnes_30 rfl (by first | exact inc1 _ | rfl) (by decide) ?_
      refine x_goto (tgt := 4) d_Mo_keptOnes_33 (by decide) ?_
      have h9 := ih hj3
      first | (rw [cnt_t hkp] at h9; exact h9) | (rw [cnt_f hkp] at h9; exact h9)
theorem ct_Mo_addOffcut (hM : LayMo sh μ) (hn : NowR mem (μ + 1) R) (h300 : R 1 < 300) {r w k : Nat} : Ct l g M_Mo_addOffcut [rf g μ, .int (nI r), .int (nI w), .int (nI k)] none sh mem (Rv none sh (fun m => NowR m (μ + 1) (addR R r w k) ∧ F1 μ mem m)) := by
  refine x_begin rfl rfl rfl (by decide) rfl ?_
  refine x_aload_n d_Mo_addOffcut_0 rfl ?_
  refine x_getR hM.f0 rfl fs_Mo_7 d_Mo_addOffcut_1 ?_
  refine x_iconst (v := nI 1) d_Mo_addOffcut_4 (by decide) ?_
  refine x_iald hM.f1 (vp_in_nI (by omega) (by omega)) d_Mo_addOffcut_5 ?_
  rw [nI_clamp (by omega), hn _ (by omega)]
  refine x_istore d_Mo_addOffcut_6 (by decide) ?_
  refine x_aload_n d_Mo_addOffcut_8 rfl ?_
  refine x_getR hM.f0 rfl fs_Mo_7 d_Mo_addOffcut_9 ?_
  refine x_iconst (v := nI 1) d_Mo_addOffcut_12 (by decide) ?_
  refine x_dup2 d_Mo_addOffcut_13 rfl rfl ?_
  refine x_iald hM.f1 (vp_in_nI (by omega) (by omega)) d_Mo_addOffcut_14 ?_
  rw [nI_clamp (by omega), hn _ (by omega)]
  refine x_iconst (v := nI 1) d_Mo_addOffcut_15 (by decide) ?_
  refine x_iadd d_Mo_addOffcut_16 ?_
  rw [nI_add]
  refine x_iast hM.f1 (vp_in_nI (by omega) (by omega)) d_Mo_addOffcut_17 ?_
  rw [nI_clamp (by omega)]
  refine x_aload_n d_Mo_addOffcut_18 rfl ?_
  refine x_getR hM.f0 rfl fs_Mo_7 d_Mo_addOffcut_19 ?_
  refine x_bipush (v := nI 93) d_Mo_addOffcut_22 (by decide) ?_
  refine x_iconst (v := nI 3) d_Mo_addOffcut_24 (by decide) ?_
  refine x_iload d_Mo_addOffcut_25 rfl ?_
  refine x_imul d_Mo_addOffcut_27 ?_
  rw [pk_mul]
  refine x_iadd d_Mo_addOffcut_28 ?_
  rw [nI_add]
  refine x_iload_n d_Mo_addOffcut_29 rfl ?_
  refine x_iconst (v := nI 1) d_Mo_addOffcut_30 (by decide) ?_
  refine x_iadd d_Mo_addOffcut_31 ?_
  rw [nI_add]
  refine x_iast hM.f1 (vp_in_nI (by omega) (by omega)) d_Mo_addOffcut_32 ?_
  rw [nI_clamp (by omega)]
  refine x_aload_n d_Mo_addOffcut_33 rfl ?_
  refine x_getR hM.f0 rfl fs_Mo_7 d_Mo_addOffcut_34 ?_
  refine x_bipush (v := nI 93) d_Mo_addOffcut_37 (by decide) ?_
  refine x_iconst (v := nI 3) d_Mo_addOffcut_39 (by decide) ?_
  refine x_iload d_Mo_addOffcut_40 rfl ?_
  refine x_imul d_Mo_addOffcut_42 ?_
  rw [pk_mul]
  refine x_iadd d_Mo_addOffcut_43 ?_
  rw [nI_add]
  refine x_iconst (v := nI 1) d_Mo_addOffcut_44 (by decide) ?_
  refine x_iadd d_Mo_addOffcut_45 ?_
  rw [nI_add]
  refine x_iload_n d_Mo_addOffcut_46 rfl ?_
  refine x_iast hM.f1 (vp_in_nI (by omega) (by omega)) d_Mo_addOffcut_47 ?_
  rw [nI_clamp (by omega)]
  refine x_aload_n d_Mo_addOffcut_48 rfl ?_
  refine x_getR hM.f0 rfl fs_Mo_7 d_Mo_addOffcut_49 ?_
  refine x_bipush (v := nI 93) d_Mo_addOffcut_52 (by decide) ?_
  refine x_iconst (v := nI 3) d_Mo_addOffcut_54 (by decide) ?_
  refine x_iload d_Mo_addOffcut_55 rfl ?_
  refine x_imul d_Mo_addOffcut_57 ?_
  rw [pk_mul]
  refine x_iadd d_Mo_addOffcut_58 ?_
  rw [nI_add]
  refine x_iconst (v := nI 2) d_Mo_addOffcut_59 (by decide) ?_
  refine x_iadd d_Mo_addOffcut_60 ?_
  rw [nI_add]
  refine x_iload_n d_Mo_addOffcut_61 rfl ?_
  refine x_iast hM.f1 (vp_in_nI (by omega) (by omega)) d_Mo_addOffcut_62 ?_
  rw [nI_clamp (by omega)]
  refine x_vret rfl d_Mo_addOffcut_63 (Nat.zero_le _) (Nat.zero_le _) ?_
  refine ⟨rfl, rfl, rfl, fun i hi => ?_, fun o ho => by rw [um_ne _ _ _ ho, um_ne _ _ _ ho, um_ne _ _ _ ho, um_ne _ _ _ ho]⟩
  have h4 := (((hn.up (j := 1) (v := nI (R 1 + 1)) rfl).up (j := 93 + 3 * R 1) (v := nI (r + 1)) rfl).up (j := 93 + 3 * R 1 + 1) (v := nI w) rfl).up (j := 93 + 3 * R 1 + 2) (v := nI k) rfl
  rw [h4 i hi]
  congr 1
  unfold addR un
  by_cases e1 : i = 1
  · rw [if_neg (show ¬ i = 93 + 3 * R 1 + 2 by omega), if_neg (show ¬ i = 93 + 3 * R 1 + 1 by omega), if_neg (show ¬ i = 93 + 3 * R 1 by omega), if_pos e1, if_pos e1]
  · simp only [if_neg e1]
    rw [show 93 + 3 * R 1 + 2 = 95 + 3 * R 1 by omega, show 93 + 3 * R 1 + 1 = 94 + 3 * R 1 by omega]
theorem ct_Mo_drop (hM : LayMo sh μ) {k : Nat} (hk : k < 300) : Ct l g M_Mo_drop [rf g μ, .int (nI k)] none sh mem (Rv none sh (fun m => m = um mem (μ + 1) (93 + 3 * k) (nI 0))) := by
  refine x_begin rfl rfl rfl (by decide) rfl ?_
  refine x_aload_n d_Mo_drop_0 rfl ?_
  refine x_getR hM.f0 rfl fs_Mo_7 d_Mo_drop_1 ?_
  refine x_bipush (v := nI 93) d_Mo_drop_4 (by decide) ?_
  refine x_iconst (v := nI 3) d_Mo_drop_6 (by decide) ?_
  refine x_iload_n d_Mo_drop_7 rfl ?_
  refine x_imul d_Mo_drop_8 ?_
  rw [pk_mul]
  refine x_iadd d_Mo_drop_9 ?_
  rw [nI_add]
  refine x_iconst (v := nI 0) d_Mo_drop_10 (by decide) ?_
  refine x_iast hM.f1 (vp_in_nI (by omega) (by omega)) d_Mo_drop_11 ?_
  rw [nI_clamp (by omega)]
  refine x_vret rfl d_Mo_drop_12 (Nat.zero_le _) (Nat.zero_le _) ?_
  exact ⟨rfl, rfl, rfl, rfl⟩
theorem ct_Mo_greater {a b : Nat} (ha : a < 2 ^ 31) (hb : b < 2 ^ 31) : Ct l g M_Mo_greater [.int (nI a), .int (nI b)] none sh mem (Pq (.int (nI (max a b))) none sh mem) := by
  refine x_begin rfl rfl rfl (by decide) rfl ?_
  refine x_iload_n d_Mo_greater_0 rfl ?_
  refine x_iload_n d_Mo_greater_1 rfl ?_
  refine x_icmp_le (tgt := 9) d_Mo_greater_2 (by decide) (fun c2 => ?_) (fun c2 => ?_)
  · have c2 := nI_le' ha hb c2
    rw [show max a b = b by omega]
    refine x_iload_n d_Mo_greater_9 rfl ?_
    refine x_iret rfl rfl d_Mo_greater_10 (Nat.zero_le _) (Nat.zero_le _) ?_
    exact ⟨rfl, rfl, rfl, rfl⟩
  · have c2 := nI_nle' ha hb c2
    rw [show max a b = a by omega]
    refine x_iload_n d_Mo_greater_5 rfl ?_
    refine x_goto (tgt := 10) d_Mo_greater_6 (by decide) ?_
    refine x_iret rfl rfl d_Mo_greater_10 (Nat.zero_le _) (Nat.zero_le _) ?_
    exact ⟨rfl, rfl, rfl, rfl⟩
end
