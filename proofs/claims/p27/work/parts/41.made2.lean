/-! what the constructors make: books, the ring of books, the counter -/
def valBk (i k : Nat) : Int32 := if i = 2 then (if k = 1 then nI 3 else if k = 2 then nI 2 else if k = 3 then nI 3 else 0) else 0
section
variable {l : Launch} {g : XG} {sh : Nat → Sh} {mem : Mem} {o : Nat}
theorem ct_Bk_init (h0 : sh o = .inl (0, [some none, some none, some none, some none, none, none, none])) (hm : ∀ k, mem o k = 0) : Ct l g M_Bk_init [rf g o] (some (o + 1)) sh mem (NwQ lay_Bk valBk 48 o sh mem) := by
  refine x_begin rfl rfl rfl (by decide) rfl ?_
  have b0 := Bd.start (lay := lay_Bk) (val := zv) h0 hm
  refine x_aload_n d_Bk_init_0 rfl ?_
  refine x_objInit ml_Bk_3 j_obj1 j_obj2 d_Bk_init_1 (by decide) (by decide) ?_
  refine x_aload_n d_Bk_init_4 rfl ?_
  refine x_new ns_Bk_9 (List.cons_ne_nil _ _) d_Bk_init_5 (by decide) (by decide) ?_
  refine x_dup d_Bk_init_8 rfl ?_
  refine x_iconst (v := nI 5) d_Bk_init_9 (by decide) ?_
  refine x_callI (M' := M_Rw_init) (As := [.int (nI 5)]) d_Bk_init_10 ml_Bk_11 v_Rw_init rfl rfl rfl (Nat.le_of_ble_eq_true rfl) (ct_Rw_init (s := 5) (by omega) (us_at _ _ _) (fun k => by rw [zm_at])) (fun v1 N1 sh1 mem1 q1 => ?_)
  obtain ⟨rfl, hN, q1⟩ := q1
  have hN : N1 = some (o + 3) := hN
  subst hN
  refine x_putR (b0.at (by omega) q1) rfl ps_Bk_14 (fun _ => rfl) (fun _ => rfl) rfl d_Bk_init_13 ?_
  have b1 := b0.part (lay2 := (lay_Rw 5)) (val2 := zv) (by omega) (by omega) q1 (fun i hi => by rcases (show i = 0 ∨ i = 1 by omega) with rfl | rfl <;> rfl) (fun i hi k => rfl) ([some none, some none, some none, some none, none, none, none].set 0 (some (some (o + 1))))
  refine x_aload_n d_Bk_init_16 rfl ?_
  refine x_new ns_Bk_20 (List.cons_ne_nil _ _) d_Bk_init_17 (by decide) (by decide) ?_
  refine x_dup d_Bk_init_20 rfl ?_
  refine x_callIN (M' := M_Ro_init) (As := []) d_Bk_init_21 mn_Bk_22 v_Ro_init rfl rfl rfl (Nat.le_of_ble_eq_true rfl) (ct_Ro_init (us_at _ _ _) (fun k => by rw [zm_at])) (fun v2 N2 sh2 mem2 q2 => ?_)
  obtain ⟨rfl, hN, q2⟩ := q2
  have hN : N2 = some (o + 20) := hN
  subst hN
  refine x_putR (b1.at (by omega) q2) rfl ps_Bk_23 (fun _ => rfl) (fun _ => rfl) rfl d_Bk_init_24 ?_
  have b2 := b1.part (lay2 := lay_Ro) (val2 := zv) (by omega) (by omega) q2 (fun i hi => by unfold lay_Bk; rw [if_neg (by omega), if_neg (by omega), if_neg (by omega), if_pos (by omega), show 3 + i - 3 = i by omega]) (fun i hi k => rfl) (([some none, some none, some none, some none, none, none, none].set 0 (some (some (o + 1)))).set 1 (some (some (o + 3))))
  refine x_aload_n d_Bk_init_27 rfl ?_
  refine x_new ns_Bk_27 (List.cons_ne_nil _ _) d_Bk_init_28 (by decide) (by decide) ?_
  refine x_dup d_Bk_init_31 rfl ?_
  refine x_callIN (M' := M_Of_init) (As := []) d_Bk_init_32 mn_Bk_29 v_Of_init rfl rfl rfl (Nat.le_of_ble_eq_true rfl) (ct_Of_init (us_at _ _ _) (fun k => by rw [zm_at])) (fun v3 N3 sh3 mem3 q3 => ?_)
  obtain ⟨rfl, hN, q3⟩ := q3
  have hN : N3 = some (o + 29) := hN
  subst hN
  refine x_putR (b2.at (by omega) q3) rfl ps_Bk_30 (fun _ => rfl) (fun _ => rfl) rfl d_Bk_init_35 ?_
  have b3 := b2.part (lay2 := lay_Of) (val2 := zv) (by omega) (by omega) q3 (fun i hi => by unfold lay_Bk; rw [if_neg (by omega), if_neg (by omega), if_neg (by omega), if_neg (by omega), if_pos (by omega), show 20 + i - 20 = i by omega]) (fun i hi k => rfl) ((([some none, some none, some none, some none, none, none, none].set 0 (some (some (o + 1)))).set 1 (some (some (o + 3)))).set 2 (some (some (o + 20))))
  refine x_aload_n d_Bk_init_38 rfl ?_
  refine x_new ns_Bk_34 (List.cons_ne_nil _ _) d_Bk_init_39 (by decide) (by decide) ?_
  refine x_dup d_Bk_init_42 rfl ?_
  refine x_callIN (M' := M_Rm_init) (As := []) d_Bk_init_43 mn_Bk_36 v_Rm_init rfl rfl rfl (Nat.le_of_ble_eq_true rfl) (ct_Rm_init (us_at _ _ _) (fun k => by rw [zm_at])) (fun v4 N4 sh4 mem4 q4 => ?_)
  obtain ⟨rfl, hN, q4⟩ := q4
  have hN : N4 = some (o + 48) := hN
  subst hN
  refine x_putR (b3.at (by omega) q4) rfl ps_Bk_37 (fun _ => rfl) (fun _ => rfl) rfl d_Bk_init_46 ?_
  have b4 := b3.part (lay2 := lay_Rm) (val2 := zv) (by omega) (by omega) q4 (fun i hi => by unfold lay_Bk; rw [if_neg (by omega), if_neg (by omega), if_neg (by omega), if_neg (by omega), if_neg (by omega), if_pos (by omega), show 29 + i - 29 = i by omega]) (fun i hi k => rfl) (((([some none, some none, some none, some none, none, none, none].set 0 (some (some (o + 1)))).set 1 (some (some (o + 3)))).set 2 (some (some (o + 20)))).set 3 (some (some (o + 29))))
  have hfin := b4.fin rfl (fun _ => rfl)
  obtain ⟨-, -, f3, f4, f5, f6⟩ := hfin
  generalize us sh4 o (.inl (0, (((([some none, some none, some none, some none, none, none, none].set 0 (some (some (o + 1)))).set 1 (some (some (o + 3)))).set 2 (some (some (o + 20)))).set 3 (some (some (o + 29)))))) = SH at f3 f4 ⊢
  have hB : LayBk SH o := f3
  refine x_aload_n d_Bk_init_49 rfl ?_
  refine x_getR hB.f0 rfl fs_Bk_14 d_Bk_init_50 ?_
  refine x_iconst (v := nI 1) d_Bk_init_53 (by decide) ?_
  refine x_iconst (v := nI 3) d_Bk_init_54 (by decide) ?_
  refine x_v2v d_Bk_init_55 ml_Bk_41 v_Rw_put rfl ⟨rfl, rfl⟩ (row_io hB.f1) (Nat.le_of_ble_eq_true rfl) (ct_Rw_put hB.f1 hB.f2 (by omega)) (fun _ hE => ?_)
  subst hE
  refine x_aload_n d_Bk_init_58 rfl ?_
  refine x_getR hB.f0 rfl fs_Bk_14 d_Bk_init_59 ?_
  refine x_iconst (v := nI 2) d_Bk_init_62 (by decide) ?_
  refine x_iconst (v := nI 2) d_Bk_init_63 (by decide) ?_
  refine x_v2v d_Bk_init_64 ml_Bk_41 v_Rw_put rfl ⟨rfl, rfl⟩ (row_io hB.f1) (Nat.le_of_ble_eq_true rfl) (ct_Rw_put hB.f1 hB.f2 (by omega)) (fun _ hE => ?_)
  subst hE
  refine x_aload_n d_Bk_init_67 rfl ?_
  refine x_getR hB.f0 rfl fs_Bk_14 d_Bk_init_68 ?_
  refine x_iconst (v := nI 3) d_Bk_init_71 (by decide) ?_
  refine x_iconst (v := nI 3) d_Bk_init_72 (by decide) ?_
  refine x_v2v d_Bk_init_73 ml_Bk_41 v_Rw_put rfl ⟨rfl, rfl⟩ (row_io hB.f1) (Nat.le_of_ble_eq_true rfl) (ct_Rw_put hB.f1 hB.f2 (by omega)) (fun _ hE => ?_)
  subst hE
  refine x_vret rfl d_Bk_init_76 (by decide) (by decide) ?_
  refine ⟨rfl, rfl, f3, f4, fun i hi k => ?_, fun q hq => ?_⟩
  · by_cases h2 : i = 2
    · subst h2
      have h7 : mem4 (o + 2) k = 0 := f5 2 (by omega) k
      unfold valBk
      rw [if_pos rfl]
      by_cases k3 : k = 3
      · rw [k3, um_eq]; rfl
      · rw [um_k _ _ k3]
        by_cases k2 : k = 2
        · rw [k2, um_eq]; rfl
        · rw [um_k _ _ k2]
          by_cases k1 : k = 1
          · rw [k1, um_eq]; rfl
          · rw [um_k _ _ k1, h7, if_neg k1, if_neg k2, if_neg k3]
    · rw [um_ne _ _ _ (by omega), um_ne _ _ _ (by omega), um_ne _ _ _ (by omega)]
      rw [f5 i hi k]
      unfold valBk
      rw [if_neg h2]
      rfl
  · rw [um_ne _ _ _ (by omega), um_ne _ _ _ (by omega), um_ne _ _ _ (by omega)]
    exact f6 q hq
theorem roomB_mk {M M' : Mt} {c n : Nat} (h : roomOk M M' c n) : roomB M M' c n = true := by
  obtain ⟨⟨h1, h2⟩, h3, h4⟩ := h
  unfold roomB
  rw [Nat.ble_eq_true_of_le h1, Nat.ble_eq_true_of_le h2, Nat.ble_eq_true_of_le h3, Nat.ble_eq_true_of_le h4]
  rfl
def valHi (i k : Nat) : Int32 := if i < 2 then 0 else valBk ((i - 2) % 48) k
def HB (o j : Nat) (sh : Nat → Sh) (mem : Mem) (sh' : Nat → Sh) (mem' : Mem) : Prop := sh' o = .inl (2, [some (some (o + 1)), none, none]) ∧ sh' (o + 1) = .inr (.inr (4, fun x => if x < j then some (o + 2 + 48 * x) else none)) ∧ (∀ i, 2 ≤ i → i < 2 + 48 * j → sh' (o + i) = lay_Hi o i) ∧ (∀ q, (q < o ∨ o + 2 + 48 * j ≤ q) → sh' q = sh q) ∧ (∀ i, i < 2 + 48 * j → ∀ k, mem' (o + i) k = valHi i k) ∧ ∀ q, (q < o ∨ o + 2 + 48 * j ≤ q) → mem' q = mem q
theorem HB.step {o j : Nat} {sh sh1 sh2 : Nat → Sh} {mem mem1 mem2 : Mem} {x : Sh} (h : HB o j sh mem sh1 mem1) (hj : j < 4) (hq : NwR lay_Bk valBk 48 (o + 2 + 48 * j) (us sh1 (o + 2 + 48 * j) x) (zm mem1 (o + 2 + 48 * j)) sh2 mem2) : HB o (j + 1) sh mem (us sh2 (o + 1) (.inr (.inr (4, fun y => if y = (nI j).toNatClampNeg then some (o + 2 + 48 * j) else if y < j then some (o + 2 + 48 * y) else none)))) mem2 := by
  obtain ⟨h1, h2, h3, h4, h5, h6⟩ := h
  obtain ⟨q1, q2, q3, q4⟩ := hq
  refine ⟨?_, ?_, fun i i1 i2 => ?_, fun q hq => ?_, fun i hi k => ?_, fun q hq => ?_⟩
  · rw [us_ne _ _ (by omega), q2 _ (by omega), us_ne _ _ (by omega)]
    exact h1
  · rw [us_at, nI_clamp (by omega)]
    congr 3
    funext y
    by_cases hy : y = j
    · rw [if_pos hy, if_pos (by omega), hy]
    · by_cases hy2 : y < j
      · rw [if_neg hy, if_pos hy2, if_pos (by omega)]
      · rw [if_neg hy, if_neg hy2, if_neg (by omega)]
  · rw [us_ne _ _ (by omega)]
    by_cases hi : i < 2 + 48 * j
    · rw [q2 _ (by omega), us_ne _ _ (by omega)]
      exact h3 i i1 hi
    · have h7 := q1 (i - (2 + 48 * j)) (by omega)
      rw [show o + 2 + 48 * j + (i - (2 + 48 * j)) = o + i by omega] at h7
      rw [h7]
      unfold lay_Hi
      rw [if_neg (by omega), if_neg (by omega), if_pos (by omega), show (i - 2) / 48 = j by omega, show (i - 2) % 48 = i - (2 + 48 * j) by omega]
  · rw [us_ne _ _ (by omega), q2 _ (by omega), us_ne _ _ (by omega)]
    exact h4 q (by omega)
  · by_cases hi2 : i < 2 + 48 * j
    · rw [q4 _ (by omega), zm_ne _ (by omega)]
      exact h5 i hi2 k
    · have h7 := q3 (i - (2 + 48 * j)) (by omega) k
      rw [show o + 2 + 48 * j + (i - (2 + 48 * j)) = o + i by omega] at h7
      rw [h7]
      unfold valHi
      rw [if_neg (by omega), show (i - 2) % 48 = i - (2 + 48 * j) by omega]
  · rw [q4 _ (by omega), zm_ne _ (by omega)]
    exact h6 q (by omega)
theorem ct_Hi_init (h0 : sh o = .inl (2, [some none, none, none])) (hm : ∀ k, mem o k = 0) : Ct l g M_Hi_init [rf g o] (some (o + 1)) sh mem (NwQ lay_Hi valHi 194 o sh mem) := by
  refine x_begin rfl rfl rfl (by decide) rfl ?_
  refine x_aload_n d_Hi_init_0 rfl ?_
  refine x_objInit ml_Hi_3 j_obj1 j_obj2 d_Hi_init_1 (by decide) (by decide) ?_
  refine x_aload_n d_Hi_init_4 rfl ?_
  refine x_iconst (v := nI 4) d_Hi_init_5 (by decide) ?_
  refine x_anew (na := 4) (tg1 211 (by decide +kernel) rfl) (by decide) (by decide) (by decide) d_Hi_init_6 (by decide) (by decide) ?_
  refine x_putR ((us_ne _ _ (by omega)).trans h0) rfl ps_Hi_11 (fun _ => rfl) (fun _ => rfl) rfl d_Hi_init_9 ?_
  refine x_iconst (v := nI 0) d_Hi_init_12 (by decide) ?_
  refine x_istore_n d_Hi_init_13 (by decide) ?_
  refine up_ind 4 (P := fun j => ∀ (c n : Nat) (sh1 : Nat → Sh) (mem1 : Mem), c = 1 + 48 * j → n = 4 + 15894 * j → HB o j sh mem sh1 mem1 → X l g M_Hi_init (XF g (NwQ lay_Hi valHi 194 o sh mem) M_Hi_init) 14 [some (rf g o), some (.int (nI j))] [] (some (o + 2 + 48 * j)) sh1 mem1 c n) (fun j hj ih c n sh1 mem1 hc hn hb => ?_) 0 (by omega) _ _ _ _ rfl rfl ?_
  · refine x_iload_n d_Hi_init_14 rfl ?_
    refine x_aload_n d_Hi_init_15 rfl ?_
    refine x_getR hb.1 rfl fs_Hi_11 d_Hi_init_16 ?_
    refine x_alenR hb.2.1 d_Hi_init_19 ?_
    refine x_icmp_ge (tgt := 42) d_Hi_init_20 (by decide) (fun c20 => ?_) (fun c20 => ?_)
    · have hj4 : j = 4 := by have := nI_le' (by omega) (by omega) c20; omega
      subst hj4
      refine x_vret rfl d_Hi_init_42 (by rw [hc]; decide) (by rw [hn]; decide) ?_
      obtain ⟨b1, b2, b3, b4, b5, b6⟩ := hb
      refine ⟨rfl, rfl, fun i hi => ?_, b4, fun i hi k => b5 i (by omega) k, b6⟩
      by_cases i0 : i = 0
      · rw [i0]; exact b1
      · by_cases i1 : i = 1
        · rw [i1]; exact b2
        · exact b3 i (by omega) (by omega)
    · have hj4 : j < 4 := nI_nle' (by omega) (by omega) c20
      refine x_aload_n d_Hi_init_23 rfl ?_
      refine x_getR hb.1 rfl fs_Hi_11 d_Hi_init_24 ?_
      refine x_iload_n d_Hi_init_27 rfl ?_
      refine x_new ns_Hi_9 (List.cons_ne_nil _ _) d_Hi_init_28 (by rw [hc]; show 1 + 48 * j + 1 ≤ 193; omega) (by rw [hn]; show 4 + 15894 * j + 7 ≤ 63580; omega) ?_
      refine x_dup d_Hi_init_31 rfl ?_
      refine x_callI (M' := M_Bk_init) (As := []) d_Hi_init_32 ml_Hi_17 v_Bk_init rfl (roomB_mk ⟨⟨by decide, by decide⟩, by rw [hc]; show 1 + 48 * j + 1 + 47 ≤ 193; omega, by rw [hn]; show 4 + 15894 * j + 7 + 15887 ≤ 63580; omega⟩) rfl (Nat.le_of_ble_eq_true rfl) (ct_Bk_init (us_at _ _ _) (fun k => by rw [zm_at])) (fun v N2 sh2 mem2 q2 => ?_)
      obtain ⟨rfl, hN, q2⟩ := q2
      have hN : N2 = some (o + 2 + 48 * (j + 1)) := hN.trans (congrArg some (by omega))
      subst hN
      have hs1 : sh2 (o + 1) = .inr (.inr (4, fun x => if x < j then some (o + 2 + 48 * x) else none)) := by
        rw [q2.2.1 _ (by omega), us_ne _ _ (by omega)]
        exact hb.2.1
      refine x_aast (ci := 0) hs1 (q2.1 0 (by omega)) (List.cons_ne_nil _ _) (vp_in_nI (by omega) (by omega)) d_Hi_init_35 ?_
      refine x_iinc d_Hi_init_36 rfl (inc1 _) (by decide) ?_
      refine x_goto (tgt := 14) d_Hi_init_39 (by decide) ?_
      exact ih hj4 _ _ _ _ (by rw [hc]; show 1 + 48 * j + 1 + 47 = _; omega) (by rw [hn]; show 4 + 15894 * j + 7 + 15887 = _; omega) (hb.step hj4 q2)
  · refine ⟨us_at _ _ _, ?_, fun i i1 i2 => absurd i2 (by omega), fun q hq => ?_, fun i hi k => ?_, fun q hq => ?_⟩
    · rw [us_ne _ _ (by omega), us_at]
      congr 3
    · rw [us_ne _ _ (by omega), us_ne _ _ (by omega)]
    · rcases (show i = 0 ∨ i = 1 by omega) with rfl | rfl
      · rw [zm_ne _ (by omega)]
        exact hm k
      · rw [zm_at]
        rfl
    · rw [zm_ne _ (by omega)]
def valCc (i k : Nat) : Int32 := if i = 0 then 0 else if i < 49 then valBk (i - 1) k else if i < 97 then valBk (i - 49) k else if i < 145 then valBk (i - 97) k else if i < 193 then valBk (i - 145) k else if i < 387 then valHi (i - 193) k else 0
theorem ct_Cc_init (h0 : sh o = .inl (8, [some none, some none, some none, some none, some none, some none, some none, none])) (hm : ∀ k, mem o k = 0) : Ct l g M_Cc_init [rf g o] (some (o + 1)) sh mem (NwQ lay_Cc valCc 410 o sh mem) := by
  refine x_begin rfl rfl rfl (by decide) rfl ?_
  have b0 := Bd.start (lay := lay_Cc) (val := valCc) h0 hm
  refine x_aload_n d_Cc_init_0 rfl ?_
  refine x_objInit ml_Cc_1 j_obj1 j_obj2 d_Cc_init_1 (by decide) (by decide) ?_
  refine x_aload_n d_Cc_init_4 rfl ?_
  refine x_new ns_Cc_7 (List.cons_ne_nil _ _) d_Cc_init_5 (by decide) (by decide) ?_
  refine x_dup d_Cc_init_8 rfl ?_
  refine x_callI (M' := M_Bk_init) (As := []) d_Cc_init_9 ml_Cc_9 v_Bk_init rfl rfl rfl (Nat.le_of_ble_eq_true rfl) (ct_Bk_init (us_at _ _ _) (fun k => by rw [zm_at])) (fun v1 N1 sh1 mem1 q1 => ?_)
  obtain ⟨rfl, hN, q1⟩ := q1
  have hN : N1 = some (o + 49) := hN
  subst hN
  refine x_putR (b0.at (by omega) q1) rfl ps_Cc_10 (fun _ => rfl) (fun _ => rfl) rfl d_Cc_init_12 ?_
  have b1 := b0.part (lay2 := lay_Bk) (val2 := valBk) (by omega) (by omega) q1 (fun i hi => by unfold lay_Cc; rw [if_neg (by omega), if_pos (by omega), show 1 + i - 1 = i by omega]) (fun i hi k => by unfold valCc; rw [if_neg (by omega), if_pos (by omega), show 1 + i - 1 = i by omega]) ([some none, some none, some none, some none, some none, some none, some none, none].set 0 (some (some (o + 1))))
  refine x_aload_n d_Cc_init_15 rfl ?_
  refine x_new ns_Cc_7 (List.cons_ne_nil _ _) d_Cc_init_16 (by decide) (by decide) ?_
  refine x_dup d_Cc_init_19 rfl ?_
  refine x_callI (M' := M_Bk_init) (As := []) d_Cc_init_20 ml_Cc_9 v_Bk_init rfl rfl rfl (Nat.le_of_ble_eq_true rfl) (ct_Bk_init (us_at _ _ _) (fun k => by rw [zm_at])) (fun v2 N2 sh2 mem2 q2 => ?_)
  obtain ⟨rfl, hN, q2⟩ := q2
  have hN : N2 = some (o + 97) := hN
  subst hN
  refine x_putR (b1.at (by omega) q2) rfl ps_Cc_16 (fun _ => rfl) (fun _ => rfl) rfl d_Cc_init_23 ?_
  have b2 := b1.part (lay2 := lay_Bk) (val2 := valBk) (by omega) (by omega) q2 (fun i hi => by unfold lay_Cc; rw [if_neg (by omega), if_neg (by omega), if_pos (by omega), show 49 + i - 49 = i by omega]) (fun i hi k => by unfold valCc; rw [if_neg (by omega), if_neg (by omega), if_pos (by omega), show 49 + i - 49 = i by omega]) (([some none, some none, some none, some none, some none, some none, some none, none].set 0 (some (some (o + 1)))).set 1 (some (some (o + 49))))
  refine x_aload_n d_Cc_init_26 rfl ?_
  refine x_new ns_Cc_7 (List.cons_ne_nil _ _) d_Cc_init_27 (by decide) (by decide) ?_
  refine x_dup d_Cc_init_30 rfl ?_
  refine x_callI (M' := M_Bk_init) (As := []) d_Cc_init_31 ml_Cc_9 v_Bk_init rfl rfl rfl (Nat.le_of_ble_eq_true rfl) (ct_Bk_init (us_at _ _ _) (fun k => by rw [zm_at])) (fun v3 N3 sh3 mem3 q3 => ?_)
  obtain ⟨rfl, hN, q3⟩ := q3
  have hN : N3 = some (o + 145) := hN
  subst hN
  refine x_putR (b2.at (by omega) q3) rfl ps_Cc_19 (fun _ => rfl) (fun _ => rfl) rfl d_Cc_init_34 ?_
  have b3 := b2.part (lay2 := lay_Bk) (val2 := valBk) (by omega) (by omega) q3 (fun i hi => by unfold lay_Cc; rw [if_neg (by omega), if_neg (by omega), if_neg (by omega), if_pos (by omega), show 97 + i - 97 = i by omega]) (fun i hi k => by unfold valCc; rw [if_neg (by omega), if_neg (by omega), if_neg (by omega), if_pos (by omega), show 97 + i - 97 = i by omega]) ((([some none, some none, some none, some none, some none, some none, some none, none].set 0 (some (some (o + 1)))).set 1 (some (some (o + 49)))).set 2 (some (some (o + 97))))
  refine x_aload_n d_Cc_init_37 rfl ?_
  refine x_new ns_Cc_7 (List.cons_ne_nil _ _) d_Cc_init_38 (by decide) (by decide) ?_
  refine x_dup d_Cc_init_41 rfl ?_
  refine x_callI (M' := M_Bk_init) (As := []) d_Cc_init_42 ml_Cc_9 v_Bk_init rfl rfl rfl (Nat.le_of_ble_eq_true rfl) (ct_Bk_init (us_at _ _ _) (fun k => by rw [zm_at])) (fun v4 N4 sh4 mem4 q4 => ?_)
  obtain ⟨rfl, hN, q4⟩ := q4
  have hN : N4 = some (o + 193) := hN
  subst hN
  refine x_putR (b3.at (by omega) q4) rfl ps_Cc_22 (fun _ => rfl) (fun _ => rfl) rfl d_Cc_init_45 ?_
  have b4 := b3.part (lay2 := lay_Bk) (val2 := valBk) (by omega) (by omega) q4 (fun i hi => by unfold lay_Cc; rw [if_neg (by omega), if_neg (by omega), if_neg (by omega), if_neg (by omega), if_pos (by omega), show 145 + i - 145 = i by omega]) (fun i hi k => by unfold valCc; rw [if_neg (by omega), if_neg (by omega), if_neg (by omega), if_neg (by omega), if_pos (by omega), show 145 + i - 145 = i by omega]) (((([some none, some none, some none, some none, some none, some none, some none, none].set 0 (some (some (o + 1)))).set 1 (some (some (o + 49)))).set 2 (some (some (o + 97)))).set 3 (some (some (o + 145))))
  refine x_aload_n d_Cc_init_48 rfl ?_
  refine x_new ns_Cc_25 (List.cons_ne_nil _ _) d_Cc_init_49 (by decide) (by decide) ?_
  refine x_dup d_Cc_init_52 rfl ?_
  refine x_callI (M' := M_Hi_init) (As := []) d_Cc_init_53 ml_Cc_27 v_Hi_init rfl rfl rfl (Nat.le_of_ble_eq_true rfl) (ct_Hi_init (us_at _ _ _) (fun k => by rw [zm_at])) (fun v5 N5 sh5 mem5 q5 => ?_)
  obtain ⟨rfl, hN, q5⟩ := q5
  have hN : N5 = some (o + 387) := hN
  subst hN
  refine x_putR (b4.at (by omega) q5) rfl ps_Cc_28 (fun _ => rfl) (fun _ => rfl) rfl d_Cc_init_56 ?_
  have b5 := b4.part (lay2 := lay_Hi) (val2 := valHi) (by omega) (by omega) q5 (fun i hi => by unfold lay_Cc; rw [if_neg (by omega), if_neg (by omega), if_neg (by omega), if_neg (by omega), if_neg (by omega), if_pos (by omega), show 193 + i - 193 = i by omega]) (fun i hi k => by unfold valCc; rw [if_neg (by omega), if_neg (by omega), if_neg (by omega), if_neg (by omega), if_neg (by omega), if_pos (by omega), show 193 + i - 193 = i by omega]) ((((([some none, some none, some none, some none, some none, some none, some none, none].set 0 (some (some (o + 1)))).set 1 (some (some (o + 49)))).set 2 (some (some (o + 97)))).set 3 (some (some (o + 145)))).set 4 (some (some (o + 193))))
  refine x_aload_n d_Cc_init_59 rfl ?_
  refine x_new ns_Cc_32 (List.cons_ne_nil _ _) d_Cc_init_60 (by decide) (by decide) ?_
  refine x_dup d_Cc_init_63 rfl ?_
  refine x_callIN (M' := M_Te_init) (As := []) d_Cc_init_64 mn_Cc_34 v_Te_init rfl rfl rfl (Nat.le_of_ble_eq_true rfl) (ct_Te_init (us_at _ _ _) (fun k => by rw [zm_at])) (fun v6 N6 sh6 mem6 q6 => ?_)
  obtain ⟨rfl, hN, q6⟩ := q6
  have hN : N6 = some (o + 409) := hN
  subst hN
  refine x_putR (b5.at (by omega) q6) rfl ps_Cc_35 (fun _ => rfl) (fun _ => rfl) rfl d_Cc_init_67 ?_
  have b6 := b5.part (lay2 := lay_Te) (val2 := zv) (by omega) (by omega) q6 (fun i hi => by unfold lay_Cc; rw [if_neg (by omega), if_neg (by omega), if_neg (by omega), if_neg (by omega), if_neg (by omega), if_neg (by omega), if_pos (by omega), show 387 + i - 387 = i by omega]) (fun i hi k => by unfold valCc; rw [if_neg (by omega), if_neg (by omega), if_neg (by omega), if_neg (by omega), if_neg (by omega), if_neg (by omega)]; rfl) (((((([some none, some none, some none, some none, some none, some none, some none, none].set 0 (some (some (o + 1)))).set 1 (some (some (o + 49)))).set 2 (some (some (o + 97)))).set 3 (some (some (o + 145)))).set 4 (some (some (o + 193)))).set 5 (some (some (o + 387))))
  refine x_aload_n d_Cc_init_70 rfl ?_
  refine x_new ns_Cc_39 (List.cons_ne_nil _ _) d_Cc_init_71 (by decide) (by decide) ?_
  refine x_dup d_Cc_init_74 rfl ?_
  refine x_callIN (M' := M_Ch_init) (As := []) d_Cc_init_75 mn_Cc_41 v_Ch_init rfl rfl rfl (Nat.le_of_ble_eq_true rfl) (ct_Ch_init (us_at _ _ _) (fun k => by rw [zm_at])) (fun v7 N7 sh7 mem7 q7 => ?_)
  obtain ⟨rfl, hN, q7⟩ := q7
  have hN : N7 = some (o + 410) := hN
  subst hN
  refine x_putR (b6.at (by omega) q7) rfl ps_Cc_42 (fun _ => rfl) (fun _ => rfl) rfl d_Cc_init_78 ?_
  have b7 := b6.part (lay2 := lay_Ch) (val2 := zv) (by omega) (by omega) q7 (fun i hi => by unfold lay_Cc; rw [if_neg (by omega), if_neg (by omega), if_neg (by omega), if_neg (by omega), if_neg (by omega), if_neg (by omega), if_neg (by omega), if_pos (by omega), show 409 + i - 409 = i by omega]) (fun i hi k => by unfold valCc; rw [if_neg (by omega), if_neg (by omega), if_neg (by omega), if_neg (by omega), if_neg (by omega), if_neg (by omega)]; rfl) ((((((([some none, some none, some none, some none, some none, some none, some none, none].set 0 (some (some (o + 1)))).set 1 (some (some (o + 49)))).set 2 (some (some (o + 97)))).set 3 (some (some (o + 145)))).set 4 (some (some (o + 193)))).set 5 (some (some (o + 387)))).set 6 (some (some (o + 409))))
  refine x_vret rfl d_Cc_init_81 (by decide) (by decide) ?_
  exact b7.fin rfl (fun _ => rfl)
end
