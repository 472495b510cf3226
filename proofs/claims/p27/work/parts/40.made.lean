/-! what the constructors make -/
def zv : Nat → Nat → Int32 := fun _ _ => 0
def lay_Rw (s ρ i : Nat) : Sh := if i = 0 then .inl (7, [some (some (ρ + 1))]) else .inr (.inl s)
def NwQ (lay : Nat → Nat → Sh) (val : Nat → Nat → Int32) (z o : Nat) (sh : Nat → Sh) (mem : Mem) : XP := fun v N' sh' mem' => v = none ∧ N' = some (o + z) ∧ (∀ i, i < z → sh' (o + i) = lay o i) ∧ (∀ q, (q < o ∨ o + z ≤ q) → sh' q = sh q) ∧ (∀ i, i < z → ∀ k, mem' (o + i) k = val i k) ∧ ∀ q, (q < o ∨ o + z ≤ q) → mem' q = mem q
def Bd (lay : Nat → Nat → Sh) (val : Nat → Nat → Int32) (o m ci : Nat) (fs : List (Option (Option Nat))) (sh : Nat → Sh) (mem : Mem) (sh' : Nat → Sh) (mem' : Mem) : Prop := (∀ i, 1 ≤ i → i < m → sh' (o + i) = lay o i) ∧ sh' o = .inl (ci, fs) ∧ (∀ q, (q < o ∨ o + m ≤ q) → sh' q = sh q) ∧ (∀ i, 1 ≤ i → i < m → ∀ k, mem' (o + i) k = val i k) ∧ (∀ k, mem' o k = 0) ∧ ∀ q, (q < o ∨ o + m ≤ q) → mem' q = mem q
theorem Bd.start {lay : Nat → Nat → Sh} {val : Nat → Nat → Int32} {o ci : Nat} {fs : List (Option (Option Nat))} {sh : Nat → Sh} {mem : Mem} (h0 : sh o = .inl (ci, fs)) (hm : ∀ k, mem o k = 0) : Bd lay val o 1 ci fs sh mem sh mem := ⟨fun i h1 h2 => absurd h2 (by omega), h0, fun _ _ => rfl, fun i h1 h2 => absurd h2 (by omega), hm, fun _ _ => rfl⟩
section
variable {lay lay2 : Nat → Nat → Sh} {val val2 : Nat → Nat → Int32} {o m z ci : Nat} {fs : List (Option (Option Nat))} {sh sh1 sh2 : Nat → Sh} {mem mem1 mem2 : Mem} {x : Sh}
abbrev NwR (lay : Nat → Nat → Sh) (val : Nat → Nat → Int32) (z o : Nat) (sh : Nat → Sh) (mem : Mem) (sh' : Nat → Sh) (mem' : Mem) : Prop := (∀ i, i < z → sh' (o + i) = lay o i) ∧ (∀ q, (q < o ∨ o + z ≤ q) → sh' q = sh q) ∧ (∀ i, i < z → ∀ k, mem' (o + i) k = val i k) ∧ ∀ q, (q < o ∨ o + z ≤ q) → mem' q = mem q
theorem Bd.at (h : Bd lay val o m ci fs sh mem sh1 mem1) (hm : 1 ≤ m) (hq : NwR lay2 val2 z (o + m) (us sh1 (o + m) x) (zm mem1 (o + m)) sh2 mem2) : sh2 o = .inl (ci, fs) := by
  rw [hq.2.1 o (by omega), us_ne _ _ (by omega)]
  exact h.2.1
theorem Bd.part (h : Bd lay val o m ci fs sh mem sh1 mem1) (hm : 1 ≤ m) (hz : 1 ≤ z) (hq : NwR lay2 val2 z (o + m) (us sh1 (o + m) x) (zm mem1 (o + m)) sh2 mem2) (hl : ∀ i, i < z → lay2 (o + m) i = lay o (m + i)) (hv : ∀ i, i < z → ∀ k, val2 i k = val (m + i) k) (fs' : List (Option (Option Nat))) : Bd lay val o (m + z) ci fs' sh mem (us sh2 o (.inl (ci, fs'))) mem2 := by
  obtain ⟨h1, h2, h3, h4, h5, h6⟩ := h
  obtain ⟨q1, q2, q3, q4⟩ := hq
  refine ⟨fun i i1 i2 => ?_, us_at _ _ _, fun q hq => ?_, fun i i1 i2 k => ?_, fun k => ?_, fun q hq => ?_⟩
  · rw [us_ne _ _ (by omega)]
    by_cases hi : i < m
    · rw [q2 _ (by omega), us_ne _ _ (by omega)]
      exact h1 i i1 hi
    · have h7 := q1 (i - m) (by omega)
      rw [hl _ (by omega), show o + m + (i - m) = o + i by omega, show m + (i - m) = i by omega] at h7
      exact h7
  · rw [us_ne _ _ (by omega), q2 _ (by omega), us_ne _ _ (by omega)]
    exact h3 q (by omega)
  · by_cases hi : i < m
    · rw [q4 _ (by omega), zm_ne _ (by omega)]
      exact h4 i i1 hi k
    · have h7 := q3 (i - m) (by omega) k
      rw [hv _ (by omega), show o + m + (i - m) = o + i by omega, show m + (i - m) = i by omega] at h7
      exact h7
  · rw [q4 _ (by omega), zm_ne _ (by omega)]
    exact h5 k
  · rw [q4 _ (by omega), zm_ne _ (by omega)]
    exact h6 q (by omega)
theorem Bd.fin (h : Bd lay val o z ci fs sh mem sh1 mem1) (h0 : lay o 0 = .inl (ci, fs)) (hv : ∀ k, val 0 k = 0) : NwQ lay val z o sh mem none (some (o + z)) sh1 mem1 := by
  obtain ⟨h1, h2, h3, h4, h5, h6⟩ := h
  refine ⟨rfl, rfl, fun i hi => ?_, h3, fun i hi k => ?_, h6⟩
  · by_cases hz : i = 0
    · rw [hz, h0]
      exact h2
    · exact h1 i (by omega) hi
  · by_cases hz : i = 0
    · rw [hz, hv]
      exact h5 k
    · exact h4 i (by omega) hi k
end
section
variable {l : Launch} {g : XG} {sh : Nat → Sh} {mem : Mem} {o : Nat}
theorem ct_Rw_init {s : Nat} (hs : s ≤ 720) (h0 : sh o = .inl (7, [some none])) (hm : ∀ k, mem o k = 0) : Ct l g M_Rw_init [rf g o, .int (nI s)] (some (o + 1)) sh mem (NwQ (lay_Rw s) zv 2 o sh mem) := by
  refine x_begin rfl rfl rfl (by decide) rfl ?_
  refine x_aload_n d_Rw_init_0 rfl ?_
  refine x_objInit ml_Rw_1 j_obj1 j_obj2 d_Rw_init_1 (by decide) (by decide) ?_
  refine x_aload_n d_Rw_init_4 rfl ?_
  refine x_iload_n d_Rw_init_5 rfl ?_
  refine x_if_ge (tgt := 13) d_Rw_init_6 (by decide) (fun c6 => ?_) (fun c6 => absurd (nI_pos' (by omega)) c6)
  refine x_iload_n d_Rw_init_13 rfl ?_
  refine x_newa ac_int (nI_pos (by omega)) (nI_clamp (by omega)) (by omega) d_Rw_init_14 (by decide) (show 0 + s ≤ 720 by omega) ?_
  refine x_putR (us_ne _ _ (by omega) |>.trans h0) rfl ps_Rw_7 (fun _ => rfl) (fun _ => rfl) rfl d_Rw_init_16 ?_
  refine x_vret rfl d_Rw_init_19 (by decide) (show 0 + s ≤ 720 by omega) ?_
  refine ⟨rfl, rfl, fun i hi => ?_, fun q hq => ?_, fun i hi k => ?_, fun q hq => ?_⟩
  · rcases (show i = 0 ∨ i = 1 by omega) with rfl | rfl
    · exact us_at _ _ _
    · rw [us_ne _ _ (by omega)]
      exact us_at _ _ _
  · rw [us_ne _ _ (by omega), us_ne _ _ (by omega)]
  · rcases (show i = 0 ∨ i = 1 by omega) with rfl | rfl
    · rw [zm_ne _ (by omega)]
      exact hm k
    · rw [zm_at]
      rfl
  · rw [zm_ne _ (by omega)]
theorem ct_Ro_init (h0 : sh o = .inl (4, [none, some none, some none, some none, some none, some none, some none, some none, some none])) (hm : ∀ k, mem o k = 0) : Ct l g M_Ro_init [rf g o] (some (o + 1)) sh mem (NwQ lay_Ro zv 17 o sh mem) := by
  refine x_begin rfl rfl rfl (by decide) rfl ?_
  have b0 := Bd.start (lay := lay_Ro) (val := zv) h0 hm
  refine x_aload_n d_Ro_init_0 rfl ?_
  refine x_objInit ml_Ro_3 j_obj1 j_obj2 d_Ro_init_1 (by decide) (by decide) ?_
  refine x_aload_n d_Ro_init_4 rfl ?_
  refine x_new ns_Ro_9 (List.cons_ne_nil _ _) d_Ro_init_5 (by decide) (by decide) ?_
  refine x_dup d_Ro_init_8 rfl ?_
  refine x_bipush (v := nI 12) d_Ro_init_9 (by decide) ?_
  refine x_callI (M' := M_Rw_init) (As := [.int (nI 12)]) d_Ro_init_11 ml_Ro_11 v_Rw_init rfl rfl rfl (Nat.le_of_ble_eq_true rfl) (ct_Rw_init (s := 12) (by omega) (us_at _ _ _) (fun k => by rw [zm_at])) (fun v1 N1 sh1 mem1 q1 => ?_)
  obtain ⟨rfl, hN, q1⟩ := q1
  have hN : N1 = some (o + 3) := hN
  subst hN
  refine x_putR (b0.at (by omega) q1) rfl ps_Ro_14 (fun _ => rfl) (fun _ => rfl) rfl d_Ro_init_14 ?_
  have b1 := b0.part (lay2 := (lay_Rw 12)) (val2 := zv) (by omega) (by omega) q1 (fun i hi => by rcases (show i = 0 ∨ i = 1 by omega) with rfl | rfl <;> rfl) (fun i hi k => by rcases (show i = 0 ∨ i = 1 by omega) with rfl | rfl <;> rfl) ([none, some none, some none, some none, some none, some none, some none, some none, some none].set 1 (some (some (o + 1))))
  refine x_aload_n d_Ro_init_17 rfl ?_
  refine x_new ns_Ro_9 (List.cons_ne_nil _ _) d_Ro_init_18 (by decide) (by decide) ?_
  refine x_dup d_Ro_init_21 rfl ?_
  refine x_bipush (v := nI 12) d_Ro_init_22 (by decide) ?_
  refine x_callI (M' := M_Rw_init) (As := [.int (nI 12)]) d_Ro_init_24 ml_Ro_11 v_Rw_init rfl rfl rfl (Nat.le_of_ble_eq_true rfl) (ct_Rw_init (s := 12) (by omega) (us_at _ _ _) (fun k => by rw [zm_at])) (fun v2 N2 sh2 mem2 q2 => ?_)
  obtain ⟨rfl, hN, q2⟩ := q2
  have hN : N2 = some (o + 5) := hN
  subst hN
  refine x_putR (b1.at (by omega) q2) rfl ps_Ro_20 (fun _ => rfl) (fun _ => rfl) rfl d_Ro_init_27 ?_
  have b2 := b1.part (lay2 := (lay_Rw 12)) (val2 := zv) (by omega) (by omega) q2 (fun i hi => by rcases (show i = 0 ∨ i = 1 by omega) with rfl | rfl <;> rfl) (fun i hi k => by rcases (show i = 0 ∨ i = 1 by omega) with rfl | rfl <;> rfl) (([none, some none, some none, some none, some none, some none, some none, some none, some none].set 1 (some (some (o + 1)))).set 2 (some (some (o + 3))))
  refine x_aload_n d_Ro_init_30 rfl ?_
  refine x_new ns_Ro_9 (List.cons_ne_nil _ _) d_Ro_init_31 (by decide) (by decide) ?_
  refine x_dup d_Ro_init_34 rfl ?_
  refine x_bipush (v := nI 12) d_Ro_init_35 (by decide) ?_
  refine x_callI (M' := M_Rw_init) (As := [.int (nI 12)]) d_Ro_init_37 ml_Ro_11 v_Rw_init rfl rfl rfl (Nat.le_of_ble_eq_true rfl) (ct_Rw_init (s := 12) (by omega) (us_at _ _ _) (fun k => by rw [zm_at])) (fun v3 N3 sh3 mem3 q3 => ?_)
  obtain ⟨rfl, hN, q3⟩ := q3
  have hN : N3 = some (o + 7) := hN
  subst hN
  refine x_putR (b2.at (by omega) q3) rfl ps_Ro_23 (fun _ => rfl) (fun _ => rfl) rfl d_Ro_init_40 ?_
  have b3 := b2.part (lay2 := (lay_Rw 12)) (val2 := zv) (by omega) (by omega) q3 (fun i hi => by rcases (show i = 0 ∨ i = 1 by omega) with rfl | rfl <;> rfl) (fun i hi k => by rcases (show i = 0 ∨ i = 1 by omega) with rfl | rfl <;> rfl) ((([none, some none, some none, some none, some none, some none, some none, some none, some none].set 1 (some (some (o + 1)))).set 2 (some (some (o + 3)))).set 3 (some (some (o + 5))))
  refine x_aload_n d_Ro_init_43 rfl ?_
  refine x_new ns_Ro_9 (List.cons_ne_nil _ _) d_Ro_init_44 (by decide) (by decide) ?_
  refine x_dup d_Ro_init_47 rfl ?_
  refine x_bipush (v := nI 12) d_Ro_init_48 (by decide) ?_
  refine x_callI (M' := M_Rw_init) (As := [.int (nI 12)]) d_Ro_init_50 ml_Ro_11 v_Rw_init rfl rfl rfl (Nat.le_of_ble_eq_true rfl) (ct_Rw_init (s := 12) (by omega) (us_at _ _ _) (fun k => by rw [zm_at])) (fun v4 N4 sh4 mem4 q4 => ?_)
  obtain ⟨rfl, hN, q4⟩ := q4
  have hN : N4 = some (o + 9) := hN
  subst hN
  refine x_putR (b3.at (by omega) q4) rfl ps_Ro_26 (fun _ => rfl) (fun _ => rfl) rfl d_Ro_init_53 ?_
  have b4 := b3.part (lay2 := (lay_Rw 12)) (val2 := zv) (by omega) (by omega) q4 (fun i hi => by rcases (show i = 0 ∨ i = 1 by omega) with rfl | rfl <;> rfl) (fun i hi k => by rcases (show i = 0 ∨ i = 1 by omega) with rfl | rfl <;> rfl) (((([none, some none, some none, some none, some none, some none, some none, some none, some none].set 1 (some (some (o + 1)))).set 2 (some (some (o + 3)))).set 3 (some (some (o + 5)))).set 4 (some (some (o + 7))))
  refine x_aload_n d_Ro_init_56 rfl ?_
  refine x_new ns_Ro_9 (List.cons_ne_nil _ _) d_Ro_init_57 (by decide) (by decide) ?_
  refine x_dup d_Ro_init_60 rfl ?_
  refine x_bipush (v := nI 12) d_Ro_init_61 (by decide) ?_
  refine x_callI (M' := M_Rw_init) (As := [.int (nI 12)]) d_Ro_init_63 ml_Ro_11 v_Rw_init rfl rfl rfl (Nat.le_of_ble_eq_true rfl) (ct_Rw_init (s := 12) (by omega) (us_at _ _ _) (fun k => by rw [zm_at])) (fun v5 N5 sh5 mem5 q5 => ?_)
  obtain ⟨rfl, hN, q5⟩ := q5
  have hN : N5 = some (o + 11) := hN
  subst hN
  refine x_putR (b4.at (by omega) q5) rfl ps_Ro_29 (fun _ => rfl) (fun _ => rfl) rfl d_Ro_init_66 ?_
  have b5 := b4.part (lay2 := (lay_Rw 12)) (val2 := zv) (by omega) (by omega) q5 (fun i hi => by rcases (show i = 0 ∨ i = 1 by omega) with rfl | rfl <;> rfl) (fun i hi k => by rcases (show i = 0 ∨ i = 1 by omega) with rfl | rfl <;> rfl) ((((([none, some none, some none, some none, some none, some none, some none, some none, some none].set 1 (some (some (o + 1)))).set 2 (some (some (o + 3)))).set 3 (some (some (o + 5)))).set 4 (some (some (o + 7)))).set 5 (some (some (o + 9))))
  refine x_aload_n d_Ro_init_69 rfl ?_
  refine x_new ns_Ro_9 (List.cons_ne_nil _ _) d_Ro_init_70 (by decide) (by decide) ?_
  refine x_dup d_Ro_init_73 rfl ?_
  refine x_bipush (v := nI 12) d_Ro_init_74 (by decide) ?_
  refine x_callI (M' := M_Rw_init) (As := [.int (nI 12)]) d_Ro_init_76 ml_Ro_11 v_Rw_init rfl rfl rfl (Nat.le_of_ble_eq_true rfl) (ct_Rw_init (s := 12) (by omega) (us_at _ _ _) (fun k => by rw [zm_at])) (fun v6 N6 sh6 mem6 q6 => ?_)
  obtain ⟨rfl, hN, q6⟩ := q6
  have hN : N6 = some (o + 13) := hN
  subst hN
  refine x_putR (b5.at (by omega) q6) rfl ps_Ro_32 (fun _ => rfl) (fun _ => rfl) rfl d_Ro_init_79 ?_
  have b6 := b5.part (lay2 := (lay_Rw 12)) (val2 := zv) (by omega) (by omega) q6 (fun i hi => by rcases (show i = 0 ∨ i = 1 by omega) with rfl | rfl <;> rfl) (fun i hi k => by rcases (show i = 0 ∨ i = 1 by omega) with rfl | rfl <;> rfl) (((((([none, some none, some none, some none, some none, some none, some none, some none, some none].set 1 (some (some (o + 1)))).set 2 (some (some (o + 3)))).set 3 (some (some (o + 5)))).set 4 (some (some (o + 7)))).set 5 (some (some (o + 9)))).set 6 (some (some (o + 11))))
  refine x_aload_n d_Ro_init_82 rfl ?_
  refine x_new ns_Ro_9 (List.cons_ne_nil _ _) d_Ro_init_83 (by decide) (by decide) ?_
  refine x_dup d_Ro_init_86 rfl ?_
  refine x_bipush (v := nI 12) d_Ro_init_87 (by decide) ?_
  refine x_callI (M' := M_Rw_init) (As := [.int (nI 12)]) d_Ro_init_89 ml_Ro_11 v_Rw_init rfl rfl rfl (Nat.le_of_ble_eq_true rfl) (ct_Rw_init (s := 12) (by omega) (us_at _ _ _) (fun k => by rw [zm_at])) (fun v7 N7 sh7 mem7 q7 => ?_)
  obtain ⟨rfl, hN, q7⟩ := q7
  have hN : N7 = some (o + 15) := hN
  subst hN
  refine x_putR (b6.at (by omega) q7) rfl ps_Ro_35 (fun _ => rfl) (fun _ => rfl) rfl d_Ro_init_92 ?_
  have b7 := b6.part (lay2 := (lay_Rw 12)) (val2 := zv) (by omega) (by omega) q7 (fun i hi => by rcases (show i = 0 ∨ i = 1 by omega) with rfl | rfl <;> rfl) (fun i hi k => by rcases (show i = 0 ∨ i = 1 by omega) with rfl | rfl <;> rfl) ((((((([none, some none, some none, some none, some none, some none, some none, some none, some none].set 1 (some (some (o + 1)))).set 2 (some (some (o + 3)))).set 3 (some (some (o + 5)))).set 4 (some (some (o + 7)))).set 5 (some (some (o + 9)))).set 6 (some (some (o + 11)))).set 7 (some (some (o + 13))))
  refine x_aload_n d_Ro_init_95 rfl ?_
  refine x_new ns_Ro_9 (List.cons_ne_nil _ _) d_Ro_init_96 (by decide) (by decide) ?_
  refine x_dup d_Ro_init_99 rfl ?_
  refine x_bipush (v := nI 12) d_Ro_init_100 (by decide) ?_
  refine x_callI (M' := M_Rw_init) (As := [.int (nI 12)]) d_Ro_init_102 ml_Ro_11 v_Rw_init rfl rfl rfl (Nat.le_of_ble_eq_true rfl) (ct_Rw_init (s := 12) (by omega) (us_at _ _ _) (fun k => by rw [zm_at])) (fun v8 N8 sh8 mem8 q8 => ?_)
  obtain ⟨rfl, hN, q8⟩ := q8
  have hN : N8 = some (o + 17) := hN
  subst hN
  refine x_putR (b7.at (by omega) q8) rfl ps_Ro_38 (fun _ => rfl) (fun _ => rfl) rfl d_Ro_init_105 ?_
  have b8 := b7.part (lay2 := (lay_Rw 12)) (val2 := zv) (by omega) (by omega) q8 (fun i hi => by rcases (show i = 0 ∨ i = 1 by omega) with rfl | rfl <;> rfl) (fun i hi k => by rcases (show i = 0 ∨ i = 1 by omega) with rfl | rfl <;> rfl) (((((((([none, some none, some none, some none, some none, some none, some none, some none, some none].set 1 (some (some (o + 1)))).set 2 (some (some (o + 3)))).set 3 (some (some (o + 5)))).set 4 (some (some (o + 7)))).set 5 (some (some (o + 9)))).set 6 (some (some (o + 11)))).set 7 (some (some (o + 13)))).set 8 (some (some (o + 15))))
  refine x_vret rfl d_Ro_init_108 (by decide) (by decide) ?_
  exact b8.fin rfl (fun _ => rfl)
theorem ct_Of_init (h0 : sh o = .inl (3, [none, none, some none, some none, some none, some none])) (hm : ∀ k, mem o k = 0) : Ct l g M_Of_init [rf g o] (some (o + 1)) sh mem (NwQ lay_Of zv 9 o sh mem) := by
  refine x_begin rfl rfl rfl (by decide) rfl ?_
  have b0 := Bd.start (lay := lay_Of) (val := zv) h0 hm
  refine x_aload_n d_Of_init_0 rfl ?_
  refine x_objInit ml_Of_3 j_obj1 j_obj2 d_Of_init_1 (by decide) (by decide) ?_
  refine x_aload_n d_Of_init_4 rfl ?_
  refine x_new ns_Of_9 (List.cons_ne_nil _ _) d_Of_init_5 (by decide) (by decide) ?_
  refine x_dup d_Of_init_8 rfl ?_
  refine x_bipush (v := nI 60) d_Of_init_9 (by decide) ?_
  refine x_callI (M' := M_Rw_init) (As := [.int (nI 60)]) d_Of_init_11 ml_Of_11 v_Rw_init rfl rfl rfl (Nat.le_of_ble_eq_true rfl) (ct_Rw_init (s := 60) (by omega) (us_at _ _ _) (fun k => by rw [zm_at])) (fun v1 N1 sh1 mem1 q1 => ?_)
  obtain ⟨rfl, hN, q1⟩ := q1
  have hN : N1 = some (o + 3) := hN
  subst hN
  refine x_putR (b0.at (by omega) q1) rfl ps_Of_14 (fun _ => rfl) (fun _ => rfl) rfl d_Of_init_14 ?_
  have b1 := b0.part (lay2 := (lay_Rw 60)) (val2 := zv) (by omega) (by omega) q1 (fun i hi => by rcases (show i = 0 ∨ i = 1 by omega) with rfl | rfl <;> rfl) (fun i hi k => by rcases (show i = 0 ∨ i = 1 by omega) with rfl | rfl <;> rfl) ([none, none, some none, some none, some none, some none].set 2 (some (some (o + 1))))
  refine x_aload_n d_Of_init_17 rfl ?_
  refine x_new ns_Of_9 (List.cons_ne_nil _ _) d_Of_init_18 (by decide) (by decide) ?_
  refine x_dup d_Of_init_21 rfl ?_
  refine x_bipush (v := nI 60) d_Of_init_22 (by decide) ?_
  refine x_callI (M' := M_Rw_init) (As := [.int (nI 60)]) d_Of_init_24 ml_Of_11 v_Rw_init rfl rfl rfl (Nat.le_of_ble_eq_true rfl) (ct_Rw_init (s := 60) (by omega) (us_at _ _ _) (fun k => by rw [zm_at])) (fun v2 N2 sh2 mem2 q2 => ?_)
  obtain ⟨rfl, hN, q2⟩ := q2
  have hN : N2 = some (o + 5) := hN
  subst hN
  refine x_putR (b1.at (by omega) q2) rfl ps_Of_20 (fun _ => rfl) (fun _ => rfl) rfl d_Of_init_27 ?_
  have b2 := b1.part (lay2 := (lay_Rw 60)) (val2 := zv) (by omega) (by omega) q2 (fun i hi => by rcases (show i = 0 ∨ i = 1 by omega) with rfl | rfl <;> rfl) (fun i hi k => by rcases (show i = 0 ∨ i = 1 by omega) with rfl | rfl <;> rfl) (([none, none, some none, some none, some none, some none].set 2 (some (some (o + 1)))).set 3 (some (some (o + 3))))
  refine x_aload_n d_Of_init_30 rfl ?_
  refine x_new ns_Of_9 (List.cons_ne_nil _ _) d_Of_init_31 (by decide) (by decide) ?_
  refine x_dup d_Of_init_34 rfl ?_
  refine x_bipush (v := nI 60) d_Of_init_35 (by decide) ?_
  refine x_callI (M' := M_Rw_init) (As := [.int (nI 60)]) d_Of_init_37 ml_Of_11 v_Rw_init rfl rfl rfl (Nat.le_of_ble_eq_true rfl) (ct_Rw_init (s := 60) (by omega) (us_at _ _ _) (fun k => by rw [zm_at])) (fun v3 N3 sh3 mem3 q3 => ?_)
  obtain ⟨rfl, hN, q3⟩ := q3
  have hN : N3 = some (o + 7) := hN
  subst hN
  refine x_putR (b2.at (by omega) q3) rfl ps_Of_23 (fun _ => rfl) (fun _ => rfl) rfl d_Of_init_40 ?_
  have b3 := b2.part (lay2 := (lay_Rw 60)) (val2 := zv) (by omega) (by omega) q3 (fun i hi => by rcases (show i = 0 ∨ i = 1 by omega) with rfl | rfl <;> rfl) (fun i hi k => by rcases (show i = 0 ∨ i = 1 by omega) with rfl | rfl <;> rfl) ((([none, none, some none, some none, some none, some none].set 2 (some (some (o + 1)))).set 3 (some (some (o + 3)))).set 4 (some (some (o + 5))))
  refine x_aload_n d_Of_init_43 rfl ?_
  refine x_new ns_Of_9 (List.cons_ne_nil _ _) d_Of_init_44 (by decide) (by decide) ?_
  refine x_dup d_Of_init_47 rfl ?_
  refine x_bipush (v := nI 60) d_Of_init_48 (by decide) ?_
  refine x_callI (M' := M_Rw_init) (As := [.int (nI 60)]) d_Of_init_50 ml_Of_11 v_Rw_init rfl rfl rfl (Nat.le_of_ble_eq_true rfl) (ct_Rw_init (s := 60) (by omega) (us_at _ _ _) (fun k => by rw [zm_at])) (fun v4 N4 sh4 mem4 q4 => ?_)
  obtain ⟨rfl, hN, q4⟩ := q4
  have hN : N4 = some (o + 9) := hN
  subst hN
  refine x_putR (b3.at (by omega) q4) rfl ps_Of_26 (fun _ => rfl) (fun _ => rfl) rfl d_Of_init_53 ?_
  have b4 := b3.part (lay2 := (lay_Rw 60)) (val2 := zv) (by omega) (by omega) q4 (fun i hi => by rcases (show i = 0 ∨ i = 1 by omega) with rfl | rfl <;> rfl) (fun i hi k => by rcases (show i = 0 ∨ i = 1 by omega) with rfl | rfl <;> rfl) (((([none, none, some none, some none, some none, some none].set 2 (some (some (o + 1)))).set 3 (some (some (o + 3)))).set 4 (some (some (o + 5)))).set 5 (some (some (o + 7))))
  refine x_vret rfl d_Of_init_56 (by decide) (by decide) ?_
  exact b4.fin rfl (fun _ => rfl)
theorem ct_Rm_init (h0 : sh o = .inl (6, [none, some none, some none, some none, some none, some none, some none, some none, some none, some none])) (hm : ∀ k, mem o k = 0) : Ct l g M_Rm_init [rf g o] (some (o + 1)) sh mem (NwQ lay_Rm zv 19 o sh mem) := by
  refine x_begin rfl rfl rfl (by decide) rfl ?_
  have b0 := Bd.start (lay := lay_Rm) (val := zv) h0 hm
  refine x_aload_n d_Rm_init_0 rfl ?_
  refine x_objInit ml_Rm_3 j_obj1 j_obj2 d_Rm_init_1 (by decide) (by decide) ?_
  refine x_aload_n d_Rm_init_4 rfl ?_
  refine x_new ns_Rm_9 (List.cons_ne_nil _ _) d_Rm_init_5 (by decide) (by decide) ?_
  refine x_dup d_Rm_init_8 rfl ?_
  refine x_bipush (v := nI 20) d_Rm_init_9 (by decide) ?_
  refine x_callI (M' := M_Rw_init) (As := [.int (nI 20)]) d_Rm_init_11 ml_Rm_11 v_Rw_init rfl rfl rfl (Nat.le_of_ble_eq_true rfl) (ct_Rw_init (s := 20) (by omega) (us_at _ _ _) (fun k => by rw [zm_at])) (fun v1 N1 sh1 mem1 q1 => ?_)
  obtain ⟨rfl, hN, q1⟩ := q1
  have hN : N1 = some (o + 3) := hN
  subst hN
  refine x_putR (b0.at (by omega) q1) rfl ps_Rm_14 (fun _ => rfl) (fun _ => rfl) rfl d_Rm_init_14 ?_
  have b1 := b0.part (lay2 := (lay_Rw 20)) (val2 := zv) (by omega) (by omega) q1 (fun i hi => by rcases (show i = 0 ∨ i = 1 by omega) with rfl | rfl <;> rfl) (fun i hi k => by rcases (show i = 0 ∨ i = 1 by omega) with rfl | rfl <;> rfl) ([none, some none, some none, some none, some none, some none, some none, some none, some none, some none].set 1 (some (some (o + 1))))
  refine x_aload_n d_Rm_init_17 rfl ?_
  refine x_new ns_Rm_9 (List.cons_ne_nil _ _) d_Rm_init_18 (by decide) (by decide) ?_
  refine x_dup d_Rm_init_21 rfl ?_
  refine x_bipush (v := nI 60) d_Rm_init_22 (by decide) ?_
  refine x_callI (M' := M_Rw_init) (As := [.int (nI 60)]) d_Rm_init_24 ml_Rm_11 v_Rw_init rfl rfl rfl (Nat.le_of_ble_eq_true rfl) (ct_Rw_init (s := 60) (by omega) (us_at _ _ _) (fun k => by rw [zm_at])) (fun v2 N2 sh2 mem2 q2 => ?_)
  obtain ⟨rfl, hN, q2⟩ := q2
  have hN : N2 = some (o + 5) := hN
  subst hN
  refine x_putR (b1.at (by omega) q2) rfl ps_Rm_20 (fun _ => rfl) (fun _ => rfl) rfl d_Rm_init_27 ?_
  have b2 := b1.part (lay2 := (lay_Rw 60)) (val2 := zv) (by omega) (by omega) q2 (fun i hi => by rcases (show i = 0 ∨ i = 1 by omega) with rfl | rfl <;> rfl) (fun i hi k => by rcases (show i = 0 ∨ i = 1 by omega) with rfl | rfl <;> rfl) (([none, some none, some none, some none, some none, some none, some none, some none, some none, some none].set 1 (some (some (o + 1)))).set 2 (some (some (o + 3))))
  refine x_aload_n d_Rm_init_30 rfl ?_
  refine x_new ns_Rm_9 (List.cons_ne_nil _ _) d_Rm_init_31 (by decide) (by decide) ?_
  refine x_dup d_Rm_init_34 rfl ?_
  refine x_bipush (v := nI 60) d_Rm_init_35 (by decide) ?_
  refine x_callI (M' := M_Rw_init) (As := [.int (nI 60)]) d_Rm_init_37 ml_Rm_11 v_Rw_init rfl rfl rfl (Nat.le_of_ble_eq_true rfl) (ct_Rw_init (s := 60) (by omega) (us_at _ _ _) (fun k => by rw [zm_at])) (fun v3 N3 sh3 mem3 q3 => ?_)
  obtain ⟨rfl, hN, q3⟩ := q3
  have hN : N3 = some (o + 7) := hN
  subst hN
  refine x_putR (b2.at (by omega) q3) rfl ps_Rm_23 (fun _ => rfl) (fun _ => rfl) rfl d_Rm_init_40 ?_
  have b3 := b2.part (lay2 := (lay_Rw 60)) (val2 := zv) (by omega) (by omega) q3 (fun i hi => by rcases (show i = 0 ∨ i = 1 by omega) with rfl | rfl <;> rfl) (fun i hi k => by rcases (show i = 0 ∨ i = 1 by omega) with rfl | rfl <;> rfl) ((([none, some none, some none, some none, some none, some none, some none, some none, some none, some none].set 1 (some (some (o + 1)))).set 2 (some (some (o + 3)))).set 3 (some (some (o + 5))))
  refine x_aload_n d_Rm_init_43 rfl ?_
  refine x_new ns_Rm_9 (List.cons_ne_nil _ _) d_Rm_init_44 (by decide) (by decide) ?_
  refine x_dup d_Rm_init_47 rfl ?_
  refine x_bipush (v := nI 20) d_Rm_init_48 (by decide) ?_
  refine x_callI (M' := M_Rw_init) (As := [.int (nI 20)]) d_Rm_init_50 ml_Rm_11 v_Rw_init rfl rfl rfl (Nat.le_of_ble_eq_true rfl) (ct_Rw_init (s := 20) (by omega) (us_at _ _ _) (fun k => by rw [zm_at])) (fun v4 N4 sh4 mem4 q4 => ?_)
  obtain ⟨rfl, hN, q4⟩ := q4
  have hN : N4 = some (o + 9) := hN
  subst hN
  refine x_putR (b3.at (by omega) q4) rfl ps_Rm_26 (fun _ => rfl) (fun _ => rfl) rfl d_Rm_init_53 ?_
  have b4 := b3.part (lay2 := (lay_Rw 20)) (val2 := zv) (by omega) (by omega) q4 (fun i hi => by rcases (show i = 0 ∨ i = 1 by omega) with rfl | rfl <;> rfl) (fun i hi k => by rcases (show i = 0 ∨ i = 1 by omega) with rfl | rfl <;> rfl) (((([none, some none, some none, some none, some none, some none, some none, some none, some none, some none].set 1 (some (some (o + 1)))).set 2 (some (some (o + 3)))).set 3 (some (some (o + 5)))).set 4 (some (some (o + 7))))
  refine x_aload_n d_Rm_init_56 rfl ?_
  refine x_new ns_Rm_9 (List.cons_ne_nil _ _) d_Rm_init_57 (by decide) (by decide) ?_
  refine x_dup d_Rm_init_60 rfl ?_
  refine x_bipush (v := nI 20) d_Rm_init_61 (by decide) ?_
  refine x_callI (M' := M_Rw_init) (As := [.int (nI 20)]) d_Rm_init_63 ml_Rm_11 v_Rw_init rfl rfl rfl (Nat.le_of_ble_eq_true rfl) (ct_Rw_init (s := 20) (by omega) (us_at _ _ _) (fun k => by rw [zm_at])) (fun v5 N5 sh5 mem5 q5 => ?_)
  obtain ⟨rfl, hN, q5⟩ := q5
  have hN : N5 = some (o + 11) := hN
  subst hN
  refine x_putR (b4.at (by omega) q5) rfl ps_Rm_29 (fun _ => rfl) (fun _ => rfl) rfl d_Rm_init_66 ?_
  have b5 := b4.part (lay2 := (lay_Rw 20)) (val2 := zv) (by omega) (by omega) q5 (fun i hi => by rcases (show i = 0 ∨ i = 1 by omega) with rfl | rfl <;> rfl) (fun i hi k => by rcases (show i = 0 ∨ i = 1 by omega) with rfl | rfl <;> rfl) ((((([none, some none, some none, some none, some none, some none, some none, some none, some none, some none].set 1 (some (some (o + 1)))).set 2 (some (some (o + 3)))).set 3 (some (some (o + 5)))).set 4 (some (some (o + 7)))).set 5 (some (some (o + 9))))
  refine x_aload_n d_Rm_init_69 rfl ?_
  refine x_new ns_Rm_9 (List.cons_ne_nil _ _) d_Rm_init_70 (by decide) (by decide) ?_
  refine x_dup d_Rm_init_73 rfl ?_
  refine x_bipush (v := nI 20) d_Rm_init_74 (by decide) ?_
  refine x_callI (M' := M_Rw_init) (As := [.int (nI 20)]) d_Rm_init_76 ml_Rm_11 v_Rw_init rfl rfl rfl (Nat.le_of_ble_eq_true rfl) (ct_Rw_init (s := 20) (by omega) (us_at _ _ _) (fun k => by rw [zm_at])) (fun v6 N6 sh6 mem6 q6 => ?_)
  obtain ⟨rfl, hN, q6⟩ := q6
  have hN : N6 = some (o + 13) := hN
  subst hN
  refine x_putR (b5.at (by omega) q6) rfl ps_Rm_32 (fun _ => rfl) (fun _ => rfl) rfl d_Rm_init_79 ?_
  have b6 := b5.part (lay2 := (lay_Rw 20)) (val2 := zv) (by omega) (by omega) q6 (fun i hi => by rcases (show i = 0 ∨ i = 1 by omega) with rfl | rfl <;> rfl) (fun i hi k => by rcases (show i = 0 ∨ i = 1 by omega) with rfl | rfl <;> rfl) (((((([none, some none, some none, some none, some none, some none, some none, some none, some none, some none].set 1 (some (some (o + 1)))).set 2 (some (some (o + 3)))).set 3 (some (some (o + 5)))).set 4 (some (some (o + 7)))).set 5 (some (some (o + 9)))).set 6 (some (some (o + 11))))
  refine x_aload_n d_Rm_init_82 rfl ?_
  refine x_new ns_Rm_9 (List.cons_ne_nil _ _) d_Rm_init_83 (by decide) (by decide) ?_
  refine x_dup d_Rm_init_86 rfl ?_
  refine x_bipush (v := nI 20) d_Rm_init_87 (by decide) ?_
  refine x_callI (M' := M_Rw_init) (As := [.int (nI 20)]) d_Rm_init_89 ml_Rm_11 v_Rw_init rfl rfl rfl (Nat.le_of_ble_eq_true rfl) (ct_Rw_init (s := 20) (by omega) (us_at _ _ _) (fun k => by rw [zm_at])) (fun v7 N7 sh7 mem7 q7 => ?_)
  obtain ⟨rfl, hN, q7⟩ := q7
  have hN : N7 = some (o + 15) := hN
  subst hN
  refine x_putR (b6.at (by omega) q7) rfl ps_Rm_35 (fun _ => rfl) (fun _ => rfl) rfl d_Rm_init_92 ?_
  have b7 := b6.part (lay2 := (lay_Rw 20)) (val2 := zv) (by omega) (by omega) q7 (fun i hi => by rcases (show i = 0 ∨ i = 1 by omega) with rfl | rfl <;> rfl) (fun i hi k => by rcases (show i = 0 ∨ i = 1 by omega) with rfl | rfl <;> rfl) ((((((([none, some none, some none, some none, some none, some none, some none, some none, some none, some none].set 1 (some (some (o + 1)))).set 2 (some (some (o + 3)))).set 3 (some (some (o + 5)))).set 4 (some (some (o + 7)))).set 5 (some (some (o + 9)))).set 6 (some (some (o + 11)))).set 7 (some (some (o + 13))))
  refine x_aload_n d_Rm_init_95 rfl ?_
  refine x_new ns_Rm_9 (List.cons_ne_nil _ _) d_Rm_init_96 (by decide) (by decide) ?_
  refine x_dup d_Rm_init_99 rfl ?_
  refine x_bipush (v := nI 20) d_Rm_init_100 (by decide) ?_
  refine x_callI (M' := M_Rw_init) (As := [.int (nI 20)]) d_Rm_init_102 ml_Rm_11 v_Rw_init rfl rfl rfl (Nat.le_of_ble_eq_true rfl) (ct_Rw_init (s := 20) (by omega) (us_at _ _ _) (fun k => by rw [zm_at])) (fun v8 N8 sh8 mem8 q8 => ?_)
  obtain ⟨rfl, hN, q8⟩ := q8
  have hN : N8 = some (o + 17) := hN
  subst hN
  refine x_putR (b7.at (by omega) q8) rfl ps_Rm_38 (fun _ => rfl) (fun _ => rfl) rfl d_Rm_init_105 ?_
  have b8 := b7.part (lay2 := (lay_Rw 20)) (val2 := zv) (by omega) (by omega) q8 (fun i hi => by rcases (show i = 0 ∨ i = 1 by omega) with rfl | rfl <;> rfl) (fun i hi k => by rcases (show i = 0 ∨ i = 1 by omega) with rfl | rfl <;> rfl) (((((((([none, some none, some none, some none, some none, some none, some none, some none, some none, some none].set 1 (some (some (o + 1)))).set 2 (some (some (o + 3)))).set 3 (some (some (o + 5)))).set 4 (some (some (o + 7)))).set 5 (some (some (o + 9)))).set 6 (some (some (o + 11)))).set 7 (some (some (o + 13)))).set 8 (some (some (o + 15))))
  refine x_aload_n d_Rm_init_108 rfl ?_
  refine x_new ns_Rm_9 (List.cons_ne_nil _ _) d_Rm_init_109 (by decide) (by decide) ?_
  refine x_dup d_Rm_init_112 rfl ?_
  refine x_sipush (v := nI 720) d_Rm_init_113 (by decide) ?_
  refine x_callI (M' := M_Rw_init) (As := [.int (nI 720)]) d_Rm_init_116 ml_Rm_11 v_Rw_init rfl rfl rfl (Nat.le_of_ble_eq_true rfl) (ct_Rw_init (s := 720) (by omega) (us_at _ _ _) (fun k => by rw [zm_at])) (fun v9 N9 sh9 mem9 q9 => ?_)
  obtain ⟨rfl, hN, q9⟩ := q9
  have hN : N9 = some (o + 19) := hN
  subst hN
  refine x_putR (b8.at (by omega) q9) rfl ps_Rm_41 (fun _ => rfl) (fun _ => rfl) rfl d_Rm_init_119 ?_
  have b9 := b8.part (lay2 := (lay_Rw 720)) (val2 := zv) (by omega) (by omega) q9 (fun i hi => by rcases (show i = 0 ∨ i = 1 by omega) with rfl | rfl <;> rfl) (fun i hi k => by rcases (show i = 0 ∨ i = 1 by omega) with rfl | rfl <;> rfl) ((((((((([none, some none, some none, some none, some none, some none, some none, some none, some none, some none].set 1 (some (some (o + 1)))).set 2 (some (some (o + 3)))).set 3 (some (some (o + 5)))).set 4 (some (some (o + 7)))).set 5 (some (some (o + 9)))).set 6 (some (some (o + 11)))).set 7 (some (some (o + 13)))).set 8 (some (some (o + 15)))).set 9 (some (some (o + 17))))
  refine x_vret rfl d_Rm_init_122 (by decide) (by decide) ?_
  exact b9.fin rfl (fun _ => rfl)
theorem ct_Te_init (h0 : sh o = .inl (5, [some none, none, some none, none, none, none])) (hm : ∀ k, mem o k = 0) : Ct l g M_Te_init [rf g o] (some (o + 1)) sh mem (NwQ lay_Te zv 22 o sh mem) := by
  refine x_begin rfl rfl rfl (by decide) rfl ?_
  have b0 := Bd.start (lay := lay_Te) (val := zv) h0 hm
  refine x_aload_n d_Te_init_0 rfl ?_
  refine x_objInit ml_Te_3 j_obj1 j_obj2 d_Te_init_1 (by decide) (by decide) ?_
  refine x_aload_n d_Te_init_4 rfl ?_
  refine x_new ns_Te_9 (List.cons_ne_nil _ _) d_Te_init_5 (by decide) (by decide) ?_
  refine x_dup d_Te_init_8 rfl ?_
  refine x_bipush (v := nI 60) d_Te_init_9 (by decide) ?_
  refine x_callI (M' := M_Rw_init) (As := [.int (nI 60)]) d_Te_init_11 ml_Te_11 v_Rw_init rfl rfl rfl (Nat.le_of_ble_eq_true rfl) (ct_Rw_init (s := 60) (by omega) (us_at _ _ _) (fun k => by rw [zm_at])) (fun v1 N1 sh1 mem1 q1 => ?_)
  obtain ⟨rfl, hN, q1⟩ := q1
  have hN : N1 = some (o + 3) := hN
  subst hN
  refine x_putR (b0.at (by omega) q1) rfl ps_Te_14 (fun _ => rfl) (fun _ => rfl) rfl d_Te_init_14 ?_
  have b1 := b0.part (lay2 := (lay_Rw 60)) (val2 := zv) (by omega) (by omega) q1 (fun i hi => by rcases (show i = 0 ∨ i = 1 by omega) with rfl | rfl <;> rfl) (fun i hi k => by rcases (show i = 0 ∨ i = 1 by omega) with rfl | rfl <;> rfl) ([some none, none, some none, none, none, none].set 0 (some (some (o + 1))))
  refine x_aload_n d_Te_init_17 rfl ?_
  refine x_new ns_Te_20 (List.cons_ne_nil _ _) d_Te_init_18 (by decide) (by decide) ?_
  refine x_dup d_Te_init_21 rfl ?_
  refine x_callIN (M' := M_Rm_init) (As := []) d_Te_init_22 mn_Te_22 v_Rm_init rfl rfl rfl (Nat.le_of_ble_eq_true rfl) (ct_Rm_init (us_at _ _ _) (fun k => by rw [zm_at])) (fun v2 N2 sh2 mem2 q2 => ?_)
  obtain ⟨rfl, hN, q2⟩ := q2
  have hN : N2 = some (o + 22) := hN
  subst hN
  refine x_putR (b1.at (by omega) q2) rfl ps_Te_23 (fun _ => rfl) (fun _ => rfl) rfl d_Te_init_25 ?_
  have b2 := b1.part (lay2 := lay_Rm) (val2 := zv) (by omega) (by omega) q2 (fun i hi => by unfold lay_Te; rw [if_neg (by omega), if_neg (by omega), if_neg (by omega), if_pos (by omega), show 3 + i - 3 = i by omega]) (fun i hi k => rfl) (([some none, none, some none, none, none, none].set 0 (some (some (o + 1)))).set 2 (some (some (o + 3))))
  refine x_vret rfl d_Te_init_28 (by decide) (by decide) ?_
  exact b2.fin rfl (fun _ => rfl)
theorem ct_Ch_init (h0 : sh o = .inl (1, [none, none, none, none, none])) (hm : ∀ k, mem o k = 0) : Ct l g M_Ch_init [rf g o] (some (o + 1)) sh mem (NwQ lay_Ch zv 1 o sh mem) := by
  refine x_begin rfl rfl rfl (by decide) rfl ?_
  have b0 := Bd.start (lay := lay_Ch) (val := zv) h0 hm
  refine x_aload_n d_Ch_init_0 rfl ?_
  refine x_objInit ml_Ch_1 j_obj1 j_obj2 d_Ch_init_1 (by decide) (by decide) ?_
  refine x_vret rfl d_Ch_init_4 (by decide) (by decide) ?_
  exact b0.fin rfl (fun _ => rfl)
end
