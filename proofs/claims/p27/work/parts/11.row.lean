/-! numbers; Row -/
theorem inc1 (a : Nat) : nI a + Int32.ofInt 1 = nI (a + 1) := nI_1 a
theorem nz {a : Nat} : (nI a < nI 0) = (nI a < 0) := rfl
theorem z0nI : (0 : Int32) = nI 0 := rfl
def rAt (f : Nat → Int32) (n : Nat) (p : Int32) : Int32 := if p < 0 ∨ n ≤ p.toNatClampNeg then nI 0 else f p.toNatClampNeg
theorem rAt_in {f : Nat → Int32} {n i : Nat} (h : i < n ∧ n ≤ 7812) : rAt f n (nI i) = f i := by
  unfold rAt
  rw [if_neg (vp_in_nI h.1 (by omega)), nI_clamp (by omega)]
theorem vp_of {p : Int32} {n : Nat} (hn : n ≤ 7812) (h0 : ¬ p < 0) (h1 : ¬ nI n ≤ p) : vp_in p n := by
  rcases pk_ix p (n := n) (by omega) with h | h | ⟨j, hj, rfl⟩
  · exact absurd h h0
  · exact absurd h h1
  · exact vp_in_nI hj (by omega)
theorem vp_out {p : Int32} {n : Nat} (hn : n ≤ 7812) (h1 : nI n ≤ p) : p < 0 ∨ n ≤ p.toNatClampNeg := by
  by_cases h : p < 0 ∨ n ≤ p.toNatClampNeg
  · exact h
  · exfalso
    have h2 := (vp_in_iff (x := p) (n := n)).mp h
    have h3 := Int32.le_iff_toInt_le.mp h1
    rw [nI_toInt (by omega)] at h3
    omega
theorem x_begin {l : Launch} {g : XG} {M : Mt} {N : Option Nat} {sh : Nat → Sh} {mem : Mem} {Q : XP} {as : List Value} {L0 : List (Option Value)} (hL0 : as.map some ++ List.replicate (M.2.2.2.1 - as.length) none = L0) (hcat : as.all (fun v => Nat.beq v.category 1) = true) (hlen : Nat.ble as.length M.2.2.2.1 = true) (hy : plainName M.2.1.cls = true) (hown : M.1 = M.2.1.cls) (h : X l g M (XF g Q M) 0 L0 [] N sh mem 0 0) : Ct l g M as N sh mem Q :=
  x_enter hL0 (fun v hv => Nat.eq_of_beq_eq_true (List.all_eq_true.mp hcat v hv)) (Nat.le_of_ble_eq_true hlen) hy hown h
def shl (mem : Mem) (a i n : Nat) : Mem := fun o j => if o = a then (if i ≤ j ∧ j + 1 < n then mem a (j + 1) else mem o j) else mem o j
def sm (f : Nat → Int32) : Nat → Int32
  | 0 => nI 0
  | n + 1 => sm f n + f n
section
variable {l : Launch} {g : XG} {N : Option Nat} {sh : Nat → Sh} {mem : Mem} {o a n : Nat}
theorem ct_Rw_atg (h1 : sh o = .inl (7, [some (some a)])) (h2 : sh a = .inr (.inl n)) (hn : n ≤ 7812) {p : Int32} : Ct l g M_Rw_at [rf g o, .int p] N sh mem (Pq (.int (rAt (mem a) n p)) N sh mem) := by
  refine x_begin rfl rfl rfl (by decide) rfl ?_
  refine x_iload_n d_Rw_at_0 rfl ?_
  refine x_if_lt (tgt := 22) d_Rw_at_1 (by decide) (fun c1 => ?_) (fun c1 => ?_)
  · refine x_iconst (v := nI 0) d_Rw_at_22 (by decide) ?_
    refine x_iret rfl rfl d_Rw_at_23 (Nat.zero_le _) (Nat.zero_le _) ?_
    exact ⟨by first | (rw [rAt, if_neg (vp_of hn c1 c10)]; done) | (rw [rAt, if_pos (Or.inl c1)]; done) | (rw [rAt, if_pos (vp_out hn c10)]; done), rfl, rfl, rfl⟩
  · refine x_iload_n d_Rw_at_4 rfl ?_
    refine x_aload_n d_Rw_at_5 rfl ?_
    refine x_getR h1 rfl fs_Rw_7 d_Rw_at_6 ?_
    refine x_alen h2 d_Rw_at_9 ?_
    refine x_icmp_ge (tgt := 22) d_Rw_at_10 (by decide) (fun c10 => ?_) (fun c10 => ?_)
    · refine x_iconst (v := nI 0) d_Rw_at_22 (by decide) ?_
      refine x_iret rfl rfl d_Rw_at_23 (Nat.zero_le _) (Nat.zero_le _) ?_
      exact ⟨by first | (rw [rAt, if_neg (vp_of hn c1 c10)]; done) | (rw [rAt, if_pos (Or.inl c1)]; done) | (rw [rAt, if_pos (vp_out hn c10)]; done), rfl, rfl, rfl⟩
    · refine x_aload_n d_Rw_at_13 rfl ?_
      refine x_getR h1 rfl fs_Rw_7 d_Rw_at_14 ?_
      refine x_iload_n d_Rw_at_17 rfl ?_
      refine x_iald h2 (vp_of hn c1 c10) d_Rw_at_18 ?_
      refine x_goto (tgt := 23) d_Rw_at_19 (by decide) ?_
      refine x_iret rfl rfl d_Rw_at_23 (Nat.zero_le _) (Nat.zero_le _) ?_
      exact ⟨by first | (rw [rAt, if_neg (vp_of hn c1 c10)]; done) | (rw [rAt, if_pos (Or.inl c1)]; done) | (rw [rAt, if_pos (vp_out hn c10)]; done), rfl, rfl, rfl⟩
theorem ct_Rw_at (h1 : sh o = .inl (7, [some (some a)])) (h2 : sh a = .inr (.inl n)) {i : Nat} (hi : i < n ∧ n ≤ 7812) : Ct l g M_Rw_at [rf g o, .int (nI i)] N sh mem (Pq (.int (mem a i)) N sh mem) := by
  have h := ct_Rw_atg (l := l) (g := g) (N := N) (mem := mem) h1 h2 hi.2 (p := nI i)
  rw [rAt_in hi] at h
  exact h
theorem ct_Rw_put (h1 : sh o = .inl (7, [some (some a)])) (h2 : sh a = .inr (.inl n)) {i : Nat} {v : Int32} (hi : i < n ∧ n ≤ 7812) : Ct l g M_Rw_put [rf g o, .int (nI i), .int v] N sh mem (Rv N sh (fun m => m = um mem a i v)) := by
  refine x_begin rfl rfl rfl (by decide) rfl ?_
  refine x_iload_n d_Rw_put_0 rfl ?_
  refine x_if_lt (tgt := 20) d_Rw_put_1 (by decide) (fun c1 => ?_) (fun c1 => ?_)
  · exact absurd c1 (nI_pos (by omega))
  · refine x_iload_n d_Rw_put_4 rfl ?_
    refine x_aload_n d_Rw_put_5 rfl ?_
    refine x_getR h1 rfl fs_Rw_7 d_Rw_put_6 ?_
    refine x_alen h2 d_Rw_put_9 ?_
    refine x_icmp_ge (tgt := 20) d_Rw_put_10 (by decide) (fun c10 => ?_) (fun c10 => ?_)
    · exact absurd c10 (nI_ge hi.1 (by omega))
    · refine x_aload_n d_Rw_put_13 rfl ?_
      refine x_getR h1 rfl fs_Rw_7 d_Rw_put_14 ?_
      refine x_iload_n d_Rw_put_17 rfl ?_
      refine x_iload_n d_Rw_put_18 rfl ?_
      refine x_iast h2 (vp_of hi.2 c1 c10) d_Rw_put_19 ?_
      refine x_vret rfl d_Rw_put_20 (Nat.zero_le _) (Nat.zero_le _) ?_
      exact ⟨rfl, rfl, rfl, by rw [nI_clamp (by omega)]⟩
theorem ct_Rw_add (h1 : sh o = .inl (7, [some (some a)])) (h2 : sh a = .inr (.inl n)) {i : Nat} {v : Int32} (hi : i < n ∧ n ≤ 7812) : Ct l g M_Rw_add [rf g o, .int (nI i), .int v] N sh mem (Rv N sh (fun m => m = um mem a i (mem a i + v))) := by
  refine x_begin rfl rfl rfl (by decide) rfl ?_
  refine x_iload_n d_Rw_add_0 rfl ?_
  refine x_if_lt (tgt := 23) d_Rw_add_1 (by decide) (fun c1 => ?_) (fun c1 => ?_)
  · exact absurd c1 (nI_pos (by omega))
  · refine x_iload_n d_Rw_add_4 rfl ?_
    refine x_aload_n d_Rw_add_5 rfl ?_
    refine x_getR h1 rfl fs_Rw_7 d_Rw_add_6 ?_
    refine x_alen h2 d_Rw_add_9 ?_
    refine x_icmp_ge (tgt := 23) d_Rw_add_10 (by decide) (fun c10 => ?_) (fun c10 => ?_)
    · exact absurd c10 (nI_ge hi.1 (by omega))
    · refine x_aload_n d_Rw_add_13 rfl ?_
      refine x_getR h1 rfl fs_Rw_7 d_Rw_add_14 ?_
      refine x_iload_n d_Rw_add_17 rfl ?_
      refine x_dup2 d_Rw_add_18 rfl rfl ?_
      refine x_iald h2 (vp_of hi.2 c1 c10) d_Rw_add_19 ?_
      refine x_iload_n d_Rw_add_20 rfl ?_
      refine x_iadd d_Rw_add_21 ?_
      refine x_iast h2 (vp_of hi.2 c1 c10) d_Rw_add_22 ?_
      refine x_vret rfl d_Rw_add_23 (Nat.zero_le _) (Nat.zero_le _) ?_
      exact ⟨rfl, rfl, rfl, by rw [nI_clamp (by omega)]⟩
theorem shl_step (mem : Mem) {a i j : Nat} (hj : i ≤ j) : um (shl mem a i (j + 1)) a j (shl mem a i (j + 1) a (j + 1)) = shl mem a i (j + 2) := by
  funext o k
  unfold um shl
  by_cases ho : o = a
  · subst ho
    by_cases hk : k = j
    · subst hk
      simp only [if_true]
      rw [if_neg (by omega), if_pos (by omega)]
    · simp only [if_true, if_neg hk]
      by_cases h2 : i ≤ k ∧ k + 1 < j + 1
      · rw [if_pos h2, if_pos (by omega)]
      · rw [if_neg h2, if_neg (by omega)]
  · simp only [if_neg ho]
theorem shl_0 (mem : Mem) (a i : Nat) : shl mem a i (i + 1) = mem := by
  funext o k
  unfold shl
  by_cases ho : o = a
  · rw [if_pos ho, if_neg (by omega)]
  · rw [if_neg ho]
theorem ct_Rw_removeAt (h1 : sh o = .inl (7, [some (some a)])) (h2 : sh a = .inr (.inl n)) {i : Nat} (hi : i < n ∧ n ≤ 7812) : Ct l g M_Rw_removeAt [rf g o, .int (nI i)] N sh mem (Rv N sh (fun m => m = shl mem a i n)) := by
  refine x_begin rfl rfl rfl (by decide) rfl ?_
  refine x_iload_n d_Rw_removeAt_0 rfl ?_
  refine x_if_ge (tgt := 8) d_Rw_removeAt_1 (by decide) (fun c1 => ?_) (fun c1 => ?_)
  · refine x_iload_n d_Rw_removeAt_8 rfl ?_
    refine x_istore_n d_Rw_removeAt_9 (by decide) ?_
    have lp := up_ind (n - 1) (P := fun j => i ≤ j → X l g M_Rw_removeAt (XF g (Rv N sh (fun m => m = shl mem a i n)) M_Rw_removeAt) 10 [some (rf g o), some (.int (nI i)), some (.int (nI j))] [] N sh (shl mem a i (j + 1)) 0 0) (fun j hj ih hij => ?_)
    · have h := lp i (by omega) (Nat.le_refl i)
      rw [shl_0] at h
      exact h
    · refine x_iload_n d_Rw_removeAt_10 rfl ?_
      refine x_aload_n d_Rw_removeAt_11 rfl ?_
      refine x_getR h1 rfl fs_Rw_7 d_Rw_removeAt_12 ?_
      refine x_alen h2 d_Rw_removeAt_15 ?_
      refine x_iconst (v := nI 1) d_Rw_removeAt_16 (by decide) ?_
      refine x_isub d_Rw_removeAt_17 ?_
      rw [show nI n - nI 1 = nI (n - 1) from pk_sub (by omega)]
      refine x_icmp_ge (tgt := 41) d_Rw_removeAt_18 (by decide) (fun c18 => ?_) (fun c18 => ?_)
      · have hjn : j + 1 = n := by
          rcases Nat.lt_or_ge j (n - 1) with h | h
          · exact absurd c18 (nI_ge h (by omega))
          · omega
        refine x_vret rfl d_Rw_removeAt_41 (Nat.zero_le _) (Nat.zero_le _) ?_
        exact ⟨rfl, rfl, rfl, by rw [hjn]⟩
      · have hjn : j < n - 1 := Nat.lt_of_not_le fun h => c18 (nI_le h (by omega))
        refine x_aload_n d_Rw_removeAt_21 rfl ?_
        refine x_getR h1 rfl fs_Rw_7 d_Rw_removeAt_22 ?_
        refine x_iload_n d_Rw_removeAt_25 rfl ?_
        refine x_aload_n d_Rw_removeAt_26 rfl ?_
        refine x_getR h1 rfl fs_Rw_7 d_Rw_removeAt_27 ?_
        refine x_iload_n d_Rw_removeAt_30 rfl ?_
        refine x_iconst (v := nI 1) d_Rw_removeAt_31 (by decide) ?_
        refine x_iadd d_Rw_removeAt_32 ?_
        rw [nI_add]
        refine x_iald h2 (vp_in_nI (by omega) (by omega)) d_Rw_removeAt_33 ?_
        rw [nI_clamp (by omega)]
        refine x_iast h2 (vp_in_nI (by omega) (by omega)) d_Rw_removeAt_34 ?_
        rw [nI_clamp (by omega), shl_step mem hij]
        refine x_iinc d_Rw_removeAt_35 rfl (by first | exact inc1 _ | rfl) (by decide) ?_
        refine x_goto (tgt := 10) d_Rw_removeAt_38 (by decide) ?_
        exact ih (by omega) (by omega)
  · exact absurd (nI_pos' (by omega)) c1
theorem ct_Rw_sum (h1 : sh o = .inl (7, [some (some a)])) (h2 : sh a = .inr (.inl n)) (hn : n ≤ 7812) : Ct l g M_Rw_sum [rf g o] N sh mem (Pq (.int (sm (mem a) n)) N sh mem) := by
  refine x_begin rfl rfl rfl (by decide) rfl ?_
  refine x_iconst (v := nI 0) d_Rw_sum_0 (by decide) ?_
  refine x_istore_n d_Rw_sum_1 (by decide) ?_
  refine x_iconst (v := nI 0) d_Rw_sum_2 (by decide) ?_
  refine x_istore_n d_Rw_sum_3 (by decide) ?_
  have lp := up_ind n (P := fun j => X l g M_Rw_sum (XF g (Pq (.int (sm (mem a) n)) N sh mem) M_Rw_sum) 4 [some (rf g o), some (.int (sm (mem a) j)), some (.int (nI j))] [] N sh mem 0 0) (fun j hj ih => ?_)
  · exact lp 0 (Nat.zero_le _)
  · refine x_iload_n d_Rw_sum_4 rfl ?_
    refine x_aload_n d_Rw_sum_5 rfl ?_
    refine x_getR h1 rfl fs_Rw_7 d_Rw_sum_6 ?_
    refine x_alen h2 d_Rw_sum_9 ?_
    refine x_icmp_ge (tgt := 28) d_Rw_sum_10 (by decide) (fun c10 => ?_) (fun c10 => ?_)
    · have hjn : j = n := by
        rcases Nat.lt_or_ge j n with h | h
        · exact absurd c10 (nI_ge h (by omega))
        · omega
      refine x_iload_n d_Rw_sum_28 rfl ?_
      refine x_iret rfl rfl d_Rw_sum_29 (Nat.zero_le _) (Nat.zero_le _) ?_
      exact ⟨by rw [hjn], rfl, rfl, rfl⟩
    · have hjn : j < n := Nat.lt_of_not_le fun h => c10 (nI_le h (by omega))
      refine x_iload_n d_Rw_sum_13 rfl ?_
      refine x_aload_n d_Rw_sum_14 rfl ?_
      refine x_getR h1 rfl fs_Rw_7 d_Rw_sum_15 ?_
      refine x_iload_n d_Rw_sum_18 rfl ?_
      refine x_iald h2 (vp_in_nI hjn (by omega)) d_Rw_sum_19 ?_
      rw [nI_clamp (by omega)]
      refine x_iadd d_Rw_sum_20 ?_
      refine x_istore_n d_Rw_sum_21 (by decide) ?_
      refine x_iinc d_Rw_sum_22 rfl (by first | exact inc1 _ | rfl) (by decide) ?_
      refine x_goto (tgt := 4) d_Rw_sum_25 (by decide) ?_
      exact ih (by omega)
theorem ct_Rw_copyFrom {o2 a2 : Nat} (h1 : sh o = .inl (7, [some (some a)])) (h2 : sh a = .inr (.inl n)) (k1 : sh o2 = .inl (7, [some (some a2)])) (k2 : sh a2 = .inr (.inl n)) (hn : n ≤ 7812) : Ct l g M_Rw_copyFrom [rf g o, rf g o2] none sh mem (Rv none sh (fun m => m = cpm mem a2 a n)) := by
  refine x_begin rfl rfl rfl (by decide) rfl ?_
  refine x_aload_n d_Rw_copyFrom_0 rfl ?_
  refine x_getR k1 rfl fs_Rw_7 d_Rw_copyFrom_1 ?_
  refine x_iconst (v := nI 0) d_Rw_copyFrom_4 (by decide) ?_
  refine x_aload_n d_Rw_copyFrom_5 rfl ?_
  refine x_getR h1 rfl fs_Rw_7 d_Rw_copyFrom_6 ?_
  refine x_iconst (v := nI 0) d_Rw_copyFrom_9 (by decide) ?_
  refine x_aload_n d_Rw_copyFrom_10 rfl ?_
  refine x_getR k1 rfl fs_Rw_7 d_Rw_copyFrom_11 ?_
  refine x_alen k2 d_Rw_copyFrom_14 ?_
  refine x_aload_n d_Rw_copyFrom_15 rfl ?_
  refine x_getR h1 rfl fs_Rw_7 d_Rw_copyFrom_16 ?_
  refine x_alen h2 d_Rw_copyFrom_19 ?_
  refine x_min ml_Rw_13 j_min1 j_math j_min2 d_Rw_copyFrom_20 (Nat.le_of_ble_eq_true rfl) (Nat.le_of_ble_eq_true rfl) (Nat.zero_le _) (Nat.zero_le _) ?_
  rw [show (if nI n < nI n then nI n else nI n) = nI n from ite_self _]
  refine x_copy0 ml_Rw_19 k2 h2 (nI_pos (by omega)) (by rw [nI_clamp (by omega)]; exact Nat.le_refl n) (by rw [nI_clamp (by omega)]; exact Nat.le_refl n) d_Rw_copyFrom_23 (Nat.le_of_ble_eq_true rfl) (Nat.le_of_ble_eq_true rfl) ?_
  rw [nI_clamp (by omega)]
  refine x_vret rfl d_Rw_copyFrom_26 (Nat.zero_le _) (Nat.zero_le _) ?_
  exact ⟨rfl, rfl, rfl, rfl⟩
end
