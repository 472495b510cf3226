/-! a quotient of two whole numbers is a number -/
abbrev B64 : FP.Core.Fmt := FP.Core.b64
theorem b_tails : FP.Core.Fmt.tails FP.Core.b64 = 4503599627370496 := by decide
theorem b_exps : FP.Core.Fmt.exps FP.Core.b64 = 2048 := by decide
theorem b_qmin : FP.Core.Fmt.qmin FP.Core.b64 = -1074 := by decide
theorem b_qmax : FP.Core.Fmt.qmax FP.Core.b64 = 971 := by decide
theorem b_p : FP.Core.Fmt.p FP.Core.b64 = 53 := by decide
def NN (n : Nat) : Prop := n < 18446744073709551616 ∧ n % 9223372036854775808 ≤ 9218868437227405312
theorem nn_asm (s : Bool) {e t : Nat} (h : e < 2047 ∧ t < 4503599627370496 ∨ e = 2047 ∧ t = 0) : NN (FP.Core.assemble B64 s e t) := by
  unfold FP.Core.assemble NN
  rw [show B64.exps = 2048 from b_exps, show B64.tails = 4503599627370496 from b_tails]
  cases s <;> simp only [Bool.toNat_true, Bool.toNat_false] <;> omega
theorem nn_fin (s : Bool) {c : Nat} {q : Int} (hc : c < 9007199254740992) (h1 : -1074 ≤ q) (h2 : q ≤ 971) : NN (FP.Core.encode B64 (.fin s c q)) := by
  unfold FP.Core.encode
  rw [show B64.tails = 4503599627370496 from b_tails, show B64.qmin = -1074 from b_qmin]
  by_cases h : c < 4503599627370496
  · simp only [if_pos h]
    exact nn_asm s (Or.inl ⟨by omega, h⟩)
  · simp only [if_neg h]
    exact nn_asm s (Or.inl ⟨by omega, by omega⟩)
theorem nn_inf (s : Bool) : NN (FP.Core.encode B64 (.inf s)) := by
  unfold FP.Core.encode
  rw [show B64.exps = 2048 from b_exps]
  exact nn_asm s (Or.inr ⟨rfl, rfl⟩)
theorem nn_bound (s : Bool) {c : Nat} {q : Int} (hc : c < 9007199254740992) (h1 : -1074 ≤ q) : NN (FP.Core.encode B64 (FP.Core.bound B64 s c q)) := by
  unfold FP.Core.bound
  rw [show B64.qmax = 971 from b_qmax]
  by_cases h : q ≤ 971
  · rw [if_pos h]
    exact nn_fin s hc h1 h
  · rw [if_neg h]
    exact nn_inf s
theorem nn_ratio (s : Bool) (num den : Nat) (e : Int) : NN (FP.Core.encode B64 (FP.Core.roundRatio B64 s num den e)) := by
  unfold FP.Core.roundRatio
  by_cases h : num = 0
  · rw [if_pos h]
    exact nn_fin s (by omega) (by rw [show B64.qmin = -1074 from b_qmin]; omega) (by rw [show B64.qmin = -1074 from b_qmin]; omega)
  · rw [if_neg h]
    have hq : -1074 ≤ FP.Core.quantum B64 num den e := by
      unfold FP.Core.quantum
      rw [show B64.qmin = -1074 from b_qmin]
      exact Int.le_max_left _ _
    generalize FP.Core.quantum B64 num den e = q at hq ⊢
    unfold FP.Core.roundAt
    generalize FP.Core.nearest (FP.Core.unitsNum num e q) (FP.Core.unitsDen den e q) = c
    unfold FP.Core.settle
    rw [show 2 ^ B64.p = 9007199254740992 by decide]
    by_cases hc : c < 9007199254740992
    · rw [if_pos hc]
      exact nn_bound s hc hq
    · rw [if_neg hc]
      exact nn_bound s (by rw [show B64.tails = 4503599627370496 from b_tails]; omega) (by omega)
theorem n64_of {n : Nat} (h : NN n) : vf_n64 (UInt64.ofNat n) := by
  unfold vf_n64
  obtain ⟨h1, h2⟩ := h
  rw [UInt64.le_iff_toNat_le, UInt64.toNat_and, UInt64.toNat_ofNat_of_lt' h1]
  rw [show (0x7fffffffffffffff : UInt64).toNat = 2 ^ 63 - 1 by decide, Nat.and_two_pow_sub_one_eq_mod]
  exact h2
/-- what decode says of fields in the middle -/
theorem dec_asm (s : Bool) {e t : Nat} (he : 1 ≤ e ∧ e < 2047) (ht : t < 4503599627370496) : ∃ s' q, FP.Core.decode B64 (FP.Core.assemble B64 s e t) = .fin s' (4503599627370496 + t) q := by
  have h1 : FP.Core.fieldE B64 (FP.Core.assemble B64 s e t) = e := by
    unfold FP.Core.fieldE FP.Core.assemble
    rw [show B64.exps = 2048 from b_exps, show B64.tails = 4503599627370496 from b_tails]
    cases s <;> simp only [Bool.toNat_true, Bool.toNat_false] <;> omega
  have h2 : FP.Core.fieldT B64 (FP.Core.assemble B64 s e t) = t := by
    unfold FP.Core.fieldT FP.Core.assemble
    rw [show B64.exps = 2048 from b_exps, show B64.tails = 4503599627370496 from b_tails]
    cases s <;> simp only [Bool.toNat_true, Bool.toNat_false] <;> omega
  unfold FP.Core.decode
  rw [h1, h2, show B64.exps = 2048 from b_exps, show B64.tails = 4503599627370496 from b_tails, if_neg (by omega), if_neg (by omega)]
  exact ⟨_, _, rfl⟩
theorem dec_int {i : Int} (h : i.natAbs < 2147483649) (h0 : i ≠ 0) : NN (FP.Core.fromInt B64 i) ∧ ∃ s c q, FP.Core.decode B64 (FP.Core.fromInt B64 i) = .fin s c q ∧ c ≠ 0 := by
  unfold FP.Core.fromInt FP.Core.ofInt FP.Core.round
  dsimp only
  refine ⟨nn_ratio _ _ _ _, ?_⟩
  generalize decide (i < 0) = s
  have hn : i.natAbs ≠ 0 := by omega
  generalize i.natAbs = n at h hn
  unfold FP.Core.roundRatio
  rw [if_neg hn]
  have hl : FP.Core.leading n 1 = (n.log2 : Int) := by
    unfold FP.Core.leading
    have h1 : (1 : Nat).log2 = 0 := by decide
    have h2 := Nat.log2_self_le hn
    simp only [h1]
    rw [if_pos (by simpa using h2)]
    simp
  have hL : n.log2 < 32 := (Nat.log2_lt hn).mpr (by omega)
  have hq : FP.Core.quantum B64 n 1 0 = (n.log2 : Int) - 52 := by
    unfold FP.Core.quantum
    rw [hl, show B64.qmin = -1074 from b_qmin, show B64.p = 53 from b_p]
    omega
  rw [hq]
  unfold FP.Core.roundAt
  have hN : FP.Core.unitsNum n 0 ((n.log2 : Int) - 52) = n * 2 ^ (52 - n.log2) := by
    unfold FP.Core.unitsNum
    rw [show ((0 : Int) - ((n.log2 : Int) - 52)).toNat = 52 - n.log2 by omega]
  have hD : FP.Core.unitsDen 1 0 ((n.log2 : Int) - 52) = 1 := by
    unfold FP.Core.unitsDen
    rw [show ((n.log2 : Int) - 52 - 0).toNat = 0 by omega]
  have hlo : 4503599627370496 ≤ n * 2 ^ (52 - n.log2) := by
    have h1 := Nat.mul_le_mul_right (2 ^ (52 - n.log2)) (Nat.log2_self_le hn)
    rw [← Nat.pow_add, show n.log2 + (52 - n.log2) = 52 by omega] at h1
    exact h1
  have hhi : n * 2 ^ (52 - n.log2) < 9007199254740992 := by
    have h1 := Nat.mul_lt_mul_of_pos_right (Nat.lt_log2_self (n := n)) (Nat.two_pow_pos (52 - n.log2))
    rw [← Nat.pow_add, show n.log2 + 1 + (52 - n.log2) = 53 by omega] at h1
    exact h1
  rw [hN, hD]
  generalize n * 2 ^ (52 - n.log2) = N at hlo hhi
  have hne : FP.Core.nearest N 1 = N := by
    unfold FP.Core.nearest
    rw [Nat.mod_one, if_pos (by omega), Nat.div_one]
  rw [hne]
  unfold FP.Core.settle
  rw [show 2 ^ B64.p = 9007199254740992 by decide, if_pos hhi]
  unfold FP.Core.bound
  rw [show B64.qmax = 971 from b_qmax, if_pos (by omega)]
  unfold FP.Core.encode
  rw [show B64.tails = 4503599627370496 from b_tails, show B64.qmin = -1074 from b_qmin]
  simp only [if_neg (show ¬ N < 4503599627370496 by omega)]
  obtain ⟨s', q, hd⟩ := dec_asm s (e := ((n.log2 : Int) - 52 - -1074).toNat + 1) (t := N - 4503599627370496) (by omega) (by omega)
  exact ⟨s', _, q, hd, by omega⟩
theorem dec_zero : NN (FP.Core.fromInt B64 0) ∧ ∃ s c q, FP.Core.decode B64 (FP.Core.fromInt B64 0) = .fin s c q := by
  have h : FP.Core.fromInt B64 0 = 0 := by decide
  rw [h]
  refine ⟨⟨by omega, by omega⟩, false, 0, -1074, by decide⟩
theorem ddiv_n64 (a : Int32) {b : Nat} (hb : 0 < b) (hb2 : b < 2 ^ 31) : vf_n64 (FP.ddiv (FP.i2d a) (FP.i2d (nI b))) := by
  have ha : a.toInt.natAbs < 2147483649 := by
    have h1 := Int32.toInt_lt a
    have h2 := Int32.le_toInt a
    omega
  have hA : NN (FP.Core.fromInt B64 a.toInt) ∧ ∃ s c q, FP.Core.decode B64 (FP.Core.fromInt B64 a.toInt) = .fin s c q := by
    by_cases h0 : a.toInt = 0
    · rw [h0]; exact dec_zero
    · obtain ⟨h1, s, c, q, h2, -⟩ := dec_int ha h0
      exact ⟨h1, s, c, q, h2⟩
  obtain ⟨hA1, s, c, q, hA2⟩ := hA
  obtain ⟨hB1, t, d, r, hB2, hd⟩ := dec_int (i := (nI b).toInt) (by rw [nI_toInt hb2]; omega) (by rw [nI_toInt hb2]; omega)
  show vf_n64 (UInt64.ofNat (FP.Core.div B64 (UInt64.ofNat (FP.Core.fromInt B64 a.toInt)).toNat (UInt64.ofNat (FP.Core.fromInt B64 (nI b).toInt)).toNat))
  rw [UInt64.toNat_ofNat_of_lt' hA1.1, UInt64.toNat_ofNat_of_lt' hB1.1]
  refine n64_of ?_
  unfold FP.Core.div
  rw [hA2, hB2]
  unfold FP.Core.quotient
  simp only [if_neg hd]
  exact nn_ratio _ _ _ _
