/-! p27: the share that is wasted lies between 0 and 1 -/
theorem dec_asm0 {e t : Nat} (he : 1 ≤ e ∧ e < 2047) (ht : t < 4503599627370496) : FP.Core.decode B64 (FP.Core.assemble B64 false e t) = .fin false (4503599627370496 + t) (-1074 + ((e : Int) - 1)) := by
  have h1 : FP.Core.fieldE B64 (FP.Core.assemble B64 false e t) = e := by
    unfold FP.Core.fieldE FP.Core.assemble
    rw [show B64.exps = 2048 from b_exps, show B64.tails = 4503599627370496 from b_tails]
    simp only [Bool.toNat_false]
    omega
  have h2 : FP.Core.fieldT B64 (FP.Core.assemble B64 false e t) = t := by
    unfold FP.Core.fieldT FP.Core.assemble
    rw [show B64.exps = 2048 from b_exps, show B64.tails = 4503599627370496 from b_tails]
    simp only [Bool.toNat_false]
    omega
  have h3 : FP.Core.fieldS B64 (FP.Core.assemble B64 false e t) = false := by
    unfold FP.Core.fieldS FP.Core.assemble
    rw [show B64.exps = 2048 from b_exps, show B64.tails = 4503599627370496 from b_tails]
    simp only [Bool.toNat_false]
    rw [show ((0 * 2048 + e) * 4503599627370496 + t) / 4503599627370496 / 2048 % 2 = 0 by omega]
    rfl
  unfold FP.Core.decode
  rw [h1, h2, h3, show B64.exps = 2048 from b_exps, show B64.tails = 4503599627370496 from b_tails, show B64.qmin = -1074 from b_qmin, if_neg (by omega), if_neg (by omega)]
theorem enc_dec {N : Nat} {q : Int} (hN : 4503599627370496 ≤ N) (hN2 : N < 9007199254740992) (hq : -1074 ≤ q) (hq2 : q ≤ 900) : FP.Core.decode B64 (FP.Core.encode B64 (.fin false N q)) = .fin false N q := by
  unfold FP.Core.encode
  rw [show B64.tails = 4503599627370496 from b_tails, show B64.qmin = -1074 from b_qmin]
  simp only [if_neg (show ¬ N < 4503599627370496 by omega)]
  rw [dec_asm0 (by omega) (by omega)]
  rw [show 4503599627370496 + (N - 4503599627370496) = N by omega, show -1074 + ((((q - -1074).toNat + 1 : Nat) : Int) - 1) = q by omega]
theorem rr_dec {num den : Nat} {e Q : Int} (hn : num ≠ 0) (hQ : FP.Core.quantum B64 num den e = Q) {c : Nat} (hc : FP.Core.nearest (FP.Core.unitsNum num e Q) (FP.Core.unitsDen den e Q) = c) (h1 : 4503599627370496 ≤ c) (h2 : c ≤ 9007199254740992) (hq : -1074 ≤ Q) (hq2 : Q ≤ 800) : FP.Core.decode B64 (FP.Core.encode B64 (FP.Core.roundRatio B64 false num den e)) = if c < 9007199254740992 then .fin false c Q else .fin false 4503599627370496 (Q + 1) := by
  unfold FP.Core.roundRatio
  rw [if_neg hn, hQ]
  unfold FP.Core.roundAt
  rw [hc]
  unfold FP.Core.settle FP.Core.bound
  rw [show 2 ^ B64.p = 9007199254740992 by decide, show B64.qmax = 971 from b_qmax, show B64.tails = 4503599627370496 from b_tails]
  by_cases h : c < 9007199254740992
  · rw [if_pos h, if_pos h, if_pos (by omega)]
    exact enc_dec h1 h hq (by omega)
  · rw [if_neg h, if_neg h, if_pos (by omega)]
    exact enc_dec (by omega) (by omega) (by omega) (by omega)
theorem near_1 (N : Nat) : FP.Core.nearest N 1 = N := by
  unfold FP.Core.nearest
  rw [Nat.mod_one, if_pos (by omega), Nat.div_one]
theorem near_b {N D lo hi : Nat} (hD : 0 < D) (h1 : lo * D ≤ N) (h2 : N < hi * D) : lo ≤ FP.Core.nearest N D ∧ FP.Core.nearest N D ≤ hi := by
  have a1 : lo ≤ N / D := (Nat.le_div_iff_mul_le hD).mpr h1
  have a2 : N / D < hi := (Nat.div_lt_iff_lt_mul hD).mpr h2
  unfold FP.Core.nearest
  split
  · omega
  · split
    · omega
    · omega
/-- a whole number as a double, to the bit -/
theorem dec_nat {n : Nat} (h0 : 0 < n) (h : n < 2147483648) : (4503599627370496 ≤ n * 2 ^ (52 - n.log2) ∧ n * 2 ^ (52 - n.log2) < 9007199254740992) ∧ n.log2 < 31 ∧ FP.Core.decode B64 (FP.Core.fromInt B64 (n : Int)) = .fin false (n * 2 ^ (52 - n.log2)) ((n.log2 : Int) - 52) ∧ NN (FP.Core.fromInt B64 (n : Int)) := by
  have hn : n ≠ 0 := by omega
  have hL : n.log2 < 31 := (Nat.log2_lt hn).mpr (by omega)
  have hlo : 4503599627370496 ≤ n * 2 ^ (52 - n.log2) := by
    have h1 := Nat.mul_le_mul_right (2 ^ (52 - n.log2)) (Nat.log2_self_le hn)
    rw [← Nat.pow_add, show n.log2 + (52 - n.log2) = 52 by omega] at h1
    exact h1
  have hhi : n * 2 ^ (52 - n.log2) < 9007199254740992 := by
    have h1 := Nat.mul_lt_mul_of_pos_right (Nat.lt_log2_self (n := n)) (Nat.two_pow_pos (52 - n.log2))
    rw [← Nat.pow_add, show n.log2 + 1 + (52 - n.log2) = 53 by omega] at h1
    exact h1
  refine ⟨⟨hlo, hhi⟩, hL, ?_, (dec_int (i := (n : Int)) (by omega) (by omega)).1⟩
  have hl : FP.Core.leading n 1 = (n.log2 : Int) := by
    unfold FP.Core.leading
    have h1 : (1 : Nat).log2 = 0 := by decide
    have h2 := Nat.log2_self_le hn
    simp only [h1]
    rw [if_pos (by simpa using h2)]
    simp
  have hq : FP.Core.quantum B64 n 1 0 = (n.log2 : Int) - 52 := by
    unfold FP.Core.quantum
    rw [hl, show B64.qmin = -1074 from b_qmin, show B64.p = 53 from b_p]
    omega
  have hN : FP.Core.unitsNum n 0 ((n.log2 : Int) - 52) = n * 2 ^ (52 - n.log2) := by
    unfold FP.Core.unitsNum
    rw [show ((0 : Int) - ((n.log2 : Int) - 52)).toNat = 52 - n.log2 by omega]
  have hD : FP.Core.unitsDen 1 0 ((n.log2 : Int) - 52) = 1 := by
    unfold FP.Core.unitsDen
    rw [show ((n.log2 : Int) - 52 - 0).toNat = 0 by omega]
  have hr := rr_dec (num := n) (den := 1) (e := 0) hn hq (c := n * 2 ^ (52 - n.log2)) (by rw [hN, hD]; exact near_1 _) hlo (by omega) (by omega) (by omega)
  rw [if_pos hhi] at hr
  have hf : FP.Core.fromInt B64 (n : Int) = FP.Core.encode B64 (FP.Core.roundRatio B64 false n 1 0) := by
    unfold FP.Core.fromInt FP.Core.ofInt FP.Core.round
    dsimp only
    rw [decide_eq_false (show ¬ (n : Int) < 0 by omega), Int.natAbs_natCast]
  rw [hf]
  exact hr
theorem log_mono {a b : Nat} (ha : 0 < a) (h : a ≤ b) : a.log2 ≤ b.log2 := by
  refine Nat.le_of_not_lt (fun z => ?_)
  have h1 := Nat.lt_log2_self (n := b)
  have h2 := Nat.log2_self_le (show a ≠ 0 by omega)
  have h3 := Nat.pow_le_pow_right (show 0 < 2 by omega) (show b.log2 + 1 ≤ a.log2 by omega)
  omega
theorem lead52 {A B : Nat} (hA : 4503599627370496 ≤ A ∧ A < 9007199254740992) (hB : 4503599627370496 ≤ B ∧ B < 9007199254740992) : FP.Core.leading A B = if B ≤ A then 0 else -1 := by
  have e : ∀ X, 4503599627370496 ≤ X → X < 9007199254740992 → X.log2 = 52 := fun X h1 h2 => by
    have h0 : X ≠ 0 := by omega
    have a1 : X.log2 < 53 := (Nat.log2_lt h0).mpr h2
    have a2 : 52 ≤ X.log2 := (Nat.le_log2 h0).mpr h1
    omega
  unfold FP.Core.leading
  rw [e A hA.1 hA.2, e B hB.1 hB.2]
  simp
/-- a quotient of a whole number by one that isn't smaller -/
theorem quot_dec {a b : Nat} (ha : 0 < a) (hab : a ≤ b) (hb : b < 2147483648) : ∃ (C : Nat) (Q : Int), (4503599627370496 ≤ C ∧ C < 9007199254740992) ∧ (-1074 ≤ Q ∧ Q ≤ -52) ∧ (Q = -52 → C = 4503599627370496) ∧ FP.Core.decode B64 (FP.Core.div B64 (FP.Core.fromInt B64 (a : Int)) (FP.Core.fromInt B64 (b : Int))) = .fin false C Q := by
  obtain ⟨hA, la, da, -⟩ := dec_nat ha (by omega)
  obtain ⟨hB, lb, db, -⟩ := dec_nat (n := b) (by omega) hb
  have hl := log_mono ha hab
  have heq : a.log2 = b.log2 → a * 2 ^ (52 - a.log2) ≤ b * 2 ^ (52 - b.log2) := fun h => by
    rw [h]
    exact Nat.mul_le_mul_right _ hab
  unfold FP.Core.div
  rw [da, db]
  unfold FP.Core.quotient
  generalize a * 2 ^ (52 - a.log2) = A at hA heq ⊢
  generalize b * 2 ^ (52 - b.log2) = B at hB heq ⊢
  generalize a.log2 = x at la hl heq ⊢
  generalize b.log2 = y at lb hl heq ⊢
  simp only [if_neg (show ¬ B = 0 by omega)]
  rw [show (false != false) = false from rfl]
  have hq : ∀ k, FP.Core.leading A B = k → -1 ≤ k → k ≤ 0 → FP.Core.quantum B64 A B ((x : Int) - 52 - ((y : Int) - 52)) = k + (x : Int) - (y : Int) - 52 := fun k hk h1 h2 => by
    unfold FP.Core.quantum
    rw [hk, show B64.qmin = -1074 from b_qmin, show B64.p = 53 from b_p]
    omega
  have hlead := lead52 hA hB
  by_cases hBA : B ≤ A
  · rw [if_pos hBA] at hlead
    have hQ := hq 0 hlead (by omega) (by omega)
    have hN : FP.Core.unitsNum A ((x : Int) - 52 - ((y : Int) - 52)) (0 + (x : Int) - (y : Int) - 52) = A * 4503599627370496 := by
      unfold FP.Core.unitsNum
      rw [show ((x : Int) - 52 - ((y : Int) - 52) - (0 + (x : Int) - (y : Int) - 52)).toNat = 52 by omega]
    have hD : FP.Core.unitsDen B ((x : Int) - 52 - ((y : Int) - 52)) (0 + (x : Int) - (y : Int) - 52) = B := by
      unfold FP.Core.unitsDen
      rw [show (0 + (x : Int) - (y : Int) - 52 - ((x : Int) - 52 - ((y : Int) - 52))).toNat = 0 by omega, Nat.pow_zero, Nat.mul_one]
    by_cases hxy : x = y
    · have hAB : A = B := by
        have := heq hxy
        omega
      have hc : FP.Core.nearest (A * 4503599627370496) B = 4503599627370496 := by
        rw [hAB]
        unfold FP.Core.nearest
        rw [Nat.mul_mod_right, if_pos (by omega), Nat.mul_div_cancel_left _ (by omega)]
      have hr := rr_dec (num := A) (den := B) (by omega) hQ (c := 4503599627370496) (by rw [hN, hD]; exact hc) (by omega) (by omega) (by omega) (by omega)
      rw [if_pos (by omega)] at hr
      exact ⟨_, _, ⟨by omega, by omega⟩, ⟨by omega, by omega⟩, fun _ => rfl, hr⟩
    · have hb := near_b (N := A * 4503599627370496) (D := B) (lo := 4503599627370496) (hi := 9007199254740992) (by omega) (by omega) (by omega)
      have hr := rr_dec (num := A) (den := B) (by omega) hQ (c := FP.Core.nearest (A * 4503599627370496) B) (by rw [hN, hD]) hb.1 hb.2 (by omega) (by omega)
      by_cases hc : FP.Core.nearest (A * 4503599627370496) B < 9007199254740992
      · rw [if_pos hc] at hr
        exact ⟨_, _, ⟨hb.1, hc⟩, ⟨by omega, by omega⟩, fun z => by omega, hr⟩
      · rw [if_neg hc] at hr
        exact ⟨_, _, ⟨by omega, by omega⟩, ⟨by omega, by omega⟩, fun _ => rfl, hr⟩
  · rw [if_neg hBA] at hlead
    have hQ := hq (-1) hlead (by omega) (by omega)
    have hN : FP.Core.unitsNum A ((x : Int) - 52 - ((y : Int) - 52)) (-1 + (x : Int) - (y : Int) - 52) = A * 9007199254740992 := by
      unfold FP.Core.unitsNum
      rw [show ((x : Int) - 52 - ((y : Int) - 52) - (-1 + (x : Int) - (y : Int) - 52)).toNat = 53 by omega]
    have hD : FP.Core.unitsDen B ((x : Int) - 52 - ((y : Int) - 52)) (-1 + (x : Int) - (y : Int) - 52) = B := by
      unfold FP.Core.unitsDen
      rw [show (-1 + (x : Int) - (y : Int) - 52 - ((x : Int) - 52 - ((y : Int) - 52))).toNat = 0 by omega, Nat.pow_zero, Nat.mul_one]
    have hb := near_b (N := A * 9007199254740992) (D := B) (lo := 4503599627370496) (hi := 9007199254740992) (by omega) (by omega) (by omega)
    have hr := rr_dec (num := A) (den := B) (by omega) hQ (c := FP.Core.nearest (A * 9007199254740992) B) (by rw [hN, hD]) hb.1 hb.2 (by omega) (by omega)
    by_cases hc : FP.Core.nearest (A * 9007199254740992) B < 9007199254740992
    · rw [if_pos hc] at hr
      exact ⟨_, _, ⟨hb.1, hc⟩, ⟨by omega, by omega⟩, fun z => by omega, hr⟩
    · rw [if_neg hc] at hr
      exact ⟨_, _, ⟨by omega, by omega⟩, ⟨by omega, by omega⟩, fun _ => rfl, hr⟩
theorem ddiv_nat {a b : Nat} (ha : a < 2147483648) (hb0 : 0 < b) (hb : b < 2147483648) : (FP.ddiv (FP.i2d (nI a)) (FP.i2d (nI b))).toNat = FP.Core.div B64 (FP.Core.fromInt B64 (a : Int)) (FP.Core.fromInt B64 (b : Int)) := by
  have hA1 : NN (FP.Core.fromInt B64 (a : Int)) := by
    by_cases h0 : a = 0
    · subst h0
      exact dec_zero.1
    · exact (dec_nat (n := a) (by omega) ha).2.2.2
  have hB1 := (dec_nat hb0 hb).2.2.2
  have hB2 := (dec_nat hb0 hb).2.2.1
  have hBlo := (dec_nat hb0 hb).1.1
  show (UInt64.ofNat (FP.Core.div B64 (UInt64.ofNat (FP.Core.fromInt B64 (nI a).toInt)).toNat (UInt64.ofNat (FP.Core.fromInt B64 (nI b).toInt)).toNat)).toNat = _
  rw [nI_toInt (by omega), nI_toInt (by omega), UInt64.toNat_ofNat_of_lt' hA1.1, UInt64.toNat_ofNat_of_lt' hB1.1]
  refine UInt64.toNat_ofNat_of_lt' ?_
  have hNN : NN (FP.Core.div B64 (FP.Core.fromInt B64 (a : Int)) (FP.Core.fromInt B64 (b : Int))) := by
    have hA2 : ∃ s c q, FP.Core.decode B64 (FP.Core.fromInt B64 (a : Int)) = .fin s c q := by
      by_cases h0 : a = 0
      · subst h0
        exact dec_zero.2
      · exact ⟨_, _, _, (dec_nat (n := a) (by omega) ha).2.2.1⟩
    obtain ⟨s, c, q, hA2⟩ := hA2
    unfold FP.Core.div
    rw [hA2, hB2]
    unfold FP.Core.quotient
    simp only [if_neg (show ¬ b * 2 ^ (52 - b.log2) = 0 by omega)]
    exact nn_ratio _ _ _ _
  exact hNN.1
theorem cmp_ii {x y : Int} (h : x < y) : compare x y = .lt := by
  show compareOfLessAndEq x y = _
  unfold compareOfLessAndEq
  rw [if_pos h]
theorem cmp_ee (x : Int) : compare x x = .eq := by
  show compareOfLessAndEq x x = _
  unfold compareOfLessAndEq
  rw [if_neg (Int.lt_irrefl x), if_pos rfl]
theorem cmp_gg {x y : Int} (h : y < x) : compare x y = .gt := by
  show compareOfLessAndEq x y = _
  unfold compareOfLessAndEq
  rw [if_neg (by omega), if_neg (by omega)]
theorem share {a b : Nat} (hb0 : 0 < b) (hb : b < 2147483648) (hab : a ≤ b) : Op.cmpValue (FP.dcmp (FP.ddiv (FP.i2d (nI a)) (FP.i2d (nI b))) (FP.ddiv (FP.i2d (nI a)) (FP.i2d (nI b)))) .l = 0 ∧ ¬ Op.cmpValue (FP.dcmp (FP.ddiv (FP.i2d (nI a)) (FP.i2d (nI b))) FP.dconst0) .g < 0 ∧ Op.cmpValue (FP.dcmp (FP.ddiv (FP.i2d (nI a)) (FP.i2d (nI b))) FP.dconst1) .l ≤ 0 := by
  have hn := ddiv_nat (a := a) (by omega) hb0 hb
  generalize FP.ddiv (FP.i2d (nI a)) (FP.i2d (nI b)) = q at hn ⊢
  have d0 : FP.Core.decode B64 FP.dconst0.toNat = .fin false 0 (-1074) := by decide
  have d1 : FP.Core.decode B64 FP.dconst1.toNat = .fin false 4503599627370496 (-52) := by decide
  have hdec : ∃ (C : Nat) (Q : Int), (-1074 ≤ Q ∧ Q ≤ -52) ∧ C < 9007199254740992 ∧ (Q = -52 → C ≤ 4503599627370496) ∧ FP.Core.decode B64 q.toNat = .fin false C Q := by
    rw [hn]
    by_cases h0 : a = 0
    · subst h0
      refine ⟨0, -1074, ⟨by omega, by omega⟩, by omega, fun _ => by omega, ?_⟩
      have hB2 := (dec_nat hb0 hb).2.2.1
      have hBlo := (dec_nat hb0 hb).1.1
      have hA : FP.Core.fromInt B64 ((0 : Nat) : Int) = 0 := by decide
      have hA0 : FP.Core.decode B64 0 = .fin false 0 (-1074) := by decide
      unfold FP.Core.div
      rw [hA, hA0, hB2]
      unfold FP.Core.quotient
      simp only [if_neg (show ¬ b * 2 ^ (52 - b.log2) = 0 by omega)]
      unfold FP.Core.roundRatio
      rw [if_pos rfl]
      decide
    · obtain ⟨C, Q, h1, h2, h3, h4⟩ := quot_dec (a := a) (by omega) hab hb
      exact ⟨C, Q, h2, h1.2, fun z => Nat.le_of_eq (h3 z), h4⟩
  obtain ⟨C, Q, hQ, hC, hC2, hd⟩ := hdec
  have e1 : FP.dcmp q q = some .eq := by
    show FP.Core.order (FP.Core.decode B64 q.toNat) (FP.Core.decode B64 q.toNat) = _
    rw [hd]
    show some (compare _ _) = _
    rw [cmp_ee]
  have e2 : FP.dcmp q FP.dconst0 = some .eq ∨ FP.dcmp q FP.dconst0 = some .gt := by
    have e : FP.dcmp q FP.dconst0 = some (compare (((C * 2 ^ (Q - min Q (-1074)).toNat : Nat) : Int)) (((0 * 2 ^ ((-1074 : Int) - min Q (-1074)).toNat : Nat) : Int))) := by
      show FP.Core.order (FP.Core.decode B64 q.toNat) (FP.Core.decode B64 FP.dconst0.toNat) = _
      rw [hd, d0]
      rfl
    rw [e, Nat.zero_mul]
    by_cases hz : C * 2 ^ (Q - min Q (-1074)).toNat = 0
    · rw [hz]
      exact Or.inl (congrArg some (cmp_ee _))
    · exact Or.inr (congrArg some (cmp_gg (by omega)))
  have e3 : FP.dcmp q FP.dconst1 = some .eq ∨ FP.dcmp q FP.dconst1 = some .lt := by
    have e : FP.dcmp q FP.dconst1 = some (compare (((C * 2 ^ (Q - min Q (-52)).toNat : Nat) : Int)) (((4503599627370496 * 2 ^ ((-52 : Int) - min Q (-52)).toNat : Nat) : Int))) := by
      show FP.Core.order (FP.Core.decode B64 q.toNat) (FP.Core.decode B64 FP.dconst1.toNat) = _
      rw [hd, d1]
      rfl
    rw [e, show min Q (-52) = Q by omega, show (Q - Q).toNat = 0 by omega, Nat.pow_zero, Nat.mul_one]
    by_cases hz : Q = -52
    · rw [hz, show ((-52 : Int) - -52).toNat = 0 by decide, Nat.pow_zero, Nat.mul_one]
      have := hC2 hz
      by_cases hz2 : C = 4503599627370496
      · rw [hz2]
        exact Or.inl (congrArg some (cmp_ee _))
      · exact Or.inr (congrArg some (cmp_ii (by omega)))
    · obtain ⟨k, hk⟩ : ∃ k, ((-52 : Int) - Q).toNat = k + 1 := ⟨((-52 : Int) - Q).toNat - 1, by omega⟩
      rw [hk, Nat.pow_succ]
      have h2 := Nat.two_pow_pos k
      refine Or.inr (congrArg some (cmp_ii ?_))
      have h3 : 9007199254740992 ≤ 4503599627370496 * (2 ^ k * 2) := by omega
      omega
  refine ⟨by rw [e1]; rfl, ?_, ?_⟩
  · rcases e2 with h | h <;> rw [h] <;> decide
  · rcases e3 with h | h <;> rw [h] <;> decide
