/-! p27: an act of the law: what it answers and the row that it leaves hang on the row alone -/
theorem runP_ok : ∀ (cs : List Nat) (i : Nat) (s s' : PS5), PsOk s i → runP cs i s = .inr s' → PsOk s' (i + cs.length)
  | [], i, s, s', h, hr => by
    cases hr
    exact h
  | c :: cs, i, s, s', h, hr => by
    rw [runP] at hr
    cases hs : stepP s c with
    | none => rw [hs] at hr; cases hr
    | some s1 =>
      rw [hs] at hr
      have h1 := runP_ok cs (i + 1) s1 s' (h.step hs) hr
      rw [List.length_cons, show i + (cs.length + 1) = i + 1 + cs.length by omega]
      exact h1
theorem runP_lt : ∀ (cs : List Nat) (i : Nat) (s : PS5) (j : Nat), runP cs i s = .inl j → j < i + cs.length
  | [], i, s, j, hr => by cases hr
  | c :: cs, i, s, j, hr => by
    rw [runP] at hr
    rw [List.length_cons]
    cases hs : stepP s c with
    | none => rw [hs] at hr; cases hr; omega
    | some s1 =>
      rw [hs] at hr
      have h1 := runP_lt cs (i + 1) s1 j hr
      omega
theorem PsOk_0 : PsOk (0, 0, 0, [], []) 0 := by
  refine ⟨Nat.zero_le _, Nat.zero_le _, fun h => ?_, fun p hp => ?_, fun _ => Nat.zero_le _, fun h => ?_, fun p hp => ?_, fun _ => Nat.le_refl _, fun h => ?_, fun h => ?_, fun h => ?_⟩
  · exact absurd h (by decide)
  · cases hp
  · exact absurd h (by decide)
  · cases hp
  · exact absurd h (by decide)
  · exact absurd h (by decide)
  · exact absurd h (by decide)
theorem parse_ok {T : List Nat} {L : List RoomS} (h : parseP T = .inr L) : ∀ rs ∈ L, RsOk rs := by
  unfold parseP at h
  cases hr : runP T 0 (0, 0, 0, [], []) with
  | inl i => rw [hr] at h; cases h
  | inr s =>
    rw [hr] at h
    dsimp only at h
    split at h
    · cases h
      exact (runP_ok T 0 _ _ PsOk_0 hr).2.2.2.2.2.2.1
    · cases h
theorem parse_lt {T : List Nat} {i : Nat} (h : parseP T = .inl i) : i ≤ T.length := by
  unfold parseP at h
  cases hr : runP T 0 (0, 0, 0, [], []) with
  | inl j =>
    rw [hr] at h
    cases h
    have := runP_lt T 0 _ _ hr
    omega
  | inr s =>
    rw [hr] at h
    dsimp only at h
    split at h
    · cases h
    · cases h
      exact Nat.le_refl _
theorem m100 : ∀ i, i ≤ 60 → ((-100 : Int32) - nI i) < 0 := by
  intro i hi
  rw [Int32.lt_iff_toInt_lt]
  have e : ((-100 : Int32) - nI i).toInt = -100 - (i : Int) := by
    rw [show (-100 : Int32) - nI i = Int32.ofInt (-100 - (i : Int)) by
      rw [Int32.ofInt_sub]
      rfl]
    exact Int32.toInt_ofInt_of_le (by omega) (by omega)
  rw [e]
  show _ < (0 : Int)
  omega
def lowN (v : Int32) (m : Nat) : Nat := v.toBitVec.toNat % 2 ^ 31 % m
theorem lowN_lt {v : Int32} {m : Nat} (h : 0 < m) : lowN v m < m := Nat.mod_lt _ h
abbrev shN (x : Int32) (k : Nat) : Int32 := x >>> (nI k &&& 31)
def numT (n : Nat) : List Nat := (if 9 < n then [48 + n / 10] else []) ++ [48 + n % 10]
theorem numT_len (n : Nat) : (numT n).length ≤ 2 := by
  unfold numT
  split <;> simp
def txtA (x : Int32) : List Nat := numT (1 + lowN x 30) ++ [120] ++ numT (1 + lowN (shN x 5) 30)
def txtB (x : Int32) : List Nat := if lowN (shN x 9) 2 = 0 then txtA x ++ [43] ++ numT (1 + lowN (shN x 2) 9) ++ [120] ++ numT (1 + lowN (shN x 7) 9) else txtA x
def txtT (x : Int32) : List Nat := txtB x ++ [64] ++ [48 + lowN (shN x 11) 5]
theorem txtA_len (x : Int32) : (txtA x).length ≤ 5 := by
  have h1 := numT_len (1 + lowN x 30)
  have h2 := numT_len (1 + lowN (shN x 5) 30)
  unfold txtA
  simp only [List.length_append, List.length_cons, List.length_nil]
  omega
theorem txtB_len (x : Int32) : (txtB x).length ≤ 11 := by
  have h1 := txtA_len x
  have h2 := numT_len (1 + lowN (shN x 2) 9)
  have h3 := numT_len (1 + lowN (shN x 7) 9)
  unfold txtB
  split
  · simp only [List.length_append, List.length_cons, List.length_nil]
    omega
  · omega
theorem txtT_len (x : Int32) : (txtT x).length ≤ 13 := by
  have h1 := txtB_len x
  unfold txtT
  simp only [List.length_append, List.length_cons, List.length_nil]
  omega
def actF (G : GS) (u x : Int32) : Int32 × GS :=
  if lowN (shN u 3) 14 < 2 then spRoll G (nI (lowN x 3)) (nI (4 + lowN (shN x 2) 25)) (nI (1 + lowN (shN x 6) 120)) (nI (lowN (shN x 9) 100))
  else if lowN (shN u 3) 14 < 5 then spRooms (G.1, G.2.1, G.2.2.1, txtT x)
  else if lowN (shN u 3) 14 < 10 then spCover G (nI (lowN x (G.1 2 + 1))) (nI (lowN (shN x 4) (G.1 0 + 1))) (nI (lowN (shN x 7) 2))
  else if lowN (shN u 3) 14 = 10 then spTakeUp G (nI (lowN x (G.1 2 + 1)))
  else if lowN (shN u 3) 14 = 11 then spSell G (nI (lowN x (G.1 1 + 1)))
  else if lowN (shN u 3) 14 = 12 then spClear G (nI (lowN x (G.1 0 + 1))) (nI (1 + lowN (shN x 3) 200))
  else spSet G (nI (lowN x 5)) (nI (lowN (shN x 3) (if lowN x 5 = 0 then 3 else if lowN x 5 = 4 then 2 else 10)))
def AL (R : RS) (f : List RS → Option RS → List Nat → Int32 × GS) : Prop := ∃ (v : Int32) (R' : RS), (JJ R → JJ R') ∧ ∀ H S T, ∃ T', f H S T = (v, if v < 0 then (R, H, S, T') else actG (R, H, S, T') R')
theorem AL.err {R : RS} {f : List RS → Option RS → List Nat → Int32 × GS} {v : Int32} (hv : v < 0) (h : ∀ H S T, ∃ T', f H S T = (v, (R, H, S, T'))) : AL R f := ⟨v, R, id, fun H S T => by
  obtain ⟨T', h1⟩ := h H S T
  exact ⟨T', by rw [h1, if_pos hv]⟩⟩
theorem AL.act {R R' : RS} {f : List RS → Option RS → List Nat → Int32 × GS} {v : Int32} (hv : ¬ v < 0) (hJ : JJ R → JJ R') (h : ∀ H S T, ∃ T', f H S T = (v, actG (R, H, S, T') R')) : AL R f := ⟨v, R', hJ, fun H S T => by
  obtain ⟨T', h1⟩ := h H S T
  exact ⟨T', by rw [h1, if_neg hv]⟩⟩
theorem AL_roll {R : RS} (hI : Inv R) (k w l p : Int32) : AL R (fun H S T => spRoll (R, H, S, T) k w l p) := by
  have h12 := hI.1.1
  by_cases h : (inI k 0 9 ∧ inI w 5 60) ∧ inI l 1 999 ∧ inI p 0 99
  · by_cases hf : 12 ≤ R 0
    · exact AL.err (v := -3) (by decide) (fun H S T => ⟨T, (if_pos h).trans (if_pos hf)⟩)
    · exact AL.act (v := nI (R 0)) (nI_pos (by omega)) (fun hJ => rollS_JJ hI hJ (by omega)) (fun H S T => ⟨T, (if_pos h).trans (if_neg hf)⟩)
  · exact AL.err (v := -2) (by decide) (fun H S T => ⟨T, if_neg h⟩)
theorem hasI_tN {x : Int32} {n : Nat} (hn : n < 2 ^ 31) (h : hasI x n) : tN x < n := by
  obtain ⟨i, h1, rfl⟩ := hasI_of hn h
  rw [tN_nI (by omega)]
  exact h1
theorem inI_tN {x : Int32} {a b : Nat} (ha : a < 2 ^ 31) (hb : b < 2 ^ 31) (h : inI x a b) : a ≤ tN x ∧ tN x ≤ b := by
  obtain ⟨i, h1, rfl⟩ := inI_of ha hb h
  rw [tN_nI (by omega)]
  exact h1
theorem AL_cover {R : RS} (hI : Inv R) (i r y : Int32) : AL R (fun H S T => spCover (R, H, S, T) i r y) := by
  have h12 := hI.1.1
  have h20 := hI.1.2.2
  by_cases h : hasI i (R 2) ∧ hasI r (R 0)
  · have hi := hasI_tN (by omega) h.1
    have hr := hasI_tN (by omega) h.2
    by_cases hy : inI y 0 1
    · have hy2 := (inI_tN (by omega) (by omega) hy).2
      by_cases hc : (coverS R (tN i) (tN r) (tN y)).1 = 0
      · have hp := priceS_lt hI hi hr hy2
        exact AL.act (v := nI (priceS R (tN i) (tN r) (tN y))) (nI_pos (by omega)) (fun hJ => coverS_JJ hI hJ hi hr hy2 hc) (fun H S T => ⟨T, ((if_pos h).trans (if_pos hy)).trans (if_pos hc)⟩)
      · exact AL.err (errI_neg (coverS R (tN i) (tN r) (tN y)).1) (fun H S T => ⟨T, ((if_pos h).trans (if_pos hy)).trans (if_neg hc)⟩)
    · exact AL.err (v := -2) (by decide) (fun H S T => ⟨T, (if_pos h).trans (if_neg hy)⟩)
  · exact AL.err (v := -1) (by decide) (fun H S T => ⟨T, if_neg h⟩)
theorem liftS_few {R : RS} (hI : Inv R) {i : Nat} (hi : i < R 2) (h8 : rq R i 8 = 1) : (liftS R i).2 ≤ 36 := by
  obtain ⟨k1, k2, k3⟩ := hI.2.2.2.2.1 i hi
  obtain ⟨k4, k5⟩ := k3 h8
  obtain ⟨v1, v2, v3, v4, v5⟩ := hI.2.2.1 _ k4
  have hr12 : rq R i 9 < 12 := by have := hI.1.1; omega
  obtain ⟨a1, a2, a3, a4, a5, a6⟩ := liftL_bA hr12 (SL (rq R i) (rq R i 10) (ro R (rq R i 9) 1)) R 0 hI.1.2.1 (fun p hp => (SL_pos k1 k5 v2.1 p hp).1)
  have h1 := stripsN_le k1 k5 v2.1
  rw [← SL_len] at h1
  have h2 := a3.2.1
  show (liftL (rq R i 9) (SL (rq R i) (rq R i 10) (ro R (rq R i 9) 1)) R 0).2 ≤ 36
  omega
theorem AL_takeUp {R : RS} (hI : Inv R) (i : Int32) : AL R (fun H S T => spTakeUp (R, H, S, T) i) := by
  have h20 := hI.1.2.2
  by_cases h : hasI i (R 2)
  · have hi := hasI_tN (by omega) h
    by_cases h8 : rq R (tN i) 8 = 1
    · have hf := liftS_few hI hi h8
      exact AL.act (v := nI (liftS R (tN i)).2) (nI_pos (by omega)) (fun hJ => liftS_JJ hI hJ hi h8) (fun H S T => ⟨T, (if_pos h).trans (if_pos h8)⟩)
    · exact AL.err (v := -5) (by decide) (fun H S T => ⟨T, (if_pos h).trans (if_neg h8)⟩)
  · exact AL.err (v := -1) (by decide) (fun H S T => ⟨T, if_neg h⟩)
theorem AL_sell {R : RS} (hI : Inv R) (x : Int32) : AL R (fun H S T => spSell (R, H, S, T) x) := by
  have h300 := hI.1.2.1
  by_cases h : keptI R x
  · have hk := hasI_tN (by omega) h.1
    obtain ⟨g1, g2, g3⟩ := hI.2.2.2.2.2.2 _ hk h.2
    have h0 : 0 < oc R (tN x) 0 := by simpa [kp] using h.2
    obtain ⟨v1, v2, v3, v4, v5⟩ := hI.2.2.1 (oc R (tN x) 0 - 1) (by omega)
    have hb : oc R (tN x) 1 * oc R (tN x) 2 * ro R (oc R (tN x) 0 - 1) 3 ≤ 60 * 60 * 99 := mul_b (mul_b g2 g3) v4
    exact AL.act (v := nI (oc R (tN x) 1 * oc R (tN x) 2 * ro R (oc R (tN x) 0 - 1) 3 / 2)) (nI_pos (by omega)) (fun hJ => sellS_JJ hI hJ hk h.2) (fun H S T => ⟨T, if_pos h⟩)
  · exact AL.err (v := -1) (by decide) (fun H S T => ⟨T, if_neg h⟩)
theorem AL_clear {R : RS} (hI : Inv R) (r A : Int32) : AL R (fun H S T => spClear (R, H, S, T) r A) := by
  have h12 := hI.1.1
  have h300 := hI.1.2.1
  by_cases h : hasI r (R 0)
  · have hr := hasI_tN (by omega) h
    by_cases hA : inI A 1 9999
    · by_cases hc : cnt (smK R (tN r) (tN A)) (R 1) = 0
      · exact AL.err (v := -5) (by decide) (fun H S T => ⟨T, ((if_pos h).trans (if_pos hA)).trans (if_pos hc)⟩)
      · have hl := cnt_le (smK R (tN r) (tN A)) (R 1)
        exact AL.act (v := nI (cnt (smK R (tN r) (tN A)) (R 1))) (nI_pos (by omega)) (fun hJ => clearS_JJ hI hJ hr) (fun H S T => ⟨T, ((if_pos h).trans (if_pos hA)).trans (if_neg hc)⟩)
    · exact AL.err (v := -2) (by decide) (fun H S T => ⟨T, (if_pos h).trans (if_neg hA)⟩)
  · exact AL.err (v := -1) (by decide) (fun H S T => ⟨T, if_neg h⟩)
theorem AL_set {R : RS} (hI : Inv R) (k v : Int32) : AL R (fun H S T => spSet (R, H, S, T) k v) := by
  by_cases h : setI k v
  · obtain ⟨i, j, hi, rfl, rfl, hj, hc⟩ := setI_of h
    obtain ⟨b1, b2, b3, b4, b5⟩ := hI.2.1
    have hb : R (4 + tN (nI i)) ≤ 99 := by
      rw [tN_nI (by omega)]
      rcases (show i = 0 ∨ i = 1 ∨ i = 2 ∨ i = 3 ∨ i = 4 by omega) with rfl | rfl | rfl | rfl | rfl
      · show R 4 ≤ 99
        omega
      · show R 5 ≤ 99
        omega
      · exact b3
      · show R 7 ≤ 99
        omega
      · show R 8 ≤ 99
        omega
    by_cases he : tN (nI j) = R (4 + tN (nI i))
    · exact AL.err (v := -5) (by decide) (fun H S T => ⟨T, (if_pos h).trans (if_pos he)⟩)
    · refine AL.act (v := nI (R (4 + tN (nI i)))) (R' := un R (4 + tN (nI i)) (tN (nI j))) (nI_pos (by omega)) (fun hJ => ?_) (fun H S T => ⟨T, (if_pos h).trans (if_neg he)⟩)
      rw [tN_nI (show i < 2 ^ 31 by omega)]
      exact setS_JJ hI hJ hi
  · exact AL.err (v := -2) (by decide) (fun H S T => ⟨T, if_neg h⟩)
theorem AL_rooms {R : RS} (hI : Inv R) {T0 : List Nat} (hT : T0.length ≤ 60) : AL R (fun H S _ => spRooms (R, H, S, T0)) := by
  have h20 := hI.1.2.2
  cases hp : parseP T0 with
  | inl i =>
    have := parse_lt hp
    exact AL.err (m100 i (by omega)) (fun H S T => ⟨T0, by
      unfold spRooms
      dsimp only
      rw [hp]⟩)
  | inr L =>
    by_cases hf : 20 < R 2 + L.length
    · exact AL.err (v := -3) (by decide) (fun H S T => ⟨T0, by
        unfold spRooms
        dsimp only
        rw [hp]
        exact if_pos hf⟩)
    · exact AL.act (v := nI L.length) (nI_pos (by omega)) (fun hJ => addRooms_JJ L R hI hJ (parse_ok hp) (by omega)) (fun H S T => ⟨T0, by
        unfold spRooms
        dsimp only
        rw [hp]
        exact if_neg hf⟩)
theorem AL.cong {R : RS} {f h : List RS → Option RS → List Nat → Int32 × GS} (he : ∀ H S T, h H S T = f H S T) (ha : AL R f) : AL R h := by
  obtain ⟨v, R', h1, h2⟩ := ha
  refine ⟨v, R', h1, fun H S T => ?_⟩
  rw [he]
  exact h2 H S T
theorem actF_AL {R : RS} (hI : Inv R) (u x : Int32) : AL R (fun H S T => actF (R, H, S, T) u x) := by
  by_cases h1 : lowN (shN u 3) 14 < 2
  · exact (AL_roll hI (nI (lowN x 3)) (nI (4 + lowN (shN x 2) 25)) (nI (1 + lowN (shN x 6) 120)) (nI (lowN (shN x 9) 100))).cong (fun H S T => by
      unfold actF
      rw [if_pos h1])
  · by_cases h2 : lowN (shN u 3) 14 < 5
    · have hl := txtT_len x
      exact (AL_rooms (T0 := txtT x) hI (by omega)).cong (fun H S T => by
        unfold actF
        rw [if_neg h1, if_pos h2])
    · by_cases h3 : lowN (shN u 3) 14 < 10
      · exact (AL_cover hI (nI (lowN x (R 2 + 1))) (nI (lowN (shN x 4) (R 0 + 1))) (nI (lowN (shN x 7) 2))).cong (fun H S T => by
          unfold actF
          rw [if_neg h1, if_neg h2, if_pos h3])
      · by_cases h4 : lowN (shN u 3) 14 = 10
        · exact (AL_takeUp hI (nI (lowN x (R 2 + 1)))).cong (fun H S T => by
            unfold actF
            rw [if_neg h1, if_neg h2, if_neg h3, if_pos h4])
        · by_cases h5 : lowN (shN u 3) 14 = 11
          · exact (AL_sell hI (nI (lowN x (R 1 + 1)))).cong (fun H S T => by
              unfold actF
              rw [if_neg h1, if_neg h2, if_neg h3, if_neg h4, if_pos h5])
          · by_cases h6 : lowN (shN u 3) 14 = 12
            · exact (AL_clear hI (nI (lowN x (R 0 + 1))) (nI (1 + lowN (shN x 3) 200))).cong (fun H S T => by
                unfold actF
                rw [if_neg h1, if_neg h2, if_neg h3, if_neg h4, if_neg h5, if_pos h6])
            · exact (AL_set hI (nI (lowN x 5)) (nI (lowN (shN x 3) (if lowN x 5 = 0 then 3 else if lowN x 5 = 4 then 2 else 10)))).cong (fun H S T => by
                unfold actF
                rw [if_neg h1, if_neg h2, if_neg h3, if_neg h4, if_neg h5, if_neg h6])
