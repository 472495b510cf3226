/-! THE STATE as one row of numbers R (as the reference lays it), and what the acts do to it -/
abbrev RS : Type := Nat → Nat
def oc (R : RS) (k j : Nat) : Nat := R (93 + 3 * k + j)
def ro (R : RS) (r f : Nat) : Nat := R (9 + 7 * r + f)
def rq (R : RS) (i : Nat) : Nat → Nat := fun w => if w < 12 then R (993 + 12 * i + w) else 0
def sc (R : RS) (i s : Nat) : Nat := R (1233 + 36 * i + s)
def un (R : RS) (i v : Nat) : RS := fun j => if j = i then v else R j
def kp (R : RS) (k : Nat) : Bool := decide (0 < oc R k 0)
def oe (R : RS) (k : Nat) : OE := (k, oc R k 0 - 1, oc R k 1, oc R k 2)
def ELn (R : RS) : Nat → List OE
  | 0 => []
  | n + 1 => ELn R n ++ (if kp R n then [oe R n] else [])
def EL (R : RS) : List OE := ELn R (R 1)
def nK (R : RS) : Nat := (EL R).length
def dropR (R : RS) (k : Nat) : RS := un R (93 + 3 * k) 0
def addR (R : RS) (r w l : Nat) : RS := un (un (un (un R (93 + 3 * R 1) (r + 1)) (94 + 3 * R 1) w) (95 + 3 * R 1) l) 1 (R 1 + 1)
def wasteR (R : RS) (r x : Nat) : RS := un R (9 + 7 * r + 5) (ro R r 5 + x)
def restS (R : RS) (r a b : Nat) : Option RS := if a < R 5 ∨ b < R 5 then some (wasteR R r (a * b)) else if 60 ≤ nK R ∨ 300 ≤ R 1 then none else some (addR R r a b)
def lngB (R : RS) (PW PL w l : Nat) : Bool := if R 4 = 2 then decide (max ((PW - w) * l) (PW * (PL - l)) ≤ max ((PW - w) * PL) (w * (PL - l))) else decide (R 4 = 0)
def cutS (R : RS) (r PW PL w l : Nat) : Option RS := (restS R r (PW - w) (if lngB R PW PL w l then PL else l)).bind (fun R1 => restS R1 r (if lngB R PW PL w l then w else PW) (PL - l))
def NONE32 : Nat := 4294967291
def takeS (R : RS) (r W w l i s : Nat) : Option (RS × Nat × Nat) := match pfo (EL R) r w l (EL R).length with
  | some p => some (dropR (un R (1233 + 36 * i + s) (eN (EL R) p)) (eN (EL R) p), eW (EL R) p, eL (EL R) p)
  | none => if ro R r 2 < l then none else some (un (un R (1233 + 36 * i + s) NONE32) (9 + 7 * r + 2) (ro R r 2 - l), W, l)
def stripS (R : RS) (r W i s w l : Nat) : Nat × RS := match takeS R r W w l i s with
  | none => (3, R)
  | some t => match cutS t.1 r t.2.1 t.2.2 w l with
    | none => (4, R)
    | some R2 => (0, R2)
def coverL (r W i : Nat) : List (Nat × Nat) → Nat → RS → Nat × RS
  | [], _, R => (0, R)
  | p :: ps, s, R => if (stripS R r W i s p.1 p.2).1 = 0 then coverL r W i ps (s + 1) (stripS R r W i s p.1 p.2).2 else stripS R r W i s p.1 p.2
def priceS (R : RS) (i r y : Nat) : Nat := areaN (rq R i) * ro R r 3 + seamN (rq R i) y (ro R r 1) * (R 6 * (if acr (rq R i) y then R 7 else 1))
def finS (R : RS) (i r y p : Nat) : RS := un (un (un (un (un R (993 + 12 * i + 8) 1) (993 + 12 * i + 9) r) (993 + 12 * i + 10) y) (993 + 12 * i + 11) p) 3 (R 3 + p)
def coverS (R : RS) (i r y : Nat) : Nat × RS := if rq R i 8 = 1 then (1, R) else if R 8 = 1 ∧ acr (rq R i) y = true then (2, R) else if (coverL r (ro R r 1) i (SL (rq R i) y (ro R r 1)) 0 R).1 = 0 then (0, finS (coverL r (ro R r 1) i (SL (rq R i) y (ro R r 1)) 0 R).2 i r y (priceS R i r y)) else coverL r (ro R r 1) i (SL (rq R i) y (ro R r 1)) 0 R
/-- what lies in rooms of a roll -/
def laidN (R : RS) (r : Nat) : Nat := sN (fun i => if rq R i 8 = 1 ∧ rq R i 9 = r then areaN (rq R i) else 0) (R 2)
def Inv (R : RS) : Prop := (R 0 ≤ 12 ∧ R 1 ≤ 300 ∧ R 2 ≤ 20) ∧ (R 4 ≤ 2 ∧ (1 ≤ R 5 ∧ R 5 ≤ 20) ∧ R 6 ≤ 99 ∧ (1 ≤ R 7 ∧ R 7 ≤ 9) ∧ R 8 ≤ 1) ∧ (∀ r, r < R 0 → ro R r 0 ≤ 9 ∧ (5 ≤ ro R r 1 ∧ ro R r 1 ≤ 60) ∧ ro R r 2 ≤ 999 ∧ ro R r 3 ≤ 99 ∧ 1 ≤ ro R r 4 ∧ ro R r 4 ≤ 999) ∧ (∀ r f, R 0 ≤ r → r < 12 → f < 7 → ro R r f = 0) ∧ (∀ i, i < R 2 → GeoOk (rq R i) ∧ rq R i 8 ≤ 1 ∧ (rq R i 8 = 1 → rq R i 9 < R 0 ∧ rq R i 10 ≤ 1)) ∧ (∀ i, R 2 ≤ i → i < 20 → rq R i 8 = 0) ∧ (∀ k, k < R 1 → kp R k = true → oc R k 0 ≤ R 0 ∧ oc R k 1 ≤ 60 ∧ oc R k 2 ≤ 60)
theorem un_at (R : RS) (i v : Nat) : un R i v i = v := if_pos rfl
theorem un_ne (R : RS) {i j : Nat} (v : Nat) (h : j ≠ i) : un R i v j = R j := if_neg h
-- the list of kept offcuts
theorem ELn_cong {R R' : RS} : ∀ n, (∀ k, k < n → oc R' k 0 = oc R k 0 ∧ (kp R k = true → oe R' k = oe R k)) → ELn R' n = ELn R n
  | 0, _ => rfl
  | n + 1, h => by
    have h1 := ELn_cong n (fun k hk => h k (by omega))
    have h2 := h n (by omega)
    have h3 : kp R' n = kp R n := by simp only [kp, h2.1]
    rw [ELn, ELn, h1, h3]
    by_cases h4 : kp R n = true
    · rw [if_pos h4, if_pos h4, h2.2 h4]
    · rw [if_neg h4, if_neg h4]
theorem EL_cong {R R' : RS} (h1 : R' 1 = R 1) (h : ∀ k j, k < R 1 → j < 3 → oc R' k j = oc R k j) : EL R' = EL R := by
  unfold EL
  rw [h1]
  exact ELn_cong _ (fun k hk => ⟨h k 0 hk (by omega), fun _ => by simp only [oe, h k 0 hk (by omega), h k 1 hk (by omega), h k 2 hk (by omega)]⟩)
theorem ELn_len (R : RS) : ∀ n, (ELn R n).length = cnt (kp R) n
  | 0 => rfl
  | n + 1 => by
    rw [ELn, List.length_append, ELn_len R n, cnt]
    by_cases h : kp R n = true
    · rw [if_pos h, if_pos h]; rfl
    · rw [if_neg h, if_neg h]; rfl
theorem nK_cnt (R : RS) : nK R = cnt (kp R) (R 1) := ELn_len R _
theorem ELn_pre (R : RS) {n k : Nat} (h : k ≤ n) : ∃ T, ELn R n = ELn R k ++ T := by
  induction n with
  | zero => exact ⟨[], by rw [show k = 0 by omega]; simp⟩
  | succ n ih =>
    by_cases hk : k = n + 1
    · exact ⟨[], by rw [hk]; simp⟩
    · obtain ⟨T, hT⟩ := ih (by omega)
      exact ⟨T ++ (if kp R n then [oe R n] else []), by rw [ELn, hT, List.append_assoc]⟩
/-- the place of a kept offcut is how many are kept before it -/
theorem EL_at (R : RS) {k : Nat} (hk : k < R 1) (h : kp R k = true) : (EL R)[cnt (kp R) k]? = some (oe R k) := by
  obtain ⟨T, hT⟩ := ELn_pre R (show k + 1 ≤ R 1 by omega)
  unfold EL
  rw [hT, ELn, if_pos h, List.getElem?_append_left (by rw [List.length_append, ELn_len]; simp), List.getElem?_append_right (by rw [ELn_len]; exact Nat.le_refl _), ELn_len]
  simp
theorem cnt_mono (p : Nat → Bool) {a b : Nat} (h : a ≤ b) : cnt p a ≤ cnt p b := by
  induction b with
  | zero => rw [show a = 0 by omega]; exact Nat.le_refl _
  | succ b ih =>
    by_cases hb : a = b + 1
    · rw [hb]; exact Nat.le_refl _
    · have := ih (by omega)
      rw [show cnt p (b + 1) = cnt p b + (if p b then 1 else 0) from rfl]
      omega
theorem cnt_lt (p : Nat → Bool) {a b : Nat} (h : a < b) (ha : p a = true) : cnt p a < cnt p b := by
  have h1 := cnt_mono p (show a + 1 ≤ b by omega)
  rw [cnt_t ha] at h1
  omega
/-- each place of the list is a kept offcut's -/
theorem EL_of (R : RS) {p : Nat} (hp : p < nK R) : ∃ k, k < R 1 ∧ kp R k = true ∧ cnt (kp R) k = p := by
  rw [nK_cnt] at hp
  generalize R 1 = n at hp ⊢
  induction n with
  | zero => exact absurd hp (by simp [cnt])
  | succ n ih =>
    by_cases h : p < cnt (kp R) n
    · obtain ⟨k, h1, h2, h3⟩ := ih h
      exact ⟨k, by omega, h2, h3⟩
    · by_cases hk : kp R n = true
      · rw [cnt_t hk] at hp
        exact ⟨n, by omega, hk, by omega⟩
      · rw [cnt_f (by simpa using hk)] at hp
        exact absurd hp h
theorem EL_e (R : RS) {k : Nat} (hk : k < R 1) (h : kp R k = true) : eN (EL R) (cnt (kp R) k) = k ∧ eR (EL R) (cnt (kp R) k) = oc R k 0 - 1 ∧ eW (EL R) (cnt (kp R) k) = oc R k 1 ∧ eL (EL R) (cnt (kp R) k) = oc R k 2 := by
  simp only [eN, eR, eW, eL, EL_at R hk h, Option.getD_some, oe, and_self]
theorem cnt_inj (p : Nat → Bool) {a b : Nat} (ha : p a = true) (hb : p b = true) (h : cnt p a = cnt p b) : a = b := by
  rcases Nat.lt_trichotomy a b with h1 | h1 | h1
  · have := cnt_lt p h1 ha; omega
  · exact h1
  · have := cnt_lt p h1 hb; omega
theorem ELn_drop (R : RS) {k : Nat} (h : kp R k = true) : ∀ n, k < n → ELn (dropR R k) n = (ELn R n).eraseIdx (cnt (kp R) k)
  | 0, hn => absurd hn (by omega)
  | n + 1, hn => by
    have hoc : ∀ j, j ≠ k → oc (dropR R k) j 0 = oc R j 0 ∧ oe (dropR R k) j = oe R j := by
      intro j hj
      have h1 : ∀ x, x < 3 → oc (dropR R k) j x = oc R j x := fun x hx => un_ne R _ (by omega)
      exact ⟨h1 0 (by omega), by simp only [oe, h1 0 (by omega), h1 1 (by omega), h1 2 (by omega)]⟩
    by_cases hkn : k = n
    · subst hkn
      have h2 : kp (dropR R k) k = false := by
        have : oc (dropR R k) k 0 = 0 := un_at R _ _
        simp [kp, this]
      rw [ELn, ELn, h2, if_pos h, ELn_cong k (R := R) (fun j hj => ⟨(hoc j (by omega)).1, fun _ => (hoc j (by omega)).2⟩), List.eraseIdx_append_of_length_le (by rw [ELn_len]; exact Nat.le_refl _), ELn_len]
      simp
    · have h2 : kp (dropR R k) n = kp R n := by simp only [kp, (hoc n (fun z => hkn z.symm)).1]
      rw [ELn, ELn, h2, (hoc n (fun z => hkn z.symm)).2, ELn_drop R h n (by omega), List.eraseIdx_append_of_lt_length (by rw [ELn_len]; exact cnt_lt _ (by omega) h)]
theorem EL_drop (R : RS) {k : Nat} (hk : k < R 1) (h : kp R k = true) : EL (dropR R k) = (EL R).eraseIdx (cnt (kp R) k) := by
  have h1 : dropR R k 1 = R 1 := un_ne R _ (by omega)
  unfold EL
  rw [h1]
  exact ELn_drop R h _ hk
theorem EL_add (R : RS) (r w l : Nat) : EL (addR R r w l) = EL R ++ [(R 1, r, w, l)] := by
  have h0 : addR R r w l 1 = R 1 + 1 := un_at _ _ _
  have hoc : ∀ k j, k < R 1 → j < 3 → oc (addR R r w l) k j = oc R k j := by
    intro k j hk hj
    unfold oc addR
    rw [un_ne _ _ (by omega), un_ne _ _ (by omega), un_ne _ _ (by omega), un_ne _ _ (by omega)]
  have g0 : oc (addR R r w l) (R 1) 0 = r + 1 := by
    unfold oc addR
    rw [un_ne _ _ (by omega), un_ne _ _ (by omega), un_ne _ _ (by omega)]
    exact un_at _ _ _
  have g1 : oc (addR R r w l) (R 1) 1 = w := by
    unfold oc addR
    rw [un_ne _ _ (by omega), un_ne _ _ (by omega), show 93 + 3 * R 1 + 1 = 94 + 3 * R 1 by omega, un_at]
  have g2 : oc (addR R r w l) (R 1) 2 = l := by
    unfold oc addR
    rw [un_ne _ _ (by omega), show 93 + 3 * R 1 + 2 = 95 + 3 * R 1 by omega, un_at]
  have gk : kp (addR R r w l) (R 1) = true := by simp [kp, g0]
  show ELn (addR R r w l) (addR R r w l 1) = _
  rw [h0, ELn, if_pos gk, ELn_cong (R 1) (R := R) (fun k hk => ⟨hoc k 0 hk (by omega), fun _ => by simp only [oe, hoc k 0 hk (by omega), hoc k 1 hk (by omega), hoc k 2 hk (by omega)]⟩)]
  simp only [oe, g0, g1, g2]
  rfl
theorem EL_far {R : RS} {i v : Nat} (h1 : i ≠ 1) (h2 : R 1 ≤ 300) (h3 : i < 93 ∨ 993 ≤ i) : EL (un R i v) = EL R := EL_cong (un_ne R v (fun z => h1 z.symm)) (fun k j hk hj => un_ne R v (by omega))
theorem EL_waste {R : RS} {r x : Nat} (hr : r < 12) (h2 : R 1 ≤ 300) : EL (wasteR R r x) = EL R := EL_far (by omega) h2 (Or.inl (by omega))
theorem rq_w {R : RS} {i w : Nat} (h : w < 12) : rq R i w = R (993 + 12 * i + w) := if_pos h
theorem rq_cong {R R' : RS} {i : Nat} (h : ∀ w, w < 12 → R' (993 + 12 * i + w) = R (993 + 12 * i + w)) : rq R' i = rq R i := by
  funext w
  unfold rq
  by_cases hw : w < 12
  · rw [if_pos hw, if_pos hw, h w hw]
  · rw [if_neg hw, if_neg hw]
def errI (e : Nat) : Int32 := if e = 1 then -11 else if e = 2 then -12 else if e = 3 then -13 else -14
theorem errI_neg (e : Nat) : errI e < 0 := by
  unfold errI
  split
  · decide
  · split
    · decide
    · split <;> decide
def sumA : List (Nat × Nat) → Nat
  | [] => 0
  | p :: ps => p.1 * p.2 + sumA ps
theorem sumA_app : ∀ (a b : List (Nat × Nat)), sumA (a ++ b) = sumA a + sumA b
  | [], b => by simp [sumA]
  | p :: ps, b => by rw [List.cons_append, sumA, sumA, sumA_app ps b]; omega
theorem sumA_take {S : List (Nat × Nat)} {s : Nat} (h : s < S.length) : sumA (S.take (s + 1)) = sumA (S.take s) + sw S s * sl S s := by
  rw [List.take_succ, sumA_app, sw, sl, List.getElem?_eq_getElem h]
  simp [sumA]
/-- the strips of a rectangle cover it -/
theorem strips_cover {W wd ln : Nat} (hW : 1 ≤ W) : ∀ n, sumA ((List.range n).map (fun s => (min W (wd - s * W), ln))) = min wd (n * W) * ln
  | 0 => by simp [sumA]
  | n + 1 => by
    rw [List.range_succ, List.map_append, sumA_app, strips_cover hW n]
    simp only [List.map_cons, List.map_nil, sumA]
    rw [Nat.add_zero, ← Nat.add_mul]
    congr 1
    rw [Nat.succ_mul]
    omega
theorem SLk_sum {q : Nat → Nat} {y W k : Nat} (hW : 1 ≤ W) (hw : 1 ≤ wdt q k y) : sumA (SLk q y W k) = wdt q k y * lng q k y := by
  unfold SLk
  rw [strips_cover hW]
  congr 1
  have h1 : wdt q k y ≤ mny q k y W * W := by
    unfold mny
    have h2 := Nat.div_add_mod (wdt q k y + W - 1) W
    have h3 := Nat.mod_lt (wdt q k y + W - 1) (show 0 < W by omega)
    rw [Nat.mul_comm] at h2
    omega
  omega
theorem SLf_sum {q : Nat → Nat} {y W : Nat} (hG : GeoOk q) (hy : y ≤ 1) (hW : 1 ≤ W) : ∀ n k, k + n = q 0 → sumA (SLf q y W n k) + sN (fun k => q (1 + 2 * k) * q (2 + 2 * k)) k = areaN q
  | 0, k, h => by rw [SLf, sumA, areaN, ← h]; simp
  | n + 1, k, h => by
    have h1 := SLf_sum hG hy hW n (k + 1) (by omega)
    rw [SLf, sumA_app, SLk_sum hW (hG.w (by omega) hy).1]
    rw [sN] at h1
    have h2 : wdt q k y * lng q k y = q (1 + 2 * k) * q (2 + 2 * k) := by
      unfold wdt lng
      rcases (show y = 0 ∨ y = 1 by omega) with rfl | rfl
      · rfl
      · rw [show 1 + 2 * k + 1 = 2 + 2 * k by omega, show 2 + 2 * k - 1 = 1 + 2 * k by omega, Nat.mul_comm]
    omega
theorem SL_sum {q : Nat → Nat} {y W : Nat} (hG : GeoOk q) (hy : y ≤ 1) (hW : 1 ≤ W) : sumA (SL q y W) = areaN q := by
  have h := SLf_sum hG hy hW (q 0) 0 (by omega)
  simpa [SL, sN] using h
/-- every strip is as wide as the roll at most, and has sides -/
theorem SLf_ok {q : Nat → Nat} {y W : Nat} (hG : GeoOk q) (hy : y ≤ 1) (hW : 5 ≤ W) : ∀ n k, k + n ≤ q 0 → ∀ p ∈ SLf q y W n k, (1 ≤ p.1 ∧ p.1 ≤ W) ∧ 1 ≤ p.2 ∧ p.2 ≤ 60
  | 0, k, h, p, hp => by cases hp
  | n + 1, k, h, p, hp => by
    rw [SLf] at hp
    rcases List.mem_append.mp hp with h1 | h1
    · unfold SLk at h1
      obtain ⟨s, hs, rfl⟩ := List.mem_map.mp h1
      have hs := List.mem_range.mp hs
      have hw := hG.w (k := k) (by omega) hy
      have haW : s * W < wdt q k y := by
        have h1 : mny q k y W * W ≤ wdt q k y + W - 1 := Nat.div_mul_le_self _ _
        have h2 : (s + 1) * W ≤ mny q k y W * W := Nat.mul_le_mul_right W hs
        rw [Nat.succ_mul] at h2
        omega
      exact ⟨by dsimp only; omega, hG.l (by omega) hy⟩
    · exact SLf_ok hG hy hW n (k + 1) (by omega) p h1
theorem SL_ok {q : Nat → Nat} {y W : Nat} (hG : GeoOk q) (hy : y ≤ 1) (hW : 5 ≤ W) {s : Nat} (hs : s < (SL q y W).length) : (1 ≤ sw (SL q y W) s ∧ sw (SL q y W) s ≤ W) ∧ 1 ≤ sl (SL q y W) s ∧ sl (SL q y W) s ≤ 60 := by
  have h1 := SLf_ok hG hy hW (q 0) 0 (by omega) _ (List.getElem_mem (l := SL q y W) hs)
  simp only [sw, sl, List.getElem?_eq_getElem hs, Option.getD_some]
  exact h1
