/-! p27: sums told in two ways; the strips of a room -/
theorem sN_plus (f h : Nat → Nat) : ∀ m, sN f m + sN h m = sN (fun i => f i + h i) m
  | 0 => rfl
  | m + 1 => by
    rw [sN, sN, sN, ← sN_plus f h m]
    omega
theorem sN_swap (f : Nat → Nat → Nat) (m : Nat) : ∀ n, sN (fun r => sN (fun i => f i r) m) n = sN (fun i => sN (fun r => f i r) n) m
  | 0 => by
    show 0 = _
    exact (sN_zero m (fun _ _ => rfl)).symm
  | n + 1 => by
    rw [sN, sN_swap f m n, sN_plus]
    rfl
theorem sN_one {a n x : Nat} {c : Prop} [Decidable c] (h : c → a < n) : sN (fun r => if c ∧ a = r then x else 0) n = if c then x else 0 := by
  by_cases hc : c
  · have ha := h hc
    rw [if_pos hc, sN_upd (f := fun _ => 0) (f' := fun r => if c ∧ a = r then x else 0) (i := a) n ha (fun k hk hne => if_neg (fun z => hne z.2.symm)) rfl, sN_zero n (fun _ _ => rfl), Nat.zero_add]
    exact if_pos ⟨hc, rfl⟩
  · rw [if_neg hc]
    exact sN_zero n (fun k hk => if_neg (fun z => hc z.1))
theorem sum_laid {R : RS} (hI : Inv R) : sN (laidN R) (R 0) = sN (fun i => if rq R i 8 = 1 then areaN (rq R i) else 0) (R 2) := by
  have h : sN (laidN R) (R 0) = sN (fun r => sN (fun i => if rq R i 8 = 1 ∧ rq R i 9 = r then areaN (rq R i) else 0) (R 2)) (R 0) := rfl
  rw [h, sN_swap (fun i r => if rq R i 8 = 1 ∧ rq R i 9 = r then areaN (rq R i) else 0)]
  exact sN_cong _ (fun i hi => sN_one (fun h8 => ((hI.2.2.2.2.1 i hi).2.2 h8).1))
theorem cnt_sN (p : Nat → Bool) : ∀ n, cnt p n = sN (fun k => if p k = true then 1 else 0) n
  | 0 => rfl
  | n + 1 => by rw [cnt, sN, cnt_sN p n]
theorem sum_kept {R : RS} (hI : Inv R) : sN (ckN R) (R 0) = nK R := by
  rw [nK_cnt, cnt_sN]
  have h : sN (ckN R) (R 0) = sN (fun r => sN (fun k => if kp R k = true ∧ oc R k 0 - 1 = r then 1 else 0) (R 1)) (R 0) := sN_cong _ (fun r hr => by
    unfold ckN
    rw [cnt_sN]
    refine sN_cong _ (fun k hk => ?_)
    by_cases hkp : kp R k = true
    · have h0 : 0 < oc R k 0 := by simpa [kp] using hkp
      by_cases hr : oc R k 0 = r + 1
      · rw [if_pos (by simp [hkp, hr]), if_pos ⟨hkp, by omega⟩]
      · rw [if_neg (by simp [hkp, hr]), if_neg (fun z => hr (by have := z.2; omega))]
    · rw [if_neg (by simp [hkp]), if_neg (fun z => hkp z.1)])
  rw [h, sN_swap (fun k r => if kp R k = true ∧ oc R k 0 - 1 = r then 1 else 0)]
  exact sN_cong _ (fun k hk => sN_one (fun hkp => by
    have h1 := (hI.2.2.2.2.2.2 k hk hkp).1
    have h0 : 0 < oc R k 0 := by simpa [kp] using hkp
    omega))
/-- narrow strips: at most one a rectangle -/
def nrw (W : Nat) (p : Nat × Nat) : Bool := decide (p.1 < W)
theorem SLk_nrw {q : Nat → Nat} {y W k : Nat} (hW : 1 ≤ W) (hw : 1 ≤ wdt q k y) : (SLk q y W k).countP (nrw W) ≤ 1 := by
  have hm : mny q k y W * W ≤ wdt q k y + W - 1 := Nat.div_mul_le_self _ _
  unfold SLk
  have key : ∀ n, n < mny q k y W → ((List.range n).map (fun s => (min W (wdt q k y - s * W), lng q k y))).countP (nrw W) = 0 := by
    intro n
    induction n with
    | zero => intro _; rfl
    | succ n ih =>
      intro hn
      rw [List.range_succ, List.map_append, List.countP_append, ih (by omega)]
      have h1 : (n + 2) * W ≤ mny q k y W * W := Nat.mul_le_mul_right W hn
      have h2 : (n + 2) * W = n * W + W + W := by rw [Nat.succ_mul, Nat.succ_mul]
      have h3 : nrw W (min W (wdt q k y - n * W), lng q k y) = false := by
        unfold nrw
        exact decide_eq_false (by dsimp only; omega)
      simp [h3]
  cases hmm : mny q k y W with
  | zero => exact Nat.zero_le _
  | succ m =>
    rw [List.range_succ, List.map_append, List.countP_append, key m (by omega), Nat.zero_add]
    exact List.countP_le_length
theorem SLf_nrw {q : Nat → Nat} {y W : Nat} (hG : GeoOk q) (hy : y ≤ 1) (hW : 1 ≤ W) : ∀ n k, k + n ≤ q 0 → (SLf q y W n k).countP (nrw W) ≤ n
  | 0, k, h => Nat.le_refl _
  | n + 1, k, h => by
    rw [SLf, List.countP_append]
    have h1 := SLf_nrw hG hy hW n (k + 1) (by omega)
    have h2 := SLk_nrw (q := q) (y := y) (W := W) (k := k) hW (hG.w (by omega) hy).1
    omega
theorem cnt_SL (S : List (Nat × Nat)) (W : Nat) : ∀ n, n ≤ S.length → cnt (fun s => decide (sw S s < W)) n = (S.take n).countP (nrw W)
  | 0, _ => rfl
  | n + 1, h => by
    rw [cnt, cnt_SL S W n (by omega), List.take_succ, List.countP_append, List.getElem?_eq_getElem (by omega)]
    congr 1
    have e : sw S n = (S[n]'(by omega)).1 := by simp only [sw, List.getElem?_eq_getElem (show n < S.length by omega), Option.getD_some]
    rw [e]
    by_cases hlt : (S[n]'(by omega)).1 < W
    · simp [nrw, hlt]
    · simp [nrw, hlt]
theorem SL_narrow {q : Nat → Nat} {y W : Nat} (hG : GeoOk q) (hy : y ≤ 1) (hW : 1 ≤ W) : cnt (fun s => decide (sw (SL q y W) s < W)) (stripsN q y W) ≤ q 0 := by
  rw [← SL_len, cnt_SL _ _ _ (Nat.le_refl _), List.take_length]
  exact SLf_nrw hG hy hW (q 0) 0 (by omega)
theorem sum_SL (S : List (Nat × Nat)) : ∀ n, n ≤ S.length → sN (fun s => sw S s * sl S s) n = sumA (S.take n)
  | 0, _ => rfl
  | n + 1, h => by rw [sN, sum_SL S n (by omega), sumA_take h]
theorem SL_area {q : Nat → Nat} {y W : Nat} (hG : GeoOk q) (hy : y ≤ 1) (hW : 1 ≤ W) : sN (fun s => sw (SL q y W) s * sl (SL q y W) s) (stripsN q y W) = areaN q := by
  rw [← SL_len, sum_SL _ _ (Nat.le_refl _), List.take_length]
  exact SL_sum hG hy hW
theorem sN_ge {f : Nat → Nat} : ∀ n, (∀ k, k < n → 1 ≤ f k) → n ≤ sN f n
  | 0, _ => Nat.le_refl _
  | n + 1, h => by
    have h1 := sN_ge n (fun k hk => h k (by omega))
    have h2 := h n (by omega)
    rw [sN]
    omega
theorem strips_ge {q : Nat → Nat} {y W : Nat} (hG : GeoOk q) (hy : y ≤ 1) (hW : 5 ≤ W) : q 0 ≤ stripsN q y W := sN_ge _ (fun k hk => (mny_le hG hk hy hW).1)
-- what is told, of numbers in their ranges
theorem vRollOf_at {R : RS} {r w : Nat} (h12 : R 0 ≤ 12) (hr : r < R 0) (hw : w ≤ 9) : vRollOf R (nI r) (nI w) = nI (rollN R r w) := by
  unfold vRollOf
  rw [if_pos (hasI_nI (by omega) hr), if_pos ⟨nI_pos' (by omega), nI_le hw (by omega)⟩, tN_nI (by omega), tN_nI (by omega)]
theorem vRoom_at {R : RS} {i w : Nat} (h20 : R 2 ≤ 20) (hi : i < R 2) (hw : w ≤ 8) : vRoom R (nI i) (nI w) = roomV R i w := by
  unfold vRoom
  rw [if_pos (hasI_nI (by omega) hi), if_pos ⟨nI_pos' (by omega), nI_le hw (by omega)⟩, tN_nI (by omega), tN_nI (by omega)]
theorem vStrip_at {R : RS} {i s w : Nat} (h20 : R 2 ≤ 20) (hi : i < R 2) (hs : s < 1000) (hw : w ≤ 2) : vStrip R (nI i) (nI s) (nI w) = if rq R i 8 = 1 ∧ nI s < nI (covN R i 6) then nI (stripN R i s w) else -5 := by
  unfold vStrip
  rw [if_pos (hasI_nI (by omega) hi), if_pos ⟨nI_pos (by omega), nI_pos' (by omega), nI_le hw (by omega)⟩, tN_nI (by omega), tN_nI (by omega), tN_nI (by omega)]
theorem vCount_at {G : GS} {w : Nat} (hw : w ≤ 15) : vCount G (nI w) = nI (countN G w) := by
  unfold vCount
  rw [if_pos ⟨nI_pos' (by omega), nI_le hw (by omega)⟩, tN_nI (by omega)]
theorem vOffcut_at {R : RS} {k w : Nat} (h300 : R 1 ≤ 300) (hk : k < R 1) (hkp : kp R k = true) (hw : w ≤ 2) : vOffcut R (nI k) (nI w) = nI (offN R k w) := by
  unfold vOffcut
  rw [if_pos ⟨hasI_nI (by omega) hk, by rw [tN_nI (by omega)]; exact hkp⟩, if_pos ⟨nI_pos' (by omega), nI_le hw (by omega)⟩, tN_nI (by omega), tN_nI (by omega)]
