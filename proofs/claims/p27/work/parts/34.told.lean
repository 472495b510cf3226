/-! what is told of a roll, an offcut, a room, a strip; counts -/
def akN (R : RS) (r : Nat) : Nat := sN (fun k => if kp R k && decide (oc R k 0 = r + 1) then oc R k 1 * oc R k 2 else 0) (R 1)
def ckN (R : RS) (r : Nat) : Nat := cnt (fun k => kp R k && decide (oc R k 0 = r + 1)) (R 1)
def rollN (R : RS) (r w : Nat) : Nat := if w < 4 then ro R r w else if w = 4 then ckN R r else if w = 5 then akN R r else if w = 6 then laidN R r else if w = 7 then ro R r 5 else if w = 8 then ro R r 6 else ro R r 1 * ro R r 4
def vRollOf (R : RS) (r w : Int32) : Int32 := if hasI r (R 0) then (if inI w 0 9 then nI (rollN R (tN r) (tN w)) else -2) else -1
def offN (R : RS) (k w : Nat) : Nat := if w = 0 then oc R k 0 - 1 else oc R k w
def vOffcut (R : RS) (x w : Int32) : Int32 := if keptI R x then (if inI w 0 2 then nI (offN R (tN x) (tN w)) else -2) else -1
def oA (R : RS) (k : Nat) : Nat := oc R k 1 * oc R k 2
def rkN (R : RS) (k : Nat) : Nat := cnt (fun x => kp R x && (decide (oA R x < oA R k) || (decide (oA R x = oA R k) && decide (x < k)))) (R 1)
def vSorted (R : RS) (x : Int32) : Int32 := if x < 0 then -2 else oI (ff (fun k => kp R k && decide (nI (rkN R k) = x)) (R 1) 0)
def covN (R : RS) (i w : Nat) : Nat := if w = 4 then rq R i 9 else if w = 5 then rq R i 10 else if w = 6 then stripsN (rq R i) (rq R i 10) (ro R (rq R i 9) 1) else if w = 7 then seamN (rq R i) (rq R i 10) (ro R (rq R i 9) 1) else rq R i 11
def roomV (R : RS) (i w : Nat) : Int32 := if w = 0 then nI (rq R i 0) else if w = 1 then nI (areaN (rq R i)) else if w = 2 then nI (rq R i 7) else if w = 3 then nI (rq R i 8) else if rq R i 8 = 1 then nI (covN R i w) else -5
def vRoom (R : RS) (i w : Int32) : Int32 := if hasI i (R 2) then (if inI w 0 8 then roomV R (tN i) (tN w) else -2) else -1
def stripN (R : RS) (i s w : Nat) : Nat := if w = 0 then sw (SL (rq R i) (rq R i 10) (ro R (rq R i 9) 1)) s else if w = 1 then sl (SL (rq R i) (rq R i 10) (ro R (rq R i 9) 1)) s else sc R i s
def vStrip (R : RS) (i s w : Int32) : Int32 := if hasI i (R 2) then (if ¬ s < 0 ∧ inI w 0 2 then (if rq R (tN i) 8 = 1 ∧ s < nI (covN R (tN i) 6) then nI (stripN R (tN i) (tN s) (tN w)) else -5) else -2) else -1
def countN (G : GS) (w : Nat) : Nat := if w = 0 then G.1 0 else if w = 1 then G.1 2 else if w = 2 then cnt (fun i => decide (rq G.1 i 8 = 1)) (G.1 2) else if w = 3 then nK G.1 else if w = 4 then G.1 1 else if w = 5 then sN (fun r => ro G.1 r 5) (G.1 0) else if w = 6 then sN (laidN G.1) (G.1 0) else if w = 7 then sN (fun i => if rq G.1 i 8 = 1 then areaN (rq G.1 i) else 0) (G.1 2) else if w = 8 then G.1 3 else if w = 9 then G.2.1.length else if w = 10 then G.2.2.2.length else G.1 (4 + (w - 11))
def vCount (G : GS) (w : Int32) : Int32 := if inI w 0 15 then nI (countN G (tN w)) else -2
-- from the list of the kept ones to their numbers
theorem ELn_cnt (R : RS) (f : OE → Bool) : ∀ n, (ELn R n).countP f = cnt (fun k => kp R k && f (oe R k)) n
  | 0 => rfl
  | n + 1 => by
    rw [ELn, List.countP_append, ELn_cnt R f n, cnt]
    congr 1
    by_cases hk : kp R n = true
    · rw [if_pos hk]
      by_cases h : f (oe R n) = true
      · rw [if_pos (by simp [hk, h])]
        simp [h]
      · rw [if_neg (by simp [h])]
        simp [h]
    · rw [if_neg hk, if_neg (by simp [hk])]
      rfl
theorem cnt_EL {R : RS} {f : OE → Bool} {p : Nat → Bool} (h : ∀ i (hi : i < (EL R).length), p i = f (EL R)[i]) : cnt p (EL R).length = cnt (fun k => kp R k && f (oe R k)) (R 1) := by
  rw [cnt_list h _ (Nat.le_refl _), List.take_length]
  exact ELn_cnt R f _
theorem ELn_sum (R : RS) (F : Nat → Nat) (f : OE → Nat) : ∀ n, (∀ i (hi : i < (ELn R n).length), F i = f (ELn R n)[i]) → sN F (ELn R n).length = sN (fun k => if kp R k then f (oe R k) else 0) n
  | 0, _ => rfl
  | n + 1, h => by
    rw [sN, ← ELn_sum R F f n (fun i hi => by
      rw [h i (by rw [ELn, List.length_append]; omega)]
      congr 1
      simp only [ELn]
      exact List.getElem_append_left hi)]
    by_cases hk : kp R n = true
    · have hl : (ELn R (n + 1)).length = (ELn R n).length + 1 := by rw [ELn, if_pos hk, List.length_append, List.length_singleton]
      rw [if_pos hk, hl, sN]
      congr 1
      rw [h _ (by omega)]
      congr 1
      simp only [ELn, if_pos hk]
      rw [List.getElem_append_right (Nat.le_refl _)]
      simp
    · have hl : ELn R (n + 1) = ELn R n := by rw [ELn, if_neg hk, List.append_nil]
      rw [if_neg hk, hl, Nat.add_zero]
theorem eR_at {E : List OE} {i : Nat} (hi : i < E.length) : eR E i = E[i].2.1 := by
  simp only [eR, List.getElem?_eq_getElem hi, Option.getD_some]
theorem oe_r {R : RS} {k r : Nat} (h : kp R k = true) : ((oe R k).2.1 = r) ↔ oc R k 0 = r + 1 := by
  have h1 : 0 < oc R k 0 := of_decide_eq_true h
  show oc R k 0 - 1 = r ↔ _
  omega
theorem keptOf_EL {R : RS} {r : Nat} (hr : r < 12) (hE : ∀ i, i < (EL R).length → eR (EL R) i < 12) : cnt (fun i => decide (nI (eR (EL R) i) = nI r)) (EL R).length = ckN R r := by
  rw [cnt_EL (f := fun e => decide (e.2.1 = r)) (fun i hi => by
    have := hE i hi
    rw [← eR_at hi]
    exact decide_eq_decide.mpr (nI_eq (by omega) (by omega)))]
  refine cnt_cong _ (fun k hk => ?_)
  by_cases hkp : kp R k = true
  · rw [hkp, Bool.true_and, Bool.true_and]
    exact decide_eq_decide.mpr (oe_r hkp)
  · rw [show kp R k = false by simpa using hkp, Bool.false_and, Bool.false_and]
theorem areaOf_EL {R : RS} {r : Nat} (hr : r < 12) (hE : ∀ i, i < (EL R).length → eR (EL R) i < 12) : sN (fun i => if nI (eR (EL R) i) = nI r then eA (EL R) i else 0) (EL R).length = akN R r := by
  unfold EL at hE ⊢
  rw [ELn_sum R _ (fun e => if e.2.1 = r then e.2.2.1 * e.2.2.2 else 0) _ (fun i hi => by
    have h1 := hE i hi
    rw [← eR_at hi, ← eA_at hi]
    by_cases h : eR (ELn R (R 1)) i = r
    · rw [if_pos h, if_pos (by rw [h])]
    · rw [if_neg h, if_neg (fun z => h (nI_eq' (by omega) (by omega) z))])]
  refine sN_cong _ (fun k hk => ?_)
  by_cases hkp : kp R k = true
  · rw [hkp, Bool.true_and, if_pos rfl]
    by_cases h : oc R k 0 = r + 1
    · rw [if_pos ((oe_r hkp).mpr h), if_pos (decide_eq_true h)]
      rfl
    · rw [if_neg (fun z => h ((oe_r hkp).mp z)), if_neg (by simpa using h)]
  · rw [show kp R k = false by simpa using hkp, Bool.false_and, if_neg (by simp), if_neg (by simp)]
theorem ff_succ (p : Nat → Bool) : ∀ n i, ff p (n + 1) i = match ff p n i with
    | some j => some j
    | none => if p (i + n) then some (i + n) else none
  | 0, i => by
    rw [ff, ff, Nat.add_zero]
    rfl
  | n + 1, i => by
    rw [ff]
    by_cases hp : p i = true
    · rw [if_pos hp, ff, if_pos hp]
    · rw [if_neg hp, ff_succ p n (i + 1), show ff p (n + 1) i = ff p n (i + 1) by rw [ff, if_neg hp], show i + 1 + n = i + (n + 1) by omega]
theorem ff_EL {R : RS} {P Q : Nat → Bool} : ∀ n, (∀ k, k < n → kp R k = true → P (cnt (kp R) k) = Q k) → ff P (cnt (kp R) n) 0 = (ff (fun k => kp R k && Q k) n 0).map (cnt (kp R))
  | 0, _ => rfl
  | n + 1, h => by
    have ih := ff_EL n (fun k hk => h k (by omega))
    rw [ff_succ (fun k => kp R k && Q k) n 0, Nat.zero_add]
    by_cases hk : kp R n = true
    · rw [cnt_t hk, ff_succ P _ 0, ih, Nat.zero_add, h n (by omega) hk]
      cases ff (fun k => kp R k && Q k) n 0 with
      | some j => rfl
      | none =>
        rw [hk, Bool.true_and]
        show (if Q n then some (cnt (kp R) n) else none) = Option.map _ (if Q n then some n else none)
        by_cases hQ : Q n = true
        · rw [if_pos hQ, if_pos hQ]; rfl
        · rw [if_neg hQ, if_neg hQ]; rfl
    · rw [cnt_f (by simpa using hk), ih]
      cases ff (fun k => kp R k && Q k) n 0 with
      | some j => rfl
      | none =>
        rw [show kp R n = false by simpa using hk, Bool.false_and]
        rfl
theorem rnk_EL {R : RS} {k : Nat} (hk : k < R 1) (h : kp R k = true) : rnk (EL R) (cnt (kp R) k) = rkN R k := by
  have hA : eA (EL R) (cnt (kp R) k) = oA R k := by
    obtain ⟨-, -, h3, h4⟩ := EL_e R hk h
    unfold eA oA
    rw [h3, h4]
  have hpl : ∀ {x}, x < R 1 → kp R x = true → cnt (kp R) x < (EL R).length := fun {x} h1 h2 => by
    have := nK_cnt R
    unfold nK at this
    rw [this]
    exact cnt_lt _ h1 h2
  unfold rnk rkN
  have hn : (EL R).length = cnt (kp R) (R 1) := nK_cnt R
  rw [hn]
  have key : ∀ n, n ≤ R 1 → cnt (rkp (EL R) (cnt (kp R) k)) (cnt (kp R) n) = cnt (fun x => kp R x && (decide (oA R x < oA R k) || (decide (oA R x = oA R k) && decide (x < k)))) n := by
    intro n
    induction n with
    | zero => intro _; rfl
    | succ n ih =>
      intro hn2
      have ih := ih (by omega)
      by_cases hkn : kp R n = true
      · rw [cnt_t hkn, cnt, ih, cnt]
        congr 1
        have hAn : eA (EL R) (cnt (kp R) n) = oA R n := by
          obtain ⟨-, -, h3, h4⟩ := EL_e R (by omega) hkn
          unfold eA oA
          rw [h3, h4]
        have hlt : cnt (kp R) n < cnt (kp R) k ↔ n < k := by
          constructor
          · intro z
            by_cases hnk : n < k
            · exact hnk
            · have := cnt_mono (kp R) (show k ≤ n by omega); omega
          · intro z
            exact cnt_lt _ z hkn
        simp only [rkp, hA, hAn, hkn, Bool.true_and, hlt]
      · rw [cnt_f (by simpa using hkn), ih, cnt_f (by simp [hkn])]
  exact key _ (Nat.le_refl _)
theorem sorted_EL (R : RS) (x : Int32) : ff (fun i => decide (nI (rnk (EL R) i) = x)) (EL R).length 0 = (ff (fun k => kp R k && decide (nI (rkN R k) = x)) (R 1) 0).map (cnt (kp R)) := by
  rw [show (EL R).length = cnt (kp R) (R 1) from nK_cnt R]
  exact ff_EL _ (fun k hk h => by rw [rnk_EL hk h])
section
variable {l : Launch} {g : XG} {sh : Nat → Sh} {mem : Mem} {κ : Nat} {G : GS}
theorem ct_Cc_rollOf (hL : LayCc sh κ) (hC : CR mem κ G) {r w : Int32} : Ct l g M_Cc_rollOf [rf g κ, .int r, .int w] none sh mem (Ri none sh (CP κ mem (vRollOf G.1 r w, G))) := by
  obtain ⟨hI, hb, hh, ht, hs⟩ := id hC
  have h12 := hI.1.1
  refine x_begin rfl rfl rfl (by decide) rfl ?_
  refine x_aload_n d_Cc_rollOf_0 rfl ?_
  refine x_getR hL.f0 rfl fs_Cc_10 d_Cc_rollOf_1 ?_
  refine x_getR hL.s1.f0 rfl fs_Cc_50 d_Cc_rollOf_4 ?_
  refine x_iload_n d_Cc_rollOf_7 rfl ?_
  refine x_v1p d_Cc_rollOf_8 ml_Cc_89 v_Ro_has rfl ⟨rfl, rfl⟩ hL.s1.s3.io (Nat.le_of_ble_eq_true rfl) (ct_Ro_has hL.s1.s3 hb.2.2.1.1 h12) ?_
  refine x_if_ne (tgt := 16) d_Cc_rollOf_11 (by decide) (fun c11 => ?_) (fun c11 => ?_)
  · have hr0 := bI_n.mp c11
    rw [show vRollOf G.1 r w = if inI w 0 9 then nI (rollN G.1 (tN r) (tN w)) else -2 from if_pos hr0]
    obtain ⟨r, hr, rfl⟩ := hasI_of (by omega) hr0
    rw [tN_nI (by omega)]
    obtain ⟨z0, z1, z2, z3, z4, z5, z6, z7⟩ := hb.2.2.1.2 r (by omega)
    refine x_iload_n d_Cc_rollOf_16 rfl ?_
    rcases sw_cases w (n := 9) (by omega) with ⟨i, hi, rfl⟩ | ⟨ho, hn⟩
    · rcases (show i = 0 ∨ i = 1 ∨ i = 2 ∨ i = 3 ∨ i = 4 ∨ i = 5 ∨ i = 6 ∨ i = 7 ∨ i = 8 ∨ i = 9 by omega) with rfl | rfl | rfl | rfl | rfl | rfl | rfl | rfl | rfl | rfl
      · refine x_tableIn (off := 55) (tgt := 72) d_Cc_rollOf_17 (by decide) (by decide) (by decide) (by decide) ?_
        rw [if_pos (show inI (nI 0) 0 9 by decide), tN_nI (by omega)]
        refine x_aload_n d_Cc_rollOf_72 rfl ?_
        refine x_getR hL.f0 rfl fs_Cc_10 d_Cc_rollOf_73 ?_
        refine x_getR hL.s1.f0 rfl fs_Cc_50 d_Cc_rollOf_76 ?_
        refine x_getR hL.s1.s3.f0 rfl fs_Cc_157 d_Cc_rollOf_79 ?_
        refine x_iload_n d_Cc_rollOf_82 rfl ?_
        refine x_v1p d_Cc_rollOf_83 ml_Cc_134 v_Rw_at rfl ⟨rfl, rfl⟩ (row_io hL.s1.s3.f1) (Nat.le_of_ble_eq_true rfl) (ct_Rw_at hL.s1.s3.f1 hL.s1.s3.f2 (by omega)) ?_
        rw [z0]
        refine x_iret rfl rfl d_Cc_rollOf_86 (Nat.zero_le _) (Nat.zero_le _) ?_
        exact ⟨_, rfl, rfl, rfl, rfl, hC, Fr.rf⟩
      · refine x_tableIn (off := 70) (tgt := 87) d_Cc_rollOf_17 (by decide) (by decide) (by decide) (by decide) ?_
        rw [if_pos (show inI (nI 1) 0 9 by decide), tN_nI (by omega)]
        refine x_aload_n d_Cc_rollOf_87 rfl ?_
        refine x_getR hL.f0 rfl fs_Cc_10 d_Cc_rollOf_88 ?_
        refine x_getR hL.s1.f0 rfl fs_Cc_50 d_Cc_rollOf_91 ?_
        refine x_getR hL.s1.s3.f0 rfl fs_Cc_160 d_Cc_rollOf_94 ?_
        refine x_iload_n d_Cc_rollOf_97 rfl ?_
        refine x_v1p d_Cc_rollOf_98 ml_Cc_134 v_Rw_at rfl ⟨rfl, rfl⟩ (row_io hL.s1.s3.f3) (Nat.le_of_ble_eq_true rfl) (ct_Rw_at hL.s1.s3.f3 hL.s1.s3.f4 (by omega)) ?_
        rw [z1]
        refine x_iret rfl rfl d_Cc_rollOf_101 (Nat.zero_le _) (Nat.zero_le _) ?_
        exact ⟨_, rfl, rfl, rfl, rfl, hC, Fr.rf⟩
      · refine x_tableIn (off := 85) (tgt := 102) d_Cc_rollOf_17 (by decide) (by decide) (by decide) (by decide) ?_
        rw [if_pos (show inI (nI 2) 0 9 by decide), tN_nI (by omega)]
        refine x_aload_n d_Cc_rollOf_102 rfl ?_
        refine x_getR hL.f0 rfl fs_Cc_10 d_Cc_rollOf_103 ?_
        refine x_getR hL.s1.f0 rfl fs_Cc_50 d_Cc_rollOf_106 ?_
        refine x_getR hL.s1.s3.f0 rfl fs_Cc_163 d_Cc_rollOf_109 ?_
        refine x_iload_n d_Cc_rollOf_112 rfl ?_
        refine x_v1p d_Cc_rollOf_113 ml_Cc_134 v_Rw_at rfl ⟨rfl, rfl⟩ (row_io hL.s1.s3.f5) (Nat.le_of_ble_eq_true rfl) (ct_Rw_at hL.s1.s3.f5 hL.s1.s3.f6 (by omega)) ?_
        rw [z2]
        refine x_iret rfl rfl d_Cc_rollOf_116 (Nat.zero_le _) (Nat.zero_le _) ?_
        exact ⟨_, rfl, rfl, rfl, rfl, hC, Fr.rf⟩
      · refine x_tableIn (off := 100) (tgt := 117) d_Cc_rollOf_17 (by decide) (by decide) (by decide) (by decide) ?_
        rw [if_pos (show inI (nI 3) 0 9 by decide), tN_nI (by omega)]
        refine x_aload_n d_Cc_rollOf_117 rfl ?_
        refine x_getR hL.f0 rfl fs_Cc_10 d_Cc_rollOf_118 ?_
        refine x_getR hL.s1.f0 rfl fs_Cc_50 d_Cc_rollOf_121 ?_
        refine x_getR hL.s1.s3.f0 rfl fs_Cc_166 d_Cc_rollOf_124 ?_
        refine x_iload_n d_Cc_rollOf_127 rfl ?_
        refine x_v1p d_Cc_rollOf_128 ml_Cc_134 v_Rw_at rfl ⟨rfl, rfl⟩ (row_io hL.s1.s3.f7) (Nat.le_of_ble_eq_true rfl) (ct_Rw_at hL.s1.s3.f7 hL.s1.s3.f8 (by omega)) ?_
        rw [z3]
        refine x_iret rfl rfl d_Cc_rollOf_131 (Nat.zero_le _) (Nat.zero_le _) ?_
        exact ⟨_, rfl, rfl, rfl, rfl, hC, Fr.rf⟩
      · refine x_tableIn (off := 115) (tgt := 132) d_Cc_rollOf_17 (by decide) (by decide) (by decide) (by decide) ?_
        rw [if_pos (show inI (nI 4) 0 9 by decide), tN_nI (by omega)]
        refine x_aload_n d_Cc_rollOf_132 rfl ?_
        refine x_getR hL.f0 rfl fs_Cc_10 d_Cc_rollOf_133 ?_
        refine x_getR hL.s1.f0 rfl fs_Cc_107 d_Cc_rollOf_136 ?_
        refine x_iload_n d_Cc_rollOf_139 rfl ?_
        refine x_v1p d_Cc_rollOf_140 ml_Cc_169 v_Of_keptOf rfl ⟨rfl, rfl⟩ hL.s1.s20.io (Nat.le_of_ble_eq_true rfl) (ct_Of_keptOf hL.s1.s20 hb.2.2.2.1) ?_
        rw [keptOf_EL (by omega) (fun i hi => (hb.2.2.2.1.2.2.2.2 i hi).1.2.1)]
        refine x_iret rfl rfl d_Cc_rollOf_143 (Nat.zero_le _) (Nat.zero_le _) ?_
        exact ⟨_, rfl, rfl, rfl, rfl, hC, Fr.rf⟩
      · refine x_tableIn (off := 127) (tgt := 144) d_Cc_rollOf_17 (by decide) (by decide) (by decide) (by decide) ?_
        rw [if_pos (show inI (nI 5) 0 9 by decide), tN_nI (by omega)]
        refine x_aload_n d_Cc_rollOf_144 rfl ?_
        refine x_getR hL.f0 rfl fs_Cc_10 d_Cc_rollOf_145 ?_
        refine x_getR hL.s1.f0 rfl fs_Cc_107 d_Cc_rollOf_148 ?_
        refine x_iload_n d_Cc_rollOf_151 rfl ?_
        refine x_v1p d_Cc_rollOf_152 ml_Cc_172 v_Of_areaOf rfl ⟨rfl, rfl⟩ hL.s1.s20.io (Nat.le_of_ble_eq_true rfl) (ct_Of_areaOf hL.s1.s20 hb.2.2.2.1) ?_
        rw [areaOf_EL (by omega) (fun i hi => (hb.2.2.2.1.2.2.2.2 i hi).1.2.1)]
        refine x_iret rfl rfl d_Cc_rollOf_155 (Nat.zero_le _) (Nat.zero_le _) ?_
        exact ⟨_, rfl, rfl, rfl, rfl, hC, Fr.rf⟩
      · refine x_tableIn (off := 139) (tgt := 156) d_Cc_rollOf_17 (by decide) (by decide) (by decide) (by decide) ?_
        rw [if_pos (show inI (nI 6) 0 9 by decide), tN_nI (by omega)]
        refine x_aload_n d_Cc_rollOf_156 rfl ?_
        refine x_getR hL.f0 rfl fs_Cc_10 d_Cc_rollOf_157 ?_
        refine x_getR hL.s1.f0 rfl fs_Cc_50 d_Cc_rollOf_160 ?_
        refine x_getR hL.s1.s3.f0 rfl fs_Cc_175 d_Cc_rollOf_163 ?_
        refine x_iload_n d_Cc_rollOf_166 rfl ?_
        refine x_v1p d_Cc_rollOf_167 ml_Cc_134 v_Rw_at rfl ⟨rfl, rfl⟩ (row_io hL.s1.s3.f11) (Nat.le_of_ble_eq_true rfl) (ct_Rw_at hL.s1.s3.f11 hL.s1.s3.f12 (by omega)) ?_
        rw [z5]
        refine x_iret rfl rfl d_Cc_rollOf_170 (Nat.zero_le _) (Nat.zero_le _) ?_
        exact ⟨_, rfl, rfl, rfl, rfl, hC, Fr.rf⟩
      · refine x_tableIn (off := 154) (tgt := 171) d_Cc_rollOf_17 (by decide) (by decide) (by decide) (by decide) ?_
        rw [if_pos (show inI (nI 7) 0 9 by decide), tN_nI (by omega)]
        refine x_aload_n d_Cc_rollOf_171 rfl ?_
        refine x_getR hL.f0 rfl fs_Cc_10 d_Cc_rollOf_172 ?_
        refine x_getR hL.s1.f0 rfl fs_Cc_50 d_Cc_rollOf_175 ?_
        refine x_getR hL.s1.s3.f0 rfl fs_Cc_178 d_Cc_rollOf_178 ?_
        refine x_iload_n d_Cc_rollOf_181 rfl ?_
        refine x_v1p d_Cc_rollOf_182 ml_Cc_134 v_Rw_at rfl ⟨rfl, rfl⟩ (row_io hL.s1.s3.f13) (Nat.le_of_ble_eq_true rfl) (ct_Rw_at hL.s1.s3.f13 hL.s1.s3.f14 (by omega)) ?_
        rw [z6]
        refine x_iret rfl rfl d_Cc_rollOf_185 (Nat.zero_le _) (Nat.zero_le _) ?_
        exact ⟨_, rfl, rfl, rfl, rfl, hC, Fr.rf⟩
      · refine x_tableIn (off := 169) (tgt := 186) d_Cc_rollOf_17 (by decide) (by decide) (by decide) (by decide) ?_
        rw [if_pos (show inI (nI 8) 0 9 by decide), tN_nI (by omega)]
        refine x_aload_n d_Cc_rollOf_186 rfl ?_
        refine x_getR hL.f0 rfl fs_Cc_10 d_Cc_rollOf_187 ?_
        refine x_getR hL.s1.f0 rfl fs_Cc_50 d_Cc_rollOf_190 ?_
        refine x_getR hL.s1.s3.f0 rfl fs_Cc_181 d_Cc_rollOf_193 ?_
        refine x_iload_n d_Cc_rollOf_196 rfl ?_
        refine x_v1p d_Cc_rollOf_197 ml_Cc_134 v_Rw_at rfl ⟨rfl, rfl⟩ (row_io hL.s1.s3.f15) (Nat.le_of_ble_eq_true rfl) (ct_Rw_at hL.s1.s3.f15 hL.s1.s3.f16 (by omega)) ?_
        rw [z7]
        refine x_iret rfl rfl d_Cc_rollOf_200 (Nat.zero_le _) (Nat.zero_le _) ?_
        exact ⟨_, rfl, rfl, rfl, rfl, hC, Fr.rf⟩
      · refine x_tableIn (off := 184) (tgt := 201) d_Cc_rollOf_17 (by decide) (by decide) (by decide) (by decide) ?_
        rw [if_pos (show inI (nI 9) 0 9 by decide), tN_nI (by omega)]
        refine x_aload_n d_Cc_rollOf_201 rfl ?_
        refine x_getR hL.f0 rfl fs_Cc_10 d_Cc_rollOf_202 ?_
        refine x_getR hL.s1.f0 rfl fs_Cc_50 d_Cc_rollOf_205 ?_
        refine x_getR hL.s1.s3.f0 rfl fs_Cc_184 d_Cc_rollOf_208 ?_
        refine x_iload_n d_Cc_rollOf_211 rfl ?_
        refine x_v1p d_Cc_rollOf_212 ml_Cc_134 v_Rw_at rfl ⟨rfl, rfl⟩ (row_io hL.s1.s3.f9) (Nat.le_of_ble_eq_true rfl) (ct_Rw_at hL.s1.s3.f9 hL.s1.s3.f10 (by omega)) ?_
        rw [z4]
        refine x_iret rfl rfl d_Cc_rollOf_215 (Nat.zero_le _) (Nat.zero_le _) ?_
        exact ⟨_, rfl, rfl, rfl, rfl, hC, Fr.rf⟩
    · rw [if_neg hn]
      refine x_tableOut (tgt := 216) d_Cc_rollOf_17 ho (by decide) ?_
      refine x_bipush (v := -2) d_Cc_rollOf_216 (by decide) ?_
      refine x_iret rfl rfl d_Cc_rollOf_218 (Nat.zero_le _) (Nat.zero_le _) ?_
      exact ⟨_, rfl, rfl, rfl, rfl, hC, Fr.rf⟩
  · rw [show vRollOf G.1 r w = -1 from if_neg (bI_0.mp c11)]
    refine x_iconst (v := -1) d_Cc_rollOf_14 (by decide) ?_
    refine x_iret rfl rfl d_Cc_rollOf_15 (Nat.zero_le _) (Nat.zero_le _) ?_
    exact ⟨_, rfl, rfl, rfl, rfl, hC, Fr.rf⟩
theorem ct_Cc_offcut (hL : LayCc sh κ) (hC : CR mem κ G) {x w : Int32} : Ct l g M_Cc_offcut [rf g κ, .int x, .int w] none sh mem (Ri none sh (CP κ mem (vOffcut G.1 x w, G))) := by
  obtain ⟨hI, hb, hh, ht, hs⟩ := id hC
  have h300 := hI.1.2.1
  refine x_begin rfl rfl rfl (by decide) rfl ?_
  refine x_aload_n d_Cc_offcut_0 rfl ?_
  refine x_getR hL.f0 rfl fs_Cc_10 d_Cc_offcut_1 ?_
  refine x_getR hL.s1.f0 rfl fs_Cc_107 d_Cc_offcut_4 ?_
  refine x_iload_n d_Cc_offcut_7 rfl ?_
  refine x_v1p d_Cc_offcut_8 ml_Cc_111 v_Of_placeOf rfl ⟨rfl, rfl⟩ hL.s1.s20.io (Nat.le_of_ble_eq_true rfl) (ct_Of_placeOf hL.s1.s20 hb.2.2.2.1) ?_
  rw [placeOf_EL h300]
  by_cases hk : keptI G.1 x
  · rw [if_pos hk, show vOffcut G.1 x w = if inI w 0 2 then nI (offN G.1 (tN x) (tN w)) else -2 from if_pos hk]
    obtain ⟨hk0, hk2⟩ := hk
    obtain ⟨k, hk1, rfl⟩ := hasI_of (by omega) hk0
    rw [tN_nI (by omega)] at hk2 ⊢
    have hcl := cnt_le (kp G.1) k
    have hpl : cnt (kp G.1) k < (EL G.1).length := by
      have h1 := cnt_lt (kp G.1) hk1 hk2
      rw [← nK_cnt] at h1
      exact h1
    obtain ⟨e1, e2, e3, e4⟩ := EL_e G.1 hk1 hk2
    obtain ⟨-, d1, d2, d3, d4⟩ := hb.2.2.2.1.2.2.2.2 _ hpl
    rw [e2] at d2
    rw [e3] at d3
    rw [e4] at d4
    have h60 := hb.2.2.2.1.1
    refine x_istore_n d_Cc_offcut_11 (by decide) ?_
    refine x_iload_n d_Cc_offcut_12 rfl ?_
    refine x_if_ge (tgt := 18) d_Cc_offcut_13 (by decide) (fun c13 => ?_) (fun c13 => ?_)
    · refine x_iload_n d_Cc_offcut_18 rfl ?_
      rcases sw_cases w (n := 2) (by omega) with ⟨i, hi, rfl⟩ | ⟨ho, hn⟩
      · rcases (show i = 0 ∨ i = 1 ∨ i = 2 by omega) with rfl | rfl | rfl
        · refine x_tableIn (off := 25) (tgt := 44) d_Cc_offcut_19 (by decide) (by decide) (by decide) (by decide) ?_
          rw [if_pos (show inI (nI 0) 0 2 by decide), tN_nI (n := 0) (by omega)]
          refine x_aload_n d_Cc_offcut_44 rfl ?_
          refine x_getR hL.f0 rfl fs_Cc_10 d_Cc_offcut_45 ?_
          refine x_getR hL.s1.f0 rfl fs_Cc_107 d_Cc_offcut_48 ?_
          refine x_getR hL.s1.s20.f0 rfl fs_Cc_187 d_Cc_offcut_51 ?_
          refine x_iload_n d_Cc_offcut_54 rfl ?_
          refine x_v1p d_Cc_offcut_55 ml_Cc_134 v_Rw_at rfl ⟨rfl, rfl⟩ (row_io hL.s1.s20.f3) (Nat.le_of_ble_eq_true rfl) (ct_Rw_at hL.s1.s20.f3 hL.s1.s20.f4 (by omega)) ?_
          rw [d2]
          refine x_iret rfl rfl d_Cc_offcut_58 (Nat.zero_le _) (Nat.zero_le _) ?_
          exact ⟨_, rfl, rfl, rfl, rfl, hC, Fr.rf⟩
        · refine x_tableIn (off := 40) (tgt := 59) d_Cc_offcut_19 (by decide) (by decide) (by decide) (by decide) ?_
          rw [if_pos (show inI (nI 1) 0 2 by decide), tN_nI (n := 1) (by omega)]
          refine x_aload_n d_Cc_offcut_59 rfl ?_
          refine x_getR hL.f0 rfl fs_Cc_10 d_Cc_offcut_60 ?_
          refine x_getR hL.s1.f0 rfl fs_Cc_107 d_Cc_offcut_63 ?_
          refine x_getR hL.s1.s20.f0 rfl fs_Cc_190 d_Cc_offcut_66 ?_
          refine x_iload_n d_Cc_offcut_69 rfl ?_
          refine x_v1p d_Cc_offcut_70 ml_Cc_134 v_Rw_at rfl ⟨rfl, rfl⟩ (row_io hL.s1.s20.f5) (Nat.le_of_ble_eq_true rfl) (ct_Rw_at hL.s1.s20.f5 hL.s1.s20.f6 (by omega)) ?_
          rw [d3]
          refine x_iret rfl rfl d_Cc_offcut_73 (Nat.zero_le _) (Nat.zero_le _) ?_
          exact ⟨_, rfl, rfl, rfl, rfl, hC, Fr.rf⟩
        · refine x_tableIn (off := 55) (tgt := 74) d_Cc_offcut_19 (by decide) (by decide) (by decide) (by decide) ?_
          rw [if_pos (show inI (nI 2) 0 2 by decide), tN_nI (n := 2) (by omega)]
          refine x_aload_n d_Cc_offcut_74 rfl ?_
          refine x_getR hL.f0 rfl fs_Cc_10 d_Cc_offcut_75 ?_
          refine x_getR hL.s1.f0 rfl fs_Cc_107 d_Cc_offcut_78 ?_
          refine x_getR hL.s1.s20.f0 rfl fs_Cc_191 d_Cc_offcut_81 ?_
          refine x_iload_n d_Cc_offcut_84 rfl ?_
          refine x_v1p d_Cc_offcut_85 ml_Cc_134 v_Rw_at rfl ⟨rfl, rfl⟩ (row_io hL.s1.s20.f7) (Nat.le_of_ble_eq_true rfl) (ct_Rw_at hL.s1.s20.f7 hL.s1.s20.f8 (by omega)) ?_
          rw [d4]
          refine x_iret rfl rfl d_Cc_offcut_88 (Nat.zero_le _) (Nat.zero_le _) ?_
          exact ⟨_, rfl, rfl, rfl, rfl, hC, Fr.rf⟩
      · rw [if_neg hn]
        refine x_tableOut (tgt := 89) d_Cc_offcut_19 ho (by decide) ?_
        refine x_bipush (v := -2) d_Cc_offcut_89 (by decide) ?_
        refine x_iret rfl rfl d_Cc_offcut_91 (Nat.zero_le _) (Nat.zero_le _) ?_
        exact ⟨_, rfl, rfl, rfl, rfl, hC, Fr.rf⟩
    · exact absurd (nI_pos' (by omega)) c13
  · rw [if_neg hk, show vOffcut G.1 x w = -1 from if_neg hk]
    refine x_istore_n d_Cc_offcut_11 (by decide) ?_
    refine x_iload_n d_Cc_offcut_12 rfl ?_
    refine x_if_ge (tgt := 18) d_Cc_offcut_13 (by decide) (fun c13 => ?_) (fun c13 => ?_)
    · exact absurd c13 (by decide)
    · refine x_iconst (v := -1) d_Cc_offcut_16 (by decide) ?_
      refine x_iret rfl rfl d_Cc_offcut_17 (Nat.zero_le _) (Nat.zero_le _) ?_
      exact ⟨_, rfl, rfl, rfl, rfl, hC, Fr.rf⟩
end
