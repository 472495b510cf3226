/-! Book.throwSmallOnes -/
def smB (r A : Nat) (e : OE) : Bool := decide (e.2.1 = r) && decide (e.2.2.1 * e.2.2.2 < A)
def smK (R : RS) (r A k : Nat) : Bool := kp R k && smB r A (oe R k)
def clearN (R : RS) (r A : Nat) : Nat → RS
  | 0 => R
  | n + 1 => if smK R r A n then dropR (wasteR (clearN R r A n) r (oc R n 1 * oc R n 2)) n else clearN R r A n
def clearS (R : RS) (r A : Nat) : RS := clearN R r A (R 1)
def sumS (r A : Nat) : List OE → Nat
  | [] => 0
  | e :: E => (if smB r A e then e.2.2.1 * e.2.2.2 else 0) + sumS r A E
theorem sumS_app (r A : Nat) : ∀ (E F : List OE), sumS r A (E ++ F) = sumS r A E + sumS r A F
  | [], F => by simp [sumS]
  | e :: E, F => by rw [List.cons_append, sumS, sumS, sumS_app r A E F]; omega
theorem clearN_ne {R : RS} {r A : Nat} : ∀ n j, j ≠ 9 + 7 * r + 5 → (j < 93 ∨ 93 + 3 * n ≤ j) → clearN R r A n j = R j
  | 0, j, _, _ => rfl
  | n + 1, j, h1, h2 => by
    rw [clearN]
    split
    · unfold dropR wasteR
      rw [un_ne _ _ (by omega), un_ne _ _ h1]
      exact clearN_ne n j h1 (by omega)
    · exact clearN_ne n j h1 (by omega)
theorem clearN_oc {R : RS} {r A : Nat} (hr : r < 12) : ∀ n k j, j < 3 → oc (clearN R r A n) k j = if k < n ∧ smK R r A k = true ∧ j = 0 then 0 else oc R k j
  | 0, k, j, _ => by rw [if_neg (by omega)]; rfl
  | n + 1, k, j, hj => by
    have ih := clearN_oc (R := R) (A := A) hr n k j hj
    rw [clearN]
    by_cases h : smK R r A n = true
    · rw [if_pos h]
      by_cases hk : k = n ∧ j = 0
      · obtain ⟨rfl, rfl⟩ := hk
        rw [if_pos ⟨by omega, h, rfl⟩]
        exact un_at _ _ _
      · have e1 : oc (dropR (wasteR (clearN R r A n) r (oc R n 1 * oc R n 2)) n) k j = oc (clearN R r A n) k j := by
          unfold oc dropR wasteR
          rw [un_ne _ _ (by omega), un_ne _ _ (by omega)]
        rw [e1, ih]
        by_cases hc : k < n ∧ smK R r A k = true ∧ j = 0
        · rw [if_pos hc, if_pos ⟨by omega, hc.2⟩]
        · rw [if_neg hc, if_neg (fun z => by
            by_cases hkn : k = n
            · exact hk ⟨hkn, z.2.2⟩
            · exact hc ⟨by omega, z.2⟩)]
    · rw [if_neg h, ih]
      by_cases hc : k < n ∧ smK R r A k = true ∧ j = 0
      · rw [if_pos hc, if_pos ⟨by omega, hc.2⟩]
      · rw [if_neg hc, if_neg (fun z => by
          by_cases hkn : k = n
          · subst hkn
            exact h z.2.1
          · exact hc ⟨by omega, z.2⟩)]
theorem clearN_ro {R : RS} {r A : Nat} (hr : r < 12) : ∀ n, ro (clearN R r A n) r 5 = ro R r 5 + sumS r A (ELn R n)
  | 0 => by simp [clearN, ELn, sumS]
  | n + 1 => by
    have ih := clearN_ro (R := R) (A := A) hr n
    rw [clearN, ELn, sumS_app]
    by_cases hk : kp R n = true
    · rw [if_pos hk]
      by_cases h : smB r A (oe R n) = true
      · rw [if_pos (by simp [smK, hk, h])]
        have e1 : ro (dropR (wasteR (clearN R r A n) r (oc R n 1 * oc R n 2)) n) r 5 = ro (clearN R r A n) r 5 + oc R n 1 * oc R n 2 := by
          unfold dropR
          exact (un_ne _ _ (by omega)).trans (un_at _ _ _)
        have h9 : (oe R n).2.2.1 * (oe R n).2.2.2 = oc R n 1 * oc R n 2 := rfl
        rw [e1, ih, sumS, if_pos h, sumS, h9]
        omega
      · rw [if_neg (by simp [smK, h]), ih]
        simp [sumS, h]
    · rw [if_neg hk, if_neg (by simp [smK, hk]), ih]
      simp [sumS]
theorem clearN_EL {R : RS} {r A m : Nat} (hr : r < 12) : ∀ n, n ≤ m → ELn (clearN R r A m) n = (ELn R n).filter (fun e => !smB r A e)
  | 0, _ => rfl
  | n + 1, hn => by
    rw [ELn, ELn, List.filter_append, clearN_EL hr n (by omega)]
    congr 1
    have h0 := clearN_oc (R := R) (A := A) hr m n 0 (by omega)
    have h1 := clearN_oc (R := R) (A := A) hr m n 1 (by omega)
    have h2 := clearN_oc (R := R) (A := A) hr m n 2 (by omega)
    rw [if_neg (by omega)] at h1 h2
    by_cases hs : smK R r A n = true
    · rw [if_pos ⟨by omega, hs, rfl⟩] at h0
      have hk : kp R n = true := by simp only [smK, Bool.and_eq_true] at hs; exact hs.1
      have hb : smB r A (oe R n) = true := by simp only [smK, Bool.and_eq_true] at hs; exact hs.2
      have hk2 : kp (clearN R r A m) n = false := by simp [kp, h0]
      rw [hk2, if_pos hk]
      simp [hb]
    · rw [if_neg (fun z => hs z.2.1)] at h0
      have hk2 : kp (clearN R r A m) n = kp R n := by simp only [kp, h0]
      have he : oe (clearN R r A m) n = oe R n := by simp only [oe, h0, h1, h2]
      rw [hk2, he]
      by_cases hk : kp R n = true
      · have hb : smB r A (oe R n) = false := by simpa [smK, hk] using hs
        rw [if_pos hk]
        simp [hb]
      · rw [if_neg hk]
        rfl
theorem clearS_EL {R : RS} {r A : Nat} (hr : r < 12) : EL (clearS R r A) = (EL R).filter (fun e => !smB r A e) := by
  have h1 : clearS R r A 1 = R 1 := clearN_ne _ _ (by omega) (by omega)
  unfold EL
  rw [h1]
  exact clearN_EL hr _ (Nat.le_refl _)
theorem count_EL (R : RS) (r A : Nat) : (EL R).countP (smB r A) = cnt (smK R r A) (R 1) := by
  unfold EL
  generalize R 1 = n
  induction n with
  | zero => rfl
  | succ n ih =>
    rw [ELn, List.countP_append, ih, cnt]
    congr 1
    by_cases hk : kp R n = true
    · rw [if_pos hk]
      by_cases h : smB r A (oe R n) = true
      · rw [if_pos (by simp [smK, hk, h])]
        simp [h]
      · rw [if_neg (by simp [smK, h])]
        simp [h]
    · rw [if_neg hk, if_neg (by simp [smK, hk])]
      rfl
theorem smB_at {E : List OE} {r A i : Nat} (hi : i < E.length) : smB r A E[i] = (decide (eR E i = r) && decide (eA E i < A)) := by
  simp only [smB, eR, eA, eW, eL, List.getElem?_eq_getElem hi, Option.getD_some]
theorem eA_at {E : List OE} {i : Nat} (hi : i < E.length) : eA E i = E[i].2.2.1 * E[i].2.2.2 := by
  simp only [eA, eW, eL, List.getElem?_eq_getElem hi, Option.getD_some]
/-- the first places of a list are those of its beginning -/
theorem e_take {E F : List OE} {j i : Nat} (hi : i < j) (hj : j ≤ E.length) : eR (E.take j ++ F) i = eR E i ∧ eA (E.take j ++ F) i = eA E i := by
  have h1 : (E.take j ++ F)[i]? = E[i]? := by
    rw [List.getElem?_append_left (by rw [List.length_take]; omega), List.getElem?_take_of_lt hi]
  simp only [eR, eA, eW, eL, h1, and_self]
theorem take_erase {E F : List OE} {i : Nat} (hi : i < E.length) : (E.take (i + 1) ++ F).eraseIdx i = E.take i ++ F := by
  have h2 : (E.take i).length = i := by rw [List.length_take]; omega
  rw [List.take_succ, List.getElem?_eq_getElem hi, List.append_assoc, List.eraseIdx_append_of_length_le (by omega), h2, Nat.sub_self]
  rfl
section
variable {l : Launch} {g : XG} {sh : Nat → Sh} {mem : Mem} {β : Nat} {R : RS}
theorem ct_Bk_throwSmallOnes (hB : LayBk sh β) (hI : Inv R) (hb : BookRep mem β R) {r A : Nat} (hr : r < 12) (hA : A ≤ 9999) : Ct l g M_Bk_throwSmallOnes [rf g β, .int (nI r), .int (nI A)] none sh mem (Ri none sh (fun x m => Fr β (β + 48) mem m ∧ x = nI (cnt (smK R r A) (R 1)) ∧ BookRep m β (clearS R r A))) := by
  obtain ⟨b1, b2, b3, b4, b5, b6⟩ := id hb
  have h60 : (EL R).length ≤ 60 := b4.1
  obtain ⟨c1, c2, c3, c4, c5, c6, c7, c8⟩ := b3.2 r hr
  refine x_begin rfl rfl rfl (by decide) rfl ?_
  refine x_iconst (v := nI 0) d_Bk_throwSmallOnes_0 (by decide) ?_
  refine x_istore_n d_Bk_throwSmallOnes_1 (by decide) ?_
  refine x_aload_n d_Bk_throwSmallOnes_2 rfl ?_
  refine x_getR hB.f0 rfl fs_Bk_30 d_Bk_throwSmallOnes_3 ?_
  refine x_getI hB.s20.f0 rfl fs_Bk_173 d_Bk_throwSmallOnes_6 ?_
  rw [b4.2.2.1]
  refine x_iconst (v := nI 1) d_Bk_throwSmallOnes_9 (by decide) ?_
  refine x_isub d_Bk_throwSmallOnes_10 ?_
  refine x_istore d_Bk_throwSmallOnes_11 (by decide) ?_
  have key := dn_ind (P := fun j => ∀ (m : Mem), j ≤ (EL R).length → OfRep m (β + 20) ((EL R).take j ++ ((EL R).drop j).filter (fun e => !smB r A e)) (R 1) → m (β + 3 + 14) r = nI (ro R r 5 + sumS r A ((EL R).drop j)) → (∀ j, j ≠ r → m (β + 3 + 14) j = mem (β + 3 + 14) j) → (∀ o, o ≠ β + 3 + 14 → (o < β + 20 ∨ β + 20 + 9 ≤ o) → m o = mem o) → X l g M_Bk_throwSmallOnes (XF g (Ri none sh (fun x m => Fr β (β + 48) mem m ∧ x = nI (cnt (smK R r A) (R 1)) ∧ BookRep m β (clearS R r A))) M_Bk_throwSmallOnes) 13 [some (rf g β), some (.int (nI r)), some (.int (nI A)), some (.int (nI (((EL R).drop j).countP (smB r A)))), some (.int (nI j - nI 1))] [] none sh m 0 0) (fun j ih m hj hO hw hwo hf => ?_)
  · have h9 := key (EL R).length mem (Nat.le_refl _) (by rw [List.take_length, List.drop_length, List.filter_nil, List.append_nil]; exact b4) (by rw [List.drop_length]; exact c7) (fun _ _ => rfl) (fun _ _ _ => rfl)
    rw [List.drop_length] at h9
    exact h9
  · refine x_iload d_Bk_throwSmallOnes_13 rfl ?_
    refine x_if_lt (tgt := 70) d_Bk_throwSmallOnes_15 (by decide) (fun c15 => ?_) (fun c15 => ?_)
    · have hj0 : j = 0 := by
        rcases Nat.eq_zero_or_pos j with h | h
        · exact h
        · rw [pk_sub (show 1 ≤ j from h)] at c15
          exact absurd c15 (nI_pos (by omega))
      subst hj0
      rw [List.drop_zero] at hw
      rw [List.take_zero, List.nil_append, List.drop_zero] at hO
      refine x_iload_n d_Bk_throwSmallOnes_70 rfl ?_
      refine x_iret rfl rfl d_Bk_throwSmallOnes_71 (Nat.zero_le _) (Nat.zero_le _) ?_
      have hne : ∀ k, k ≠ 9 + 7 * r + 5 → (k < 93 ∨ 993 ≤ k) → clearS R r A k = R k := fun k h1 h2 => clearN_ne _ _ h1 (by have := hI.1.2.1; omega)
      refine ⟨_, rfl, rfl, rfl, fun o ho => hf o (by omega) (by omega), by rw [← count_EL, List.drop_zero], ?_⟩
      have hl2 : laidN (clearS R r A) = laidN R := laid_cg (hne 2 (by omega) (by omega)) hI.1.2.2 (fun i hi => rq_cong (fun w hw => hne _ (by omega) (by omega)))
      refine BL.cg (ld := laidN R) hb hI.room hI.1.2.2 (hf _ (by omega) (by omega)) (by rw [hf _ (by omega) (by omega), hne 3 (by omega) (by omega)]; exact b2) ⟨by rw [hf _ (by omega) (by omega), hne 0 (by omega) (by omega)]; exact b3.1, fun j hj => ?_⟩ (by rw [clearS_EL hr, hne 1 (by omega) (by omega)]; exact hO) (fun o h1 h2 => hf _ (by omega) (by omega)) (fun k hk => hne _ (by omega) (by omega)) (fun j hj => hne _ (by omega) (by omega))
      obtain ⟨c1, c2, c3, c4, c5, c6, c7, c8⟩ := b3.2 j hj
      have er : ∀ f, f < 7 → f ≠ 5 → ro (clearS R r A) j f = ro R j f := fun f h1 h2 => hne _ (by omega) (by omega)
      rw [hl2, er 0 (by omega) (by omega), er 1 (by omega) (by omega), er 2 (by omega) (by omega), er 3 (by omega) (by omega), er 4 (by omega) (by omega), er 6 (by omega) (by omega), hf _ (by omega) (by omega), hf _ (by omega) (by omega), hf _ (by omega) (by omega), hf _ (by omega) (by omega), hf _ (by omega) (by omega), hf _ (by omega) (by omega), hf _ (show β + 3 + 16 ≠ β + 3 + 14 by omega) (by omega)]
      refine ⟨c1, c2, c3, c4, c5, c6, ?_, c8⟩
      by_cases hjr : j = r
      · subst hjr
        rw [hw, show ro (clearS R j A) j 5 = ro R j 5 + sumS j A (EL R) from clearN_ro hr _]
      · rw [hwo j hjr, c7, show ro (clearS R r A) j 5 = ro R j 5 from hne _ (by omega) (by omega)]
    · obtain ⟨i, rfl⟩ : ∃ i, j = i + 1 := by
        cases j with
        | zero => exact absurd (by decide) c15
        | succ i => exact ⟨i, rfl⟩
      rw [pk_sub (show 1 ≤ i + 1 by omega), Nat.add_sub_cancel]
      have hil : i < (EL R).length := by omega
      have hil2 : i < ((EL R).take (i + 1) ++ ((EL R).drop (i + 1)).filter (fun e => !smB r A e)).length := by rw [List.length_append, List.length_take]; omega
      obtain ⟨t1, t2⟩ := e_take (E := EL R) (F := ((EL R).drop (i + 1)).filter (fun e => !smB r A e)) (show i < i + 1 by omega) (by omega)
      have hAr := b4.ar hil
      have hRr := (b4.2.2.2.2 i hil).1.2.1
      have hdr : (EL R).drop i = (EL R)[i] :: (EL R).drop (i + 1) := List.drop_eq_getElem_cons hil
      have hgo := ih i rfl
      rw [hdr, List.filter_cons, List.countP_cons] at hgo
      simp only [smB_at hil, sumS] at hgo
      rw [← eA_at hil] at hgo
      refine x_aload_n d_Bk_throwSmallOnes_18 rfl ?_
      refine x_getR hB.f0 rfl fs_Bk_30 d_Bk_throwSmallOnes_19 ?_
      refine x_iload d_Bk_throwSmallOnes_22 rfl ?_
      refine x_iload_n d_Bk_throwSmallOnes_24 rfl ?_
      refine x_iload_n d_Bk_throwSmallOnes_25 rfl ?_
      refine x_v3p d_Bk_throwSmallOnes_26 ml_Bk_176 v_Of_isSmall rfl ⟨rfl, rfl⟩ hB.s20.io (Nat.le_of_ble_eq_true rfl) (ct_Of_isSmall hB.s20 hO hil2) ?_
      refine x_if_eq (tgt := 64) d_Bk_throwSmallOnes_29 (by decide) (fun c29 => ?_) (fun c29 => ?_)
      · have c29 := bI_0.mp c29
        rw [t1, t2] at c29
        have hns : (decide (eR (EL R) i = r) && decide (eA (EL R) i < A)) = false := by
          rw [Bool.eq_false_iff]
          intro z
          simp only [Bool.and_eq_true, decide_eq_true_eq] at z
          exact c29 ⟨by rw [z.1], nI_lt z.2 (by omega)⟩
        simp only [hns] at hgo
        refine x_iinc d_Bk_throwSmallOnes_64 rfl rfl (by decide) ?_
        rw [dec1]
        refine x_goto (tgt := 13) d_Bk_throwSmallOnes_67 (by decide) ?_
        exact hgo m (by omega) (by rw [List.take_succ, List.getElem?_eq_getElem hil, List.append_assoc] at hO; exact hO) (by simpa using hw) hwo hf
      · have c29 := bI_n.mp c29
        rw [t1, t2] at c29
        have hns : (decide (eR (EL R) i = r) && decide (eA (EL R) i < A)) = true := by
          simp only [Bool.and_eq_true, decide_eq_true_eq]
          exact ⟨nI_eq' (by omega) (by omega) c29.1, nI_lt' (by omega) (by omega) c29.2⟩
        simp only [hns] at hgo
        refine x_aload_n d_Bk_throwSmallOnes_32 rfl ?_
        refine x_getR hB.f0 rfl fs_Bk_23 d_Bk_throwSmallOnes_33 ?_
        refine x_getR hB.s3.f0 rfl fs_Bk_156 d_Bk_throwSmallOnes_36 ?_
        refine x_iload_n d_Bk_throwSmallOnes_39 rfl ?_
        refine x_aload_n d_Bk_throwSmallOnes_40 rfl ?_
        refine x_getR hB.f0 rfl fs_Bk_30 d_Bk_throwSmallOnes_41 ?_
        refine x_iload d_Bk_throwSmallOnes_44 rfl ?_
        refine x_v1p d_Bk_throwSmallOnes_46 ml_Bk_169 v_Of_area rfl ⟨rfl, rfl⟩ hB.s20.io (Nat.le_of_ble_eq_true rfl) (ct_Of_area hB.s20 hO hil2) ?_
        rw [t2]
        refine x_v2v d_Bk_throwSmallOnes_49 ml_Bk_98 v_Rw_add rfl ⟨rfl, rfl⟩ (row_io hB.s3.f13) (Nat.le_of_ble_eq_true rfl) (ct_Rw_add hB.s3.f13 hB.s3.f14 (by omega)) (fun _ hE => ?_)
        subst hE
        rw [hw, nI_add]
        refine x_aload_n d_Bk_throwSmallOnes_52 rfl ?_
        refine x_getR hB.f0 rfl fs_Bk_30 d_Bk_throwSmallOnes_53 ?_
        refine x_iload d_Bk_throwSmallOnes_56 rfl ?_
        refine x_v1v d_Bk_throwSmallOnes_58 ml_Bk_139 v_Of_removeAt rfl ⟨rfl, rfl⟩ hB.s20.io (Nat.le_of_ble_eq_true rfl) (ct_Of_removeAt hB.s20 (show OfRep (um m (β + 3 + 14) r (nI (ro R r 5 + sumS r A ((EL R).drop (i + 1)) + eA (EL R) i))) (β + 20) _ (R 1) from hO.mv (fun o h1 h2 => um_ne _ _ _ (by omega))) hil2) (fun mem58 h58 => ?_)
        obtain ⟨hO2, hF2⟩ := h58
        rw [take_erase hil] at hO2
        refine x_iinc d_Bk_throwSmallOnes_61 rfl (by first | exact inc1 _ | rfl) (by decide) ?_
        refine x_iinc d_Bk_throwSmallOnes_64 rfl rfl (by decide) ?_
        rw [dec1]
        refine x_goto (tgt := 13) d_Bk_throwSmallOnes_67 (by decide) ?_
        exact hgo mem58 (by omega) (by simpa using hO2) (by rw [hF2 _ (by omega), um_eq]; congr 1; simp; omega) (fun k hk => by rw [hF2 _ (by omega), um_k _ _ hk]; exact hwo k hk) (fun o h1 h2 => by rw [hF2 _ h2, um_ne _ _ _ h1]; exact hf o h1 h2)
end
