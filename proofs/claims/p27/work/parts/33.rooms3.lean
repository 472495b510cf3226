/-! rooms come from the text -/
def spRooms (G : GS) : Int32 × GS := match parseP G.2.2.2 with
  | .inl i => (-100 - nI i, G)
  | .inr L => if 20 < G.1 2 + L.length then (-3, G) else (nI L.length, actG G (addRooms G.1 L))
theorem qOf_at {rs : RoomS} {k : Nat} {p : Nat × Nat} (hk : rs.1[k]? = some p) (h3 : k < 3) : qOf rs (1 + 2 * k) = p.1 ∧ qOf rs (2 + 2 * k) = p.2 := by
  unfold qOf
  constructor
  · rw [if_neg (by omega), if_neg (by omega), if_pos (by omega), show (1 + 2 * k - 1) / 2 = k by omega, hk]
    rfl
  · rw [if_neg (by omega), if_neg (by omega), if_neg (by omega), show (2 + 2 * k - 1) / 2 = k by omega, hk]
    rfl
/-- one more room in the book's cells -/
theorem BookRep.oneRoom {mem m : Mem} {β : Nat} {R : RS} {rs : RoomS} (hI : Inv R) (hb : BookRep mem β R) (hrs : RsOk rs) (h20 : R 2 < 20) (hm : ∀ o, (o < β + 29 ∨ β + 48 ≤ o) → m o = mem o) (h0 : m (β + 29) 0 = nI (R 2 + 1)) (hc : CurRep m (β + 29) (R 2) rs.1) (h8 : m (β + 29 + 8) (R 2) = nI rs.2) (h12 : m (β + 29 + 12) (R 2) = nI 0) (hk : ∀ i, i < R 2 → m (β + 29 + 2) i = mem (β + 29 + 2) i ∧ m (β + 29 + 8) i = mem (β + 29 + 8) i ∧ m (β + 29 + 12) i = mem (β + 29 + 12) i) (hk3 : ∀ j, j < R 2 * 3 → m (β + 29 + 4) j = mem (β + 29 + 4) j ∧ m (β + 29 + 6) j = mem (β + 29 + 6) j) (ho : ∀ d, d = 10 ∨ d = 14 ∨ d = 16 ∨ d = 18 → m (β + 29 + d) = mem (β + 29 + d)) : BookRep m β (addRoom R rs) := by
  obtain ⟨a1, a2, a3⟩ := addRoom_at R rs
  obtain ⟨⟨i1, i2, i3⟩, -, -, -, i13, i14, -⟩ := id hI
  obtain ⟨b1, b2, b3, b4, b5, b6⟩ := hb
  have hq : ∀ i, i ≠ R 2 → i < 20 → rq (addRoom R rs) i = rq R i := fun i hi h2 => rq_cong (fun w hw => a2 _ (by omega) (by omega))
  have h8z : rq (addRoom R rs) (R 2) 8 = 0 := by
    rw [rq_w (by omega), a2 _ (by omega) (by omega)]
    have := i14 (R 2) (Nat.le_refl _) h20
    rw [rq_w (by omega)] at this
    exact this
  have hl : laidN (addRoom R rs) = laidN R := by
    funext r
    unfold laidN
    rw [a1, sN, h8z, if_neg (by omega)]
    refine (Nat.add_zero _).trans (sN_cong _ (fun i hi => ?_))
    rw [hq i (by omega) (by omega)]
  refine ⟨fun k hk => by rw [hm _ (by omega), a2 _ (by omega) (by omega)]; exact b1 k hk, by rw [hm _ (by omega), a2 3 (by omega) (by omega)]; exact b2, ?_, ?_, by rw [a1]; exact h0, fun i hi => ?_⟩
  · rw [hl]
    exact b3.mv (fun o h1 h2 => hm o (by omega)) (a2 0 (by omega) (by omega)) (fun r f hr hf => a2 _ (by omega) (by omega))
  · rw [EL_cong (a2 1 (by omega) (by omega)) (fun j d hj hd => a2 _ (by omega) (by omega)), a2 1 (by omega) (by omega)]
    exact b4.mv (fun o h1 h2 => hm o (by omega))
  · rw [a1] at hi
    by_cases hi2 : i = R 2
    · subst hi2
      have hqe : ∀ w, w < 8 → rq (addRoom R rs) (R 2) w = qOf rs w := fun w hw => by rw [rq_w (by omega)]; exact a3 w hw
      refine ⟨⟨h20, qOf_geo hrs hqe, by rw [hqe 0 (by omega)]; exact hc.1, fun k hk2 => ?_, by rw [hqe 7 (by omega)]; exact h8⟩, fun _ => h12, fun z => absurd (h8z.symm.trans z) (by omega)⟩
      rw [hqe 0 (by omega)] at hk2
      have hk2 : k < rs.1.length := hk2
      have h3 := hrs.1.2
      have hg := List.getElem?_eq_getElem hk2
      obtain ⟨e1, e2⟩ := qOf_at hg (by omega)
      rw [hqe _ (by omega), hqe _ (by omega), e1, e2]
      exact hc.2 k _ hg
    · have hi3 : i < R 2 := by omega
      obtain ⟨⟨g1, g2, g3, g4, g5⟩, g6, g7⟩ := b6 i hi3
      obtain ⟨k1, k2, k3⟩ := hk i hi3
      have h8e : rq (addRoom R rs) i = rq R i := hq i hi2 (by omega)
      unfold RoomRep
      rw [h8e]
      refine ⟨⟨g1, g2, by rw [k1]; exact g3, fun k hk2 => by have := g2.1.2.1; rw [(hk3 _ (by omega)).1, (hk3 _ (by omega)).2]; exact g4 k hk2, by rw [k2]; exact g5⟩, fun z => by rw [k3]; exact g6 z, fun z => ?_⟩
      have h9 := ((i13 i hi3).2.2 z).1
      obtain ⟨⟨c1, c2, c3⟩, c4, c5, c6⟩ := g7 z
      have hr1 : ro (addRoom R rs) (rq R i 9) 1 = ro R (rq R i 9) 1 := a2 _ (by omega) (by omega)
      rw [hr1]
      refine ⟨⟨by rw [k3]; exact c1, by rw [ho 14 (by omega)]; exact c2, c3⟩, by rw [ho 10 (by omega)]; exact c4, by rw [ho 16 (by omega)]; exact c5, fun s hs => ?_⟩
      have h36 := stripsN_le g2 ((i13 i hi3).2.2 z).2 c3.2.1
      rw [ho 18 (by omega), show sc (addRoom R rs) i s = sc R i s from a2 _ (by omega) (by omega)]
      exact c6 s hs
section
variable {l : Launch} {g : XG} {sh : Nat → Sh} {mem : Mem}
theorem ct_Rm_appendAll {β φ : Nat} {R : RS} {L : List RoomS} (hO : LayRm sh (β + 29)) (hA : LayRm sh φ) (hI : Inv R) (hb : BookRep mem β R) (hf : FoundRep mem φ L) (hd : φ + 19 ≤ β + 29 ∨ β + 48 ≤ φ) (h20 : R 2 + L.length ≤ 20) (hL : ∀ rs ∈ L, RsOk rs) : Ct l g M_Rm_appendAll [rf g (β + 29), rf g φ] none sh mem (Rv none sh (fun m => Fr (β + 29) (β + 48) mem m ∧ BookRep m β (addRooms R L))) := by
  refine x_begin rfl rfl rfl (by decide) rfl ?_
  refine x_aload_n d_Rm_appendAll_0 rfl ?_
  refine x_getI hA.f0 rfl fs_Rm_44 d_Rm_appendAll_1 ?_
  rw [hf.1]
  refine x_istore_n d_Rm_appendAll_4 (by decide) ?_
  refine x_iconst (v := nI 0) d_Rm_appendAll_5 (by decide) ?_
  refine x_istore_n d_Rm_appendAll_6 (by decide) ?_
  refine up_ind L.length (P := fun j => ∀ (m : Mem) (u4 u5 u6 : Option Value), BookRep m β (addRooms R (L.take j)) → Fr (β + 29) (β + 48) mem m → X l g M_Rm_appendAll (XF g (Rv none sh (fun m => Fr (β + 29) (β + 48) mem m ∧ BookRep m β (addRooms R L))) M_Rm_appendAll) 7 [some (rf g (β + 29)), some (rf g φ), some (.int (nI L.length)), some (.int (nI j)), u4, u5, u6] [] none sh m 0 0) (fun j hj ih m u4 u5 u6 hbm hfr => ?_) 0 (Nat.zero_le _) mem _ _ _ hb Fr.rf
  have hIj := addRooms_inv (L.take j) R hI (fun rs hrs => hL rs (List.mem_of_mem_take hrs)) (by rw [List.length_take]; omega)
  rw [List.length_take, Nat.min_eq_left hj] at hIj
  obtain ⟨hIj, h2j⟩ := hIj
  refine x_iload_n d_Rm_appendAll_7 rfl ?_
  refine x_iload_n d_Rm_appendAll_8 rfl ?_
  refine x_icmp_ge (tgt := 91) d_Rm_appendAll_9 (by decide) (fun c9 => ?_) (fun c9 => ?_)
  · have hj2 : j = L.length := by have := nI_le' (by omega) (by omega) c9; omega
    rw [hj2, List.take_length] at hbm
    refine x_vret rfl d_Rm_appendAll_91 (Nat.zero_le _) (Nat.zero_le _) ?_
    exact ⟨rfl, rfl, rfl, hfr, hbm⟩
  · have hj2 := nI_nle' (by omega) (by omega) c9
    have hLj := List.getElem?_eq_getElem hj2
    have hrs := hL _ (List.getElem_mem hj2)
    have hr3 := hrs.1.2
    obtain ⟨hcur, hside⟩ := hf.2 j _ hLj
    have htk : addRooms R (L.take (j + 1)) = addRoom (addRooms R (L.take j)) L[j] := by
      rw [List.take_succ, hLj]
      exact List.foldl_append ..
    have hphi : ∀ o, φ ≤ o → o < φ + 19 → m o = mem o := fun o h1 h2 => hfr o (by omega)
    have hc0 := hbm.2.2.2.2.1
    rw [h2j] at hc0
    refine x_aload_n d_Rm_appendAll_12 rfl ?_
    refine x_v0v d_Rm_appendAll_13 ml_Rm_63 v_Rm_begin rfl ⟨rfl, rfl⟩ hO.io (Nat.le_of_ble_eq_true rfl) (ct_Rm_begin hO hc0 (by omega)) (fun _ hE => ?_)
    subst hE
    refine x_aload_n d_Rm_appendAll_16 rfl ?_
    refine x_getR hA.f0 rfl fs_Rm_14 d_Rm_appendAll_17 ?_
    refine x_iload_n d_Rm_appendAll_20 rfl ?_
    refine x_v1p d_Rm_appendAll_21 ml_Rm_48 v_Rw_at rfl ⟨rfl, rfl⟩ (row_io hA.f1) (Nat.le_of_ble_eq_true rfl) (ct_Rw_at hA.f1 hA.f2 (by omega)) ?_
    rw [um_ne _ _ _ (by omega), um_ne _ _ _ (by omega), hphi _ (by omega) (by omega), hcur.1]
    refine x_istore d_Rm_appendAll_24 (by decide) ?_
    refine x_iconst (v := nI 0) d_Rm_appendAll_26 (by decide) ?_
    refine x_istore d_Rm_appendAll_27 (by decide) ?_
    refine up_ind L[j].1.length (P := fun k => ∀ (m2 : Mem) (u6 : Option Value), (m2 (β + 29) 0 = nI (R 2 + j) ∧ m2 (β + 29 + 2) (R 2 + j) = nI k ∧ (∀ k', k' < k → ∀ p, L[j].1[k']? = some p → m2 (β + 29 + 4) ((R 2 + j) * 3 + k') = nI p.1 ∧ m2 (β + 29 + 6) ((R 2 + j) * 3 + k') = nI p.2) ∧ m2 (β + 29 + 12) (R 2 + j) = nI 0 ∧ (∀ i, i < R 2 + j → m2 (β + 29 + 2) i = m (β + 29 + 2) i ∧ m2 (β + 29 + 12) i = m (β + 29 + 12) i) ∧ (∀ x, x < (R 2 + j) * 3 → m2 (β + 29 + 4) x = m (β + 29 + 4) x ∧ m2 (β + 29 + 6) x = m (β + 29 + 6) x) ∧ ∀ o, o ≠ β + 29 + 2 → o ≠ β + 29 + 4 → o ≠ β + 29 + 6 → o ≠ β + 29 + 12 → m2 o = m o) → X l g M_Rm_appendAll (XF g (Rv none sh (fun m => Fr (β + 29) (β + 48) mem m ∧ BookRep m β (addRooms R L))) M_Rm_appendAll) 29 [some (rf g (β + 29)), some (rf g φ), some (.int (nI L.length)), some (.int (nI j)), some (.int (nI L[j].1.length)), some (.int (nI k)), u6] [] none sh m2 0 0) (fun k hk ih2 m2 u6 hm2 => ?_) 0 (Nat.zero_le _) _ _ ?_
    · obtain ⟨s1, s2, s3, s4, s5, s6, s7⟩ := hm2
      refine x_iload d_Rm_appendAll_29 rfl ?_
      refine x_iload d_Rm_appendAll_31 rfl ?_
      refine x_icmp_ge (tgt := 73) d_Rm_appendAll_33 (by decide) (fun c33 => ?_) (fun c33 => ?_)
      · have hk2 : k = L[j].1.length := by have := nI_le' (by omega) (by omega) c33; omega
        refine x_aload_n d_Rm_appendAll_73 rfl ?_
        refine x_aload_n d_Rm_appendAll_74 rfl ?_
        refine x_getR hA.f0 rfl fs_Rm_26 d_Rm_appendAll_75 ?_
        refine x_iload_n d_Rm_appendAll_78 rfl ?_
        refine x_v1p d_Rm_appendAll_79 ml_Rm_48 v_Rw_at rfl ⟨rfl, rfl⟩ (row_io hA.f7) (Nat.le_of_ble_eq_true rfl) (ct_Rw_at hA.f7 hA.f8 (by omega)) ?_
        rw [s7 _ (by omega) (by omega) (by omega) (by omega), hphi _ (by omega) (by omega), hside]
        refine x_v1v d_Rm_appendAll_82 ml_Rm_69 v_Rm_finish rfl ⟨rfl, rfl⟩ hO.io (Nat.le_of_ble_eq_true rfl) (ct_Rm_finish hO s1 (by omega)) (fun _ hE => ?_)
        subst hE
        refine x_iinc d_Rm_appendAll_85 rfl (by first | exact inc1 _ | rfl) (by decide) ?_
        refine x_goto (tgt := 7) d_Rm_appendAll_88 (by decide) ?_
        have hne : ∀ o, o ≠ β + 29 → o ≠ β + 29 + 8 → o ≠ β + 29 + 2 → o ≠ β + 29 + 4 → o ≠ β + 29 + 6 → o ≠ β + 29 + 12 → um (um m2 (β + 29 + 8) (R 2 + j) (nI L[j].2)) (β + 29) 0 (nI (R 2 + j + 1)) o = m o := fun o h1 h2 h3 h4 h5 h6 => by
          rw [um_ne _ _ _ h1, um_ne _ _ _ h2]
          exact s7 o h3 h4 h5 h6
        refine ih hj2 _ _ _ _ ?_ (fun o ho => (hne o (by omega) (by omega) (by omega) (by omega) (by omega) (by omega)).trans (hfr o ho))
        rw [htk]
        refine hbm.oneRoom hIj hrs (by omega) (fun o ho => hne o (by omega) (by omega) (by omega) (by omega) (by omega) (by omega)) (by rw [um_eq, h2j]) ?_ ?_ ?_ (fun i hi => ?_) (fun x hx => ?_) (fun d hd2 => hne _ (by omega) (by omega) (by omega) (by omega) (by omega) (by omega))
        · rw [h2j]
          refine ⟨by rw [um_o _ _ (by omega), um_o _ _ (by omega), s2, hk2], fun k' p hp => ?_⟩
          rw [um_o _ _ (by omega), um_o _ _ (by omega), um_o _ _ (by omega), um_o _ _ (by omega)]
          exact s3 k' (by have := (List.getElem?_eq_some_iff.mp hp).1; omega) p hp
        · rw [h2j, um_o _ _ (by omega), um_eq]
        · rw [h2j, um_o _ _ (by omega), um_o _ _ (by omega)]
          exact s4
        · rw [h2j] at hi
          rw [um_o _ _ (by omega), um_o _ _ (by omega), um_o _ _ (by omega), um_k _ _ (by omega), um_o _ _ (by omega), um_o _ _ (by omega), s7 (β + 29 + 8) (by omega) (by omega) (by omega) (by omega)]
          exact ⟨(s5 i hi).1, rfl, (s5 i hi).2⟩
        · rw [h2j] at hx
          rw [um_o _ _ (by omega), um_o _ _ (by omega), um_o _ _ (by omega), um_o _ _ (by omega)]
          exact s6 x hx
      · have hk2 := nI_nle' (by omega) (by omega) c33
        have hg := List.getElem?_eq_getElem hk2
        obtain ⟨g1, g2⟩ := hcur.2 k _ hg
        refine x_aload_n d_Rm_appendAll_36 rfl ?_
        refine x_iload_n d_Rm_appendAll_37 rfl ?_
        refine x_iload d_Rm_appendAll_38 rfl ?_
        refine x_v2p d_Rm_appendAll_40 ml_Rm_56 v_Rm_cell rfl ⟨rfl, rfl⟩ hA.io (Nat.le_of_ble_eq_true rfl) (ct_Rm_cell hA) ?_
        refine x_istore d_Rm_appendAll_43 (by decide) ?_
        refine x_aload_n d_Rm_appendAll_45 rfl ?_
        refine x_aload_n d_Rm_appendAll_46 rfl ?_
        refine x_getR hA.f0 rfl fs_Rm_20 d_Rm_appendAll_47 ?_
        refine x_iload d_Rm_appendAll_50 rfl ?_
        refine x_v1p d_Rm_appendAll_52 ml_Rm_48 v_Rw_at rfl ⟨rfl, rfl⟩ (row_io hA.f3) (Nat.le_of_ble_eq_true rfl) (ct_Rw_at hA.f3 hA.f4 (by omega)) ?_
        rw [s7 _ (by omega) (by omega) (by omega) (by omega), hphi _ (by omega) (by omega), g1]
        refine x_aload_n d_Rm_appendAll_55 rfl ?_
        refine x_getR hA.f0 rfl fs_Rm_23 d_Rm_appendAll_56 ?_
        refine x_iload d_Rm_appendAll_59 rfl ?_
        refine x_v1p d_Rm_appendAll_61 ml_Rm_48 v_Rw_at rfl ⟨rfl, rfl⟩ (row_io hA.f5) (Nat.le_of_ble_eq_true rfl) (ct_Rw_at hA.f5 hA.f6 (by omega)) ?_
        rw [s7 _ (by omega) (by omega) (by omega) (by omega), hphi _ (by omega) (by omega), g2]
        refine x_v2v d_Rm_appendAll_64 ml_Rm_66 v_Rm_addRectangle rfl ⟨rfl, rfl⟩ hO.io (Nat.le_of_ble_eq_true rfl) (ct_Rm_addRectangle hO s1 (by omega) s2 (by omega)) (fun _ hE => ?_)
        subst hE
        refine x_iinc d_Rm_appendAll_67 rfl (by first | exact inc1 _ | rfl) (by decide) ?_
        refine x_goto (tgt := 29) d_Rm_appendAll_70 (by decide) ?_
        refine ih2 hk2 _ _ ⟨?_, ?_, fun k' hk' p hp => ?_, ?_, fun i hi => ?_, fun x hx => ?_, fun o h1 h2 h3 h4 => ?_⟩
        · rw [um_o _ _ (by omega), um_o _ _ (by omega), um_o _ _ (by omega)]; exact s1
        · exact um_eq _ _ _ _
        · by_cases hkk : k' = k
          · subst hkk
            have hpe : L[j].1[k'] = p := Option.some.inj (hg.symm.trans hp)
            rw [um_o _ _ (by omega), um_o _ _ (by omega), um_eq, um_o _ _ (by omega), um_eq, hpe]
            exact ⟨rfl, rfl⟩
          · rw [um_o _ _ (by omega), um_o _ _ (by omega), um_k _ _ (by omega), um_o _ _ (by omega), um_k _ _ (by omega), um_o _ _ (by omega)]
            exact s3 k' (by omega) p hp
        · rw [um_o _ _ (by omega), um_o _ _ (by omega), um_o _ _ (by omega)]; exact s4
        · rw [um_k _ _ (by omega), um_o _ _ (by omega), um_o _ _ (by omega), um_o _ _ (by omega), um_o _ _ (by omega), um_o _ _ (by omega)]
          exact s5 i hi
        · rw [um_o _ _ (by omega), um_o _ _ (by omega), um_k _ _ (by omega), um_o _ _ (by omega), um_k _ _ (by omega), um_o _ _ (by omega)]
          exact s6 x hx
        · rw [um_ne _ _ _ (by omega), um_ne _ _ _ (by omega), um_ne _ _ _ (by omega)]
          exact s7 o h1 h2 h3 h4
    · refine ⟨by rw [um_o _ _ (by omega), um_o _ _ (by omega)]; exact hc0, by rw [um_o _ _ (by omega), um_eq], fun k' hk' => absurd hk' (by omega), um_eq _ _ _ _, fun i hi => ⟨by rw [um_o _ _ (by omega), um_k _ _ (by omega)], by rw [um_k _ _ (by omega), um_o _ _ (by omega)]⟩, fun x hx => ⟨by rw [um_o _ _ (by omega), um_o _ _ (by omega)], by rw [um_o _ _ (by omega), um_o _ _ (by omega)]⟩, fun o h1 h2 h3 h4 => by rw [um_ne _ _ _ (by omega), um_ne _ _ _ (by omega)]⟩
theorem ct_Cc_rooms {κ : Nat} {G : GS} (hL : LayCc sh κ) (hC : CR mem κ G) : Ct l g M_Cc_rooms [rf g κ] none sh mem (Ri none sh (CP κ mem (spRooms G))) := by
  obtain ⟨hI, hb, hh, ht, hs⟩ := id hC
  have h20 := hI.1.2.2
  refine x_begin rfl rfl rfl (by decide) rfl ?_
  refine x_aload_n d_Cc_rooms_0 rfl ?_
  refine x_getR hL.f0 rfl fs_Cc_35 d_Cc_rooms_1 ?_
  refine x_v0i d_Cc_rooms_4 ml_Cc_68 v_Te_read rfl ⟨rfl, rfl⟩ hL.s387.io (Nat.le_of_ble_eq_true rfl) (ct_Te_read hL.s387 ht) (fun r4 mem4 h4 => ?_)
  obtain ⟨hTF, rfl, hp60, hpL⟩ := h4
  have hC1 := hC.read hTF
  cases hp : parseP G.2.2.2 with
  | inl i =>
    have hi := hp60 i hp
    rw [show spRooms G = (-100 - nI i, G) by unfold spRooms; rw [hp]]
    rw [show readI (.inl i) = nI i from rfl]
    refine x_istore_n d_Cc_rooms_7 (by decide) ?_
    refine x_iload_n d_Cc_rooms_8 rfl ?_
    refine x_if_lt (tgt := 17) d_Cc_rooms_9 (by decide) (fun c9 => ?_) (fun c9 => ?_)
    · exact absurd c9 (nI_pos (by omega))
    · refine x_bipush (v := -100) d_Cc_rooms_12 (by decide) ?_
      refine x_iload_n d_Cc_rooms_14 rfl ?_
      refine x_isub d_Cc_rooms_15 ?_
      refine x_iret rfl rfl d_Cc_rooms_16 (Nat.zero_le _) (Nat.zero_le _) ?_
      exact ⟨_, rfl, rfl, rfl, rfl, hC1⟩
  | inr L =>
    obtain ⟨hfd, h10, hrs⟩ := hpL L hp
    rw [show spRooms G = if 20 < G.1 2 + L.length then (-3, G) else (nI L.length, actG G (addRooms G.1 L)) by unfold spRooms; rw [hp]]
    rw [show readI (.inr L) = -5 from rfl]
    refine x_istore_n d_Cc_rooms_7 (by decide) ?_
    refine x_iload_n d_Cc_rooms_8 rfl ?_
    refine x_if_lt (tgt := 17) d_Cc_rooms_9 (by decide) (fun c9 => ?_) (fun c9 => ?_)
    · refine x_aload_n d_Cc_rooms_17 rfl ?_
      refine x_getR hL.f0 rfl fs_Cc_35 d_Cc_rooms_18 ?_
      refine x_getR hL.s387.f0 rfl fs_Cc_72 d_Cc_rooms_21 ?_
      refine x_getI hL.s387.s3.f0 rfl fs_Cc_76 d_Cc_rooms_24 ?_
      rw [hfd.1]
      refine x_istore_n d_Cc_rooms_27 (by decide) ?_
      refine x_aload_n d_Cc_rooms_28 rfl ?_
      refine x_getR hL.f0 rfl fs_Cc_10 d_Cc_rooms_29 ?_
      refine x_getR hL.s1.f0 rfl fs_Cc_79 d_Cc_rooms_32 ?_
      refine x_getI hL.s1.s29.f0 rfl fs_Cc_76 d_Cc_rooms_35 ?_
      rw [hC1.1.2.1.2.2.2.2.1]
      refine x_iload_n d_Cc_rooms_38 rfl ?_
      refine x_iadd d_Cc_rooms_39 ?_
      rw [nI_add]
      refine x_bipush (v := nI 20) d_Cc_rooms_40 (by decide) ?_
      refine x_icmp_le (tgt := 48) d_Cc_rooms_42 (by decide) (fun c42 => ?_) (fun c42 => ?_)
      · have c42 := nI_le' (by omega) (by omega) c42
        rw [if_neg (show ¬ 20 < G.1 2 + L.length by omega)]
        refine x_aload_n d_Cc_rooms_48 rfl ?_
        refine x_getR hL.f0 rfl fs_Cc_28 d_Cc_rooms_49 ?_
        refine x_aload_n d_Cc_rooms_52 rfl ?_
        refine x_getR hL.f0 rfl fs_Cc_10 d_Cc_rooms_53 ?_
        refine x_v1v d_Cc_rooms_56 ml_Cc_60 v_Hi_record rfl ⟨rfl, rfl⟩ hL.s193.io (Nat.le_of_ble_eq_true rfl) (ct_Hi_record hL.s193 hL.s1 (by omega) hC1.1.2.2.1 hI hC1.1.2.1) (fun mem56 h56 => ?_)
        obtain ⟨F1, hh1⟩ := h56
        have hb1 := hC1.1.book1 F1
        have hfd1 : FoundRep mem56 (κ + 387 + 3) L := hfd.all (fun o h1 h2 => F1 o (by omega))
        refine x_aload_n d_Cc_rooms_59 rfl ?_
        refine x_getR hL.f0 rfl fs_Cc_10 d_Cc_rooms_60 ?_
        refine x_getR hL.s1.f0 rfl fs_Cc_79 d_Cc_rooms_63 ?_
        refine x_aload_n d_Cc_rooms_66 rfl ?_
        refine x_getR hL.f0 rfl fs_Cc_35 d_Cc_rooms_67 ?_
        refine x_getR hL.s387.f0 rfl fs_Cc_72 d_Cc_rooms_70 ?_
        refine x_v1v d_Cc_rooms_73 ml_Cc_82 v_Rm_appendAll rfl ⟨rfl, rfl⟩ hL.s1.s29.io (Nat.le_of_ble_eq_true rfl) (ct_Rm_appendAll hL.s1.s29 hL.s387.s3 hI hb1 hfd1 (by omega) c42 hrs) (fun mem73 h73 => ?_)
        obtain ⟨F2, hb2⟩ := h73
        have hA := hC1.1.acted F1 hh1 (F2.up (by omega) (by omega)) (addRooms_inv L _ hI hrs c42).1 hb2
        refine x_iload_n d_Cc_rooms_76 rfl ?_
        refine x_iret rfl rfl d_Cc_rooms_77 (Nat.zero_le _) (Nat.zero_le _) ?_
        exact ⟨_, rfl, rfl, rfl, rfl, hA.1, hC1.2.tr hA.2⟩
      · have c42 := nI_nle' (by omega) (by omega) c42
        rw [if_pos c42]
        refine x_bipush (v := -3) d_Cc_rooms_45 (by decide) ?_
        refine x_iret rfl rfl d_Cc_rooms_47 (Nat.zero_le _) (Nat.zero_le _) ?_
        exact ⟨_, rfl, rfl, rfl, rfl, hC1⟩
    · exact absurd (by decide) c9
end
