/-! the reference: a room of the text, all of them -/
def RRP (μ : Nat) (mem : Mem) (T : List Nat) (p f0 : Nat) (done : List RoomS) (x : Int32) (m : Mem) : Prop := TX μ mem m ∧ ((∃ q, q ≤ T.length ∧ x = nI 0 ∧ m μ 7 = nI q ∧ goP T p (0, 0, f0, [], done) = .inl q) ∨ ∃ q n f rs, p < q ∧ q ≤ T.length ∧ x = nI 1 ∧ m μ 7 = nI q ∧ RsOk rs ∧ (∀ w, w < 8 → m (μ + 7) w = nI (qOf rs w)) ∧ goP T p (0, 0, f0, [], done) = goP T q (3, n, f, [], done ++ [rs]))
def LPA (μ : Nat) (mem : Mem) (T : List Nat) (p j : Nat) (m : Mem) (q : Nat) (cur : List (Nat × Nat)) : Prop := TX μ mem m ∧ m μ 7 = nI q ∧ p ≤ q ∧ q ≤ T.length ∧ cur.length = j ∧ (∀ r ∈ cur, (1 ≤ r.1 ∧ r.1 ≤ 60) ∧ 1 ≤ r.2 ∧ r.2 ≤ 60) ∧ ∀ w, 1 ≤ w → w < 7 → m (μ + 7) w = nI (qOf (cur, 0) w)
section
variable {l : Launch} {g : XG} {sh : Nat → Sh} {mem : Mem} {μ : Nat} {T : List Nat}
theorem ct_Mo_readRoom (hM : LayMo sh μ) (ht : MTxt mem μ T) {p f0 : Nat} {done : List RoomS} (hp : mem μ 7 = nI p) (hpl : p ≤ T.length) : Ct l g M_Mo_readRoom [rf g μ] none sh mem (Ri none sh (RRP μ mem T p f0 done)) := by
  have t1 := ht.1
  refine x_begin rfl rfl rfl (by decide) rfl ?_
  refine x_iconst (v := nI 1) d_Mo_readRoom_0 (by decide) ?_
  refine x_istore_n d_Mo_readRoom_1 (by decide) ?_
  refine up_ind 7 (P := fun k => 1 ≤ k → ∀ (m : Mem), (∀ o, o ≠ μ + 7 → m o = mem o) → (∀ w, 1 ≤ w → w < k → m (μ + 7) w = nI 0) → X l g M_Mo_readRoom (XF g (Ri none sh (RRP μ mem T p f0 done)) M_Mo_readRoom) 2 [some (rf g μ), some (.int (nI k)), none] [] none sh m 0 0) (fun k hk ih hk1 m hm hz => ?_) 1 (by omega) (by omega) mem (fun _ _ => rfl) (fun w h1 h2 => absurd h1 (by omega))
  refine x_iload_n d_Mo_readRoom_2 rfl ?_
  refine x_bipush (v := nI 7) d_Mo_readRoom_3 (by decide) ?_
  refine x_icmp_ge (tgt := 21) d_Mo_readRoom_5 (by decide) (fun c5 => ?_) (fun c5 => ?_)
  · have hk2 : k = 7 := by have := nI_le' (by omega) (by omega) c5; omega
    subst hk2
    have hT0 : TX μ mem m := ⟨fun o h1 h2 => hm o h2, fun k hk => by rw [hm _ (by omega)]⟩
    refine x_iconst (v := nI 0) d_Mo_readRoom_21 (by decide) ?_
    refine x_istore_n d_Mo_readRoom_22 (by decide) ?_
    refine x_iconst (v := nI 1) d_Mo_readRoom_23 (by decide) ?_
    refine x_istore_n d_Mo_readRoom_24 (by decide) ?_
    refine up_ind 3 (P := fun j => ∀ (m : Mem) (b : Int32) (q : Nat) (cur : List (Nat × Nat)), LPA μ mem T p j m q cur → ((b = nI 1 ∧ j ≤ 2 ∧ ∃ f, goP T p (0, 0, f0, [], done) = goP T q (0, 0, f, cur, done)) ∨ (b = nI 0 ∧ p < q ∧ 1 ≤ j ∧ ∃ f, (T[q]? = some 64 → goP T p (0, 0, f0, [], done) = goP T (q + 1) (2, 0, f, cur, done)) ∧ (¬ T[q]? = some 64 → goP T p (0, 0, f0, [], done) = .inl q))) → X l g M_Mo_readRoom (XF g (Ri none sh (RRP μ mem T p f0 done)) M_Mo_readRoom) 25 [some (rf g μ), some (.int (nI j)), some (.int b)] [] none sh m 0 0) (fun j hj ih m b q cur hA hb => ?_) 0 (Nat.zero_le _) m (nI 1) p [] ⟨hT0, by rw [hm _ (by omega)]; exact hp, Nat.le_refl _, hpl, rfl, fun r hr => (by cases hr), fun w h1 h2 => ?_⟩ (Or.inl ⟨rfl, by omega, f0, rfl⟩)
    · obtain ⟨l1, l2, l3, l4, l5, l6, l7⟩ := hA
      have htm := l1.txt ht
      refine x_iload_n d_Mo_readRoom_25 rfl ?_
      refine x_if_eq (tgt := 90) d_Mo_readRoom_26 (by decide) (fun c26 => ?_) (fun c26 => ?_)
      · rcases hb with ⟨rfl, hj2, f, hg⟩ | ⟨rfl, hpq, hj1, f, hg1, hg2⟩
        · exact absurd c26 (by decide)
        · refine x_aload_n d_Mo_readRoom_90 rfl ?_
          refine x_getR hM.f0 rfl fs_Mo_28 d_Mo_readRoom_91 ?_
          refine x_iconst (v := nI 0) d_Mo_readRoom_94 (by decide) ?_
          refine x_iload_n d_Mo_readRoom_95 rfl ?_
          refine x_iast hM.f7 (vp_in_nI (by omega) (by omega)) d_Mo_readRoom_96 ?_
          rw [nI_clamp (by omega)]
          refine x_aload_n d_Mo_readRoom_97 rfl ?_
          refine x_bipush (v := nI 64) d_Mo_readRoom_98 (by decide) ?_
          refine x_v1i d_Mo_readRoom_100 ml_Mo_184 v_Mo_sign rfl ⟨rfl, rfl⟩ hM.io (Nat.le_of_ble_eq_true rfl) (ct_Mo_sign hM ((l1.tr TX.rd).txt ht) (by rw [um_ne _ _ _ (by omega)]; exact l2) l4 (by omega)) (fun r100 mem100 h100 => ?_)
          refine x_if_eq (tgt := 117) d_Mo_readRoom_103 (by decide) (fun c103 => ?_) (fun c103 => ?_)
          · rcases h100 with ⟨s1, s2, s3⟩ | ⟨s1, s2, s3⟩
            · rw [s2] at c103
              exact absurd c103 (by decide)
            · have hF : RRP μ mem T p f0 done (nI 0) mem100 := ⟨by rw [s3]; exact (l1.tr TX.rd).tr TX.pl, Or.inl ⟨q, l4, rfl, by rw [s3]; exact um_eq _ _ _ _, hg2 s1⟩⟩
              refine x_iconst (v := nI 0) d_Mo_readRoom_117 (by decide) ?_
              refine x_iret rfl (by decide) d_Mo_readRoom_118 (Nat.zero_le _) (Nat.zero_le _) ?_
              exact ⟨_, rfl, rfl, rfl, hF⟩
          · rcases h100 with ⟨s1, s2, s3⟩ | ⟨s1, s2, s3⟩
            · have hT1 : TX μ mem mem100 := by rw [s3]; exact (l1.tr TX.rd).tr TX.pl
              have hp1 : mem100 μ 7 = nI (q + 1) := by rw [s3]; exact um_eq _ _ _ _
              have hl1 : q + 1 ≤ T.length := (List.getElem?_eq_some_iff.mp s1).1
              have hr1 : ∀ w, mem100 (μ + 7) w = um m (μ + 7) 0 (nI j) (μ + 7) w := fun w => by rw [s3, um_ne _ _ _ (by omega)]
              have hg3 := hg1 s1
              have h2 := goP_2 (n := 0) (f := f) (cur := cur) (done := done) hl1
              have ht1 := hT1.txt ht
              refine x_aload_n d_Mo_readRoom_106 rfl ?_
              refine x_bipush (v := nI 48) d_Mo_readRoom_107 (by decide) ?_
              refine x_bipush (v := nI 51) d_Mo_readRoom_109 (by decide) ?_
              refine x_v2p d_Mo_readRoom_111 ml_Mo_178 v_Mo_isNext rfl ⟨rfl, rfl⟩ hM.io (Nat.le_of_ble_eq_true rfl) (ct_Mo_isNext hM ht1 hp1 hl1 (by omega) (by omega)) ?_
              refine x_if_ne (tgt := 119) d_Mo_readRoom_114 (by decide) (fun c114 => ?_) (fun c114 => ?_)
              · obtain ⟨d, hd, hd1, hd2⟩ := nxB_of (bI_n.mp c114)
                obtain ⟨e3, e4⟩ := ht1.2.2 _ d hd
                have hql : q + 1 < T.length := (List.getElem?_eq_some_iff.mp hd).1
                refine x_aload_n d_Mo_readRoom_119 rfl ?_
                refine x_getR hM.f0 rfl fs_Mo_28 d_Mo_readRoom_120 ?_
                refine x_bipush (v := nI 7) d_Mo_readRoom_123 (by decide) ?_
                refine x_aload_n d_Mo_readRoom_125 rfl ?_
                refine x_getR hM.f0 rfl fs_Mo_25 d_Mo_readRoom_126 ?_
                refine x_aload_n d_Mo_readRoom_129 rfl ?_
                refine x_getI hM.f0 rfl fs_Mo_132 d_Mo_readRoom_130 ?_
                rw [hp1]
                refine x_iald hM.f6 (vp_in_nI (by omega) (by omega)) d_Mo_readRoom_133 ?_
                rw [nI_clamp (by omega), e3]
                refine x_bipush (v := nI 48) d_Mo_readRoom_134 (by decide) ?_
                refine x_isub d_Mo_readRoom_136 ?_
                rw [pk_sub (by omega)]
                refine x_iast hM.f7 (vp_in_nI (by omega) (by omega)) d_Mo_readRoom_137 ?_
                rw [nI_clamp (by omega)]
                refine x_aload_n d_Mo_readRoom_138 rfl ?_
                refine x_dup d_Mo_readRoom_139 rfl ?_
                refine x_getI hM.f0 rfl fs_Mo_132 d_Mo_readRoom_140 ?_
                rw [um_ne _ _ _ (by omega), hp1]
                refine x_iconst (v := nI 1) d_Mo_readRoom_143 (by decide) ?_
                refine x_iadd d_Mo_readRoom_144 ?_
                rw [nI_add]
                refine x_putI hM.f0 rfl ps_Mo_132 rfl rfl d_Mo_readRoom_145 ?_
                refine x_iconst (v := nI 1) d_Mo_readRoom_148 (by decide) ?_
                refine x_iret rfl (by decide) d_Mo_readRoom_149 (Nat.zero_le _) (Nat.zero_le _) ?_
                refine ⟨_, rfl, rfl, rfl, (hT1.tr TX.rd).tr TX.pl, Or.inr ⟨q + 1 + 1, 0, f, (cur, d - 48), by omega, hql, rfl, um_eq _ _ _ _, ⟨⟨by dsimp only; omega, by dsimp only; omega⟩, l6, by dsimp only; omega⟩, fun w hw => ?_, hg3.trans (h2.1 d hd hd1 hd2)⟩⟩
                rw [um_ne _ _ _ (by omega)]
                by_cases e7 : w = 7
                · rw [e7, um_eq]
                  rfl
                · rw [um_k _ _ e7, hr1]
                  by_cases e0 : w = 0
                  · rw [e0, um_eq, ← l5]
                    rfl
                  · rw [um_k _ _ e0, qOf_side (b := 0) (by omega)]
                    exact l7 w (by omega) (by omega)
              · have hF : RRP μ mem T p f0 done (nI 0) mem100 := ⟨hT1, Or.inl ⟨q + 1, hl1, rfl, hp1, hg3.trans (h2.2 (bI_0.mp c114))⟩⟩
                refine x_iconst (v := nI 0) d_Mo_readRoom_117 (by decide) ?_
                refine x_iret rfl (by decide) d_Mo_readRoom_118 (Nat.zero_le _) (Nat.zero_le _) ?_
                exact ⟨_, rfl, rfl, rfl, hF⟩
            · rw [s2] at c103
              exact absurd rfl c103
      · rcases hb with ⟨rfl, hj2, f, hg⟩ | ⟨rfl, hpq, hj1, f, hg1, hg2⟩
        · refine x_aload_n d_Mo_readRoom_29 rfl ?_
          refine x_iconst (v := nI 1) d_Mo_readRoom_30 (by decide) ?_
          refine x_iconst (v := nI 2) d_Mo_readRoom_31 (by decide) ?_
          refine x_iload_n d_Mo_readRoom_32 rfl ?_
          refine x_imul d_Mo_readRoom_33 ?_
          rw [pk_mul]
          refine x_iadd d_Mo_readRoom_34 ?_
          rw [nI_add]
          refine x_v1i d_Mo_readRoom_35 ml_Mo_181 v_Mo_size rfl ⟨rfl, rfl⟩ hM.io (Nat.le_of_ble_eq_true rfl) (ct_Mo_size hM htm l2 l4 (by omega)) (fun r35 mem35 h35 => ?_)
          refine x_if_eq (tgt := 62) d_Mo_readRoom_38 (by decide) (fun c38 => ?_) (fun c38 => ?_)
          · obtain ⟨x1, ⟨q0, rfl, z0⟩ | ⟨q1, v1, q0, y⟩⟩ := h35
            · have hF : RRP μ mem T p f0 done (nI 0) mem35 := ⟨l1, Or.inl ⟨q, l4, rfl, l2, hg.trans (z0 0 f cur done (by omega))⟩⟩
              refine x_iconst (v := nI 0) d_Mo_readRoom_62 (by decide) ?_
              refine x_iret rfl (by decide) d_Mo_readRoom_63 (Nat.zero_le _) (Nat.zero_le _) ?_
              exact ⟨_, rfl, rfl, rfl, hF⟩
            · rw [q0] at c38
              exact absurd c38 (by decide)
          · obtain ⟨x1, ⟨q0, z0⟩ | ⟨q1, v1, q0, y1, y2, y3, y4, ⟨y5, y6⟩, y7, y8⟩⟩ := h35
            · rw [q0] at c38
              exact absurd rfl c38
            · have hT1 := l1.tr x1
              have hx := goP_x (f := f) (cur := cur) (done := done) y2 y3.1 y7
              have hg1 := hg.trans (y8 0 f cur done (by omega))
              refine x_aload_n d_Mo_readRoom_41 rfl ?_
              refine x_bipush (v := nI 120) d_Mo_readRoom_42 (by decide) ?_
              refine x_v1i d_Mo_readRoom_44 ml_Mo_184 v_Mo_sign rfl ⟨rfl, rfl⟩ hM.io (Nat.le_of_ble_eq_true rfl) (ct_Mo_sign hM (hT1.txt ht) y4 y2 (by omega)) (fun r44 mem44 h44 => ?_)
              refine x_if_eq (tgt := 62) d_Mo_readRoom_47 (by decide) (fun c47 => ?_) (fun c47 => ?_)
              · rcases h44 with ⟨s1, s2, s3⟩ | ⟨s1, s2, s3⟩
                · rw [s2] at c47
                  exact absurd c47 (by decide)
                · have hF : RRP μ mem T p f0 done (nI 0) mem44 := ⟨by rw [s3]; exact hT1.tr TX.pl, Or.inl ⟨q1, y2, rfl, by rw [s3]; exact um_eq _ _ _ _, hg1.trans (hx.2 s1)⟩⟩
                  refine x_iconst (v := nI 0) d_Mo_readRoom_62 (by decide) ?_
                  refine x_iret rfl (by decide) d_Mo_readRoom_63 (Nat.zero_le _) (Nat.zero_le _) ?_
                  exact ⟨_, rfl, rfl, rfl, hF⟩
              · rcases h44 with ⟨s1, s2, s3⟩ | ⟨s1, s2, s3⟩
                · have hT2 : TX μ mem mem44 := by rw [s3]; exact hT1.tr TX.pl
                  have hp2 : mem44 μ 7 = nI (q1 + 1) := by rw [s3]; exact um_eq _ _ _ _
                  have hl2 : q1 + 1 ≤ T.length := (List.getElem?_eq_some_iff.mp s1).1
                  have hr2 : ∀ w, mem44 (μ + 7) w = mem35 (μ + 7) w := fun w => by rw [s3, um_ne _ _ _ (by omega)]
                  have hg2 := hg1.trans (hx.1 s1)
                  refine x_aload_n d_Mo_readRoom_50 rfl ?_
                  refine x_iconst (v := nI 2) d_Mo_readRoom_51 (by decide) ?_
                  refine x_iconst (v := nI 2) d_Mo_readRoom_52 (by decide) ?_
                  refine x_iload_n d_Mo_readRoom_53 rfl ?_
                  refine x_imul d_Mo_readRoom_54 ?_
                  rw [pk_mul]
                  refine x_iadd d_Mo_readRoom_55 ?_
                  rw [nI_add]
                  refine x_v1i d_Mo_readRoom_56 ml_Mo_181 v_Mo_size rfl ⟨rfl, rfl⟩ hM.io (Nat.le_of_ble_eq_true rfl) (ct_Mo_size hM (hT2.txt ht) hp2 hl2 (by omega)) (fun r56 mem56 h56 => ?_)
                  refine x_if_ne (tgt := 64) d_Mo_readRoom_59 (by decide) (fun c59 => ?_) (fun c59 => ?_)
                  · obtain ⟨x2, ⟨q0, z0⟩ | ⟨q2, v2, q0, w1, w2, w3, w4, ⟨w5, w6⟩, w7, w8⟩⟩ := h56
                    · rw [q0] at c59
                      exact absurd rfl c59
                    · have hT3 := hT2.tr x2
                      have hs := goP_sep (f := v1) (cur := cur) (done := done) w2 w3.1 w7
                      have hg3 := hg2.trans (w8 1 v1 cur done (by omega))
                      have hlen : (cur ++ [(v1, v2)]).length = j + 1 := by rw [List.length_append, List.length_singleton, l5]
                      have hok : ∀ r ∈ cur ++ [(v1, v2)], (1 ≤ r.1 ∧ r.1 ≤ 60) ∧ 1 ≤ r.2 ∧ r.2 ≤ 60 := fun r hr => by
                        rcases List.mem_append.mp hr with hr | hr
                        · exact l6 r hr
                        · rw [List.mem_singleton] at hr
                          subst hr
                          exact ⟨y3, w3⟩
                      have hRD : ∀ w, 1 ≤ w → w < 7 → mem56 (μ + 7) w = nI (qOf (cur ++ [(v1, v2)], 0) w) := fun w h1 h2 => by
                        rw [qOf_app h1 h2, l5]
                        by_cases e2 : w = 2 + 2 * j
                        · rw [if_neg (by omega), if_pos e2, e2, w5]
                        · rw [w6 w e2, hr2]
                          by_cases e1 : w = 1 + 2 * j
                          · rw [if_pos e1, e1, y5]
                          · rw [if_neg e1, if_neg e2, y6 w e1]
                            exact l7 w h1 h2
                      refine x_iinc d_Mo_readRoom_64 rfl (by first | exact inc1 _ | rfl) (by decide) ?_
                      refine x_iload_n d_Mo_readRoom_67 rfl ?_
                      refine x_iconst (v := nI 3) d_Mo_readRoom_68 (by decide) ?_
                      refine x_icmp_ge (tgt := 85) d_Mo_readRoom_69 (by decide) (fun c69 => ?_) (fun c69 => ?_)
                      · have c69 := nI_le' (by omega) (by omega) c69
                        refine x_iconst (v := nI 0) d_Mo_readRoom_85 (by decide) ?_
                        refine x_istore_n d_Mo_readRoom_86 (by decide) ?_
                        refine x_goto (tgt := 25) d_Mo_readRoom_87 (by decide) ?_
                        exact ih (by omega) mem56 _ q2 _ ⟨hT3, w4, by omega, w2, hlen, hok, hRD⟩ (Or.inr ⟨rfl, by omega, by omega, v1, fun z => hg3.trans (hs.2.1 z), fun z => hg3.trans (hs.2.2 (Or.inr (by omega)) z)⟩)
                      · have c69 := nI_nle' (by omega) (by omega) c69
                        refine x_aload_n d_Mo_readRoom_72 rfl ?_
                        refine x_bipush (v := nI 43) d_Mo_readRoom_73 (by decide) ?_
                        refine x_v1i d_Mo_readRoom_75 ml_Mo_184 v_Mo_sign rfl ⟨rfl, rfl⟩ hM.io (Nat.le_of_ble_eq_true rfl) (ct_Mo_sign hM (hT3.txt ht) w4 w2 (by omega)) (fun r75 mem75 h75 => ?_)
                        refine x_if_eq (tgt := 85) d_Mo_readRoom_78 (by decide) (fun c78 => ?_) (fun c78 => ?_)
                        · rcases h75 with ⟨s4, s5, s6⟩ | ⟨s4, s5, s6⟩
                          · rw [s5] at c78
                            exact absurd c78 (by decide)
                          · refine x_iconst (v := nI 0) d_Mo_readRoom_85 (by decide) ?_
                            refine x_istore_n d_Mo_readRoom_86 (by decide) ?_
                            refine x_goto (tgt := 25) d_Mo_readRoom_87 (by decide) ?_
                            exact ih (by omega) mem75 _ q2 _ ⟨by rw [s6]; exact hT3.tr TX.pl, by rw [s6]; exact um_eq _ _ _ _, by omega, w2, hlen, hok, fun w h1 h2 => by rw [s6, um_ne _ _ _ (by omega)]; exact hRD w h1 h2⟩ (Or.inr ⟨rfl, by omega, by omega, v1, fun z => hg3.trans (hs.2.1 z), fun z => hg3.trans (hs.2.2 (Or.inl s4) z)⟩)
                        · rcases h75 with ⟨s4, s5, s6⟩ | ⟨s4, s5, s6⟩
                          · have hl4 : q2 + 1 ≤ T.length := (List.getElem?_eq_some_iff.mp s4).1
                            refine x_iconst (v := nI 1) d_Mo_readRoom_81 (by decide) ?_
                            refine x_goto (tgt := 86) d_Mo_readRoom_82 (by decide) ?_
                            refine x_istore_n d_Mo_readRoom_86 (by decide) ?_
                            refine x_goto (tgt := 25) d_Mo_readRoom_87 (by decide) ?_
                            exact ih (by omega) mem75 _ (q2 + 1) _ ⟨by rw [s6]; exact hT3.tr TX.pl, by rw [s6]; exact um_eq _ _ _ _, by omega, hl4, hlen, hok, fun w h1 h2 => by rw [s6, um_ne _ _ _ (by omega)]; exact hRD w h1 h2⟩ (Or.inl ⟨rfl, by omega, v1, hg3.trans (hs.1 s4 (by omega))⟩)
                          · rw [s5] at c78
                            exact absurd rfl c78
                  · obtain ⟨x2, ⟨q0, rfl, z0⟩ | ⟨q2, v2, q0, y⟩⟩ := h56
                    · have hF : RRP μ mem T p f0 done (nI 0) mem56 := ⟨hT2, Or.inl ⟨q1 + 1, hl2, rfl, hp2, hg2.trans (z0 1 v1 cur done (by omega))⟩⟩
                      refine x_iconst (v := nI 0) d_Mo_readRoom_62 (by decide) ?_
                      refine x_iret rfl (by decide) d_Mo_readRoom_63 (Nat.zero_le _) (Nat.zero_le _) ?_
                      exact ⟨_, rfl, rfl, rfl, hF⟩
                    · rw [q0] at c59
                      exact absurd c59 (by decide)
                · rw [s2] at c47
                  exact absurd rfl c47
        · exact absurd rfl c26
    · rw [hz w h1 h2]
      unfold qOf
      rw [if_neg (by omega), if_neg (by omega)]
      split <;> first | rfl | simp
  · have hk2 := nI_nle' (by omega) (by omega) c5
    refine x_aload_n d_Mo_readRoom_8 rfl ?_
    refine x_getR hM.f0 rfl fs_Mo_28 d_Mo_readRoom_9 ?_
    refine x_iload_n d_Mo_readRoom_12 rfl ?_
    refine x_iconst (v := nI 0) d_Mo_readRoom_13 (by decide) ?_
    refine x_iast hM.f7 (vp_in_nI (by omega) (by omega)) d_Mo_readRoom_14 ?_
    rw [nI_clamp (by omega)]
    refine x_iinc d_Mo_readRoom_15 rfl (by first | exact inc1 _ | rfl) (by decide) ?_
    refine x_goto (tgt := 2) d_Mo_readRoom_18 (by decide) ?_
    exact ih (by omega) (by omega) _ (fun o ho => by rw [um_ne _ _ _ ho]; exact hm o ho) (fun w h1 h2 => by by_cases h : w = k; (· rw [h, um_eq]); (· rw [um_k _ _ h]; exact hz w h1 (by omega)))
def RAP (μ : Nat) (mem : Mem) (T : List Nat) (x : Int32) (m : Mem) : Prop := TX μ mem m ∧ ((∃ i, parseP T = .inl i ∧ i ≤ 60 ∧ x = -100 - nI i) ∨ ∃ L, parseP T = .inr L ∧ L.length ≤ 60 ∧ x = nI L.length ∧ ∀ rs ∈ L, RsOk rs)
theorem ct_Mo_readAll (hM : LayMo sh μ) (ht : MTxt mem μ T) : Ct l g M_Mo_readAll [rf g μ] none sh mem (Ri none sh (RAP μ mem T)) := by
  have t1 := ht.1
  refine x_begin rfl rfl rfl (by decide) rfl ?_
  refine x_aload_n d_Mo_readAll_0 rfl ?_
  refine x_iconst (v := nI 0) d_Mo_readAll_1 (by decide) ?_
  refine x_putI hM.f0 rfl ps_Mo_132 rfl rfl d_Mo_readAll_2 ?_
  refine x_iconst (v := nI 0) d_Mo_readAll_5 (by decide) ?_
  refine x_istore_n d_Mo_readAll_6 (by decide) ?_
  refine x_iconst (v := nI 1) d_Mo_readAll_7 (by decide) ?_
  refine x_istore_n d_Mo_readAll_8 (by decide) ?_
  refine up_ind T.length (P := fun j => ∀ (m : Mem) (b : Int32) (q : Nat) (done : List RoomS), j ≤ q → q ≤ T.length → TX μ mem m → m μ 7 = nI q → done.length ≤ q → (∀ rs ∈ done, RsOk rs) → ((b = nI 1 ∧ ∃ f, parseP T = goP T q (0, 0, f, [], done)) ∨ (b = nI 0 ∧ ¬ T[q]? = some 59 ∧ ∃ n f, parseP T = goP T q (3, n, f, [], done))) → X l g M_Mo_readAll (XF g (Ri none sh (RAP μ mem T)) M_Mo_readAll) 9 [some (rf g μ), some (.int (nI done.length)), some (.int b)] [] none sh m 0 0) (fun j hj ih m b q done hjq hq hT hpl hdl hok hb => ?_) 0 (Nat.zero_le _) _ (nI 1) 0 [] (Nat.le_refl _) (Nat.zero_le _) TX.pl (um_eq _ _ _ _) (Nat.zero_le _) (fun rs hrs => (by cases hrs)) (Or.inl ⟨rfl, 0, (goP_0 T).symm⟩)
  have htm := hT.txt ht
  refine x_iload_n d_Mo_readAll_9 rfl ?_
  refine x_if_eq (tgt := 41) d_Mo_readAll_10 (by decide) (fun c10 => ?_) (fun c10 => ?_)
  · rcases hb with ⟨rfl, f, hg⟩ | ⟨rfl, h59, n, f, hg⟩
    · exact absurd c10 (by decide)
    · have h3 := goP_3 (n := n) (f := f) (done := done) hq
      refine x_aload_n d_Mo_readAll_41 rfl ?_
      refine x_getI hM.f0 rfl fs_Mo_132 d_Mo_readAll_42 ?_
      rw [hpl]
      refine x_aload_n d_Mo_readAll_45 rfl ?_
      refine x_getI hM.f0 rfl fs_Mo_175 d_Mo_readAll_46 ?_
      rw [htm.2.1]
      refine x_icmp_ge (tgt := 62) d_Mo_readAll_49 (by decide) (fun c49 => ?_) (fun c49 => ?_)
      · have c49 := nI_le' (by omega) (by omega) c49
        have hnone : T[q]? = none := List.getElem?_eq_none_iff.mpr c49
        refine x_iload_n d_Mo_readAll_62 rfl ?_
        refine x_iret rfl rfl d_Mo_readAll_63 (Nat.zero_le _) (Nat.zero_le _) ?_
        exact ⟨_, rfl, rfl, rfl, hT, Or.inr ⟨done, hg.trans (h3.2.1 hnone), by omega, rfl, hok⟩⟩
      · have c49 := nI_nle' (by omega) (by omega) c49
        have hsome : ¬ T[q]? = none := fun z => absurd (List.getElem?_eq_none_iff.mp z) (by omega)
        refine x_bipush (v := -100) d_Mo_readAll_52 (by decide) ?_
        refine x_aload_n d_Mo_readAll_54 rfl ?_
        refine x_getI hM.f0 rfl fs_Mo_132 d_Mo_readAll_55 ?_
        rw [hpl]
        refine x_isub d_Mo_readAll_58 ?_
        refine x_goto (tgt := 63) d_Mo_readAll_59 (by decide) ?_
        refine x_iret rfl rfl d_Mo_readAll_63 (Nat.zero_le _) (Nat.zero_le _) ?_
        exact ⟨_, rfl, rfl, rfl, hT, Or.inl ⟨q, hg.trans (h3.2.2 h59 hsome), by omega, rfl⟩⟩
  · rcases hb with ⟨rfl, f, hg⟩ | ⟨rfl, h59, n, f, hg⟩
    · refine x_aload_n d_Mo_readAll_13 rfl ?_
      refine x_v0i d_Mo_readAll_14 ml_Mo_135 v_Mo_readRoom rfl ⟨rfl, rfl⟩ hM.io (Nat.le_of_ble_eq_true rfl) (ct_Mo_readRoom hM (f0 := f) (done := done) htm hpl hq) (fun r14 mem14 h14 => ?_)
      refine x_if_ne (tgt := 28) d_Mo_readAll_17 (by decide) (fun c17 => ?_) (fun c17 => ?_)
      · obtain ⟨x1, ⟨q1, y1, y2, y3, y4⟩ | ⟨q1, n1, f1, rs, y1, y2, y3, y4, y5, y6, y7⟩⟩ := h14
        · rw [y2] at c17
          exact absurd rfl c17
        · have hT1 := hT.tr x1
          have h3 := goP_3 (n := n1) (f := f1) (done := done ++ [rs]) y2
          have hlen : (done ++ [rs]).length = done.length + 1 := by rw [List.length_append, List.length_singleton]
          have hok1 : ∀ r ∈ done ++ [rs], RsOk r := fun r hr => by
            rcases List.mem_append.mp hr with hr | hr
            · exact hok r hr
            · rw [List.mem_singleton] at hr
              subst hr
              exact y5
          refine x_iinc d_Mo_readAll_28 rfl (by first | exact inc1 _ | rfl) (by decide) ?_
          refine x_aload_n d_Mo_readAll_31 rfl ?_
          refine x_bipush (v := nI 59) d_Mo_readAll_32 (by decide) ?_
          refine x_v1i d_Mo_readAll_34 ml_Mo_184 v_Mo_sign rfl ⟨rfl, rfl⟩ hM.io (Nat.le_of_ble_eq_true rfl) (ct_Mo_sign hM (hT1.txt ht) y4 y2 (by omega)) (fun r34 mem34 h34 => ?_)
          refine x_istore_n d_Mo_readAll_37 (by decide) ?_
          refine x_goto (tgt := 9) d_Mo_readAll_38 (by decide) ?_
          rcases h34 with ⟨s1, s2, s3⟩ | ⟨s1, s2, s3⟩
          · have hl4 : q1 + 1 ≤ T.length := (List.getElem?_eq_some_iff.mp s1).1
            have h9 := ih (by omega) mem34 r34 (q1 + 1) (done ++ [rs]) (by omega) hl4 (by rw [s3]; exact hT1.tr TX.pl) (by rw [s3]; exact um_eq _ _ _ _) (by omega) hok1 (Or.inl ⟨s2, f1, (hg.trans y7).trans (h3.1 s1)⟩)
            rw [hlen] at h9
            exact h9
          · have h9 := ih (by omega) mem34 r34 q1 (done ++ [rs]) (by omega) y2 (by rw [s3]; exact hT1.tr TX.pl) (by rw [s3]; exact um_eq _ _ _ _) (by omega) hok1 (Or.inr ⟨s2, s1, n1, f1, hg.trans y7⟩)
            rw [hlen] at h9
            exact h9
      · obtain ⟨x1, ⟨q1, y1, y2, y3, y4⟩ | ⟨q1, n1, f1, rs, y1, y2, y3, y⟩⟩ := h14
        · refine x_bipush (v := -100) d_Mo_readAll_20 (by decide) ?_
          refine x_aload_n d_Mo_readAll_22 rfl ?_
          refine x_getI hM.f0 rfl fs_Mo_132 d_Mo_readAll_23 ?_
          rw [y3]
          refine x_isub d_Mo_readAll_26 ?_
          refine x_iret rfl rfl d_Mo_readAll_27 (Nat.zero_le _) (Nat.zero_le _) ?_
          exact ⟨_, rfl, rfl, rfl, hT.tr x1, Or.inl ⟨q1, hg.trans y4, by omega, rfl⟩⟩
        · rw [y3] at c17
          exact absurd c17 (by decide)
    · exact absurd rfl c10
theorem neg100 : ∀ i, i < 61 → ((-100 : Int32) - nI i < 0 ∧ (-100 : Int32) - ((-100 : Int32) - nI i) = nI i) := by decide +kernel
end
section
variable {l : Launch} {g : XG} {sh : Nat → Sh} {mem : Mem} {μ : Nat} {G : GS}
theorem ct_Mo_fault (hM : LayMo sh μ) (hC : MR mem μ G) : Ct l g M_Mo_fault [rf g μ] none sh mem (Ri none sh (MP μ mem (spFault G))) := by
  obtain ⟨hI, hn, hh, ht, hs⟩ := id hC
  refine x_begin rfl rfl rfl (by decide) rfl ?_
  refine x_aload_n d_Mo_fault_0 rfl ?_
  refine x_v0i d_Mo_fault_1 ml_Mo_129 v_Mo_readAll rfl ⟨rfl, rfl⟩ hM.io (Nat.le_of_ble_eq_true rfl) (ct_Mo_readAll hM ht) (fun r1 mem1 h1 => ?_)
  obtain ⟨hT, hR⟩ := h1
  have hC1 := hC.fg hT.fg (hn.mv (hT.1 _ (by omega) (by omega)))
  rcases hR with ⟨i, hp, hi, rfl⟩ | ⟨L, hp, h60, rfl, hrs⟩
  · obtain ⟨n1, n2⟩ := neg100 i (by omega)
    rw [show spFault G = (nI i, G) by unfold spFault; rw [hp]; rfl]
    refine x_istore_n d_Mo_fault_4 (by decide) ?_
    refine x_iload_n d_Mo_fault_5 rfl ?_
    refine x_if_ge (tgt := 16) d_Mo_fault_6 (by decide) (fun c6 => ?_) (fun c6 => ?_)
    · exact absurd c6 (i_nle.mpr n1)
    · refine x_bipush (v := -100) d_Mo_fault_9 (by decide) ?_
      refine x_iload_n d_Mo_fault_11 rfl ?_
      refine x_isub d_Mo_fault_12 ?_
      refine x_goto (tgt := 18) d_Mo_fault_13 (by decide) ?_
      refine x_iret rfl rfl d_Mo_fault_18 (Nat.zero_le _) (Nat.zero_le _) ?_
      exact ⟨_, rfl, rfl, rfl, n2, hC1⟩
  · rw [show spFault G = (-5, G) by unfold spFault; rw [hp]; rfl]
    refine x_istore_n d_Mo_fault_4 (by decide) ?_
    refine x_iload_n d_Mo_fault_5 rfl ?_
    refine x_if_ge (tgt := 16) d_Mo_fault_6 (by decide) (fun c6 => ?_) (fun c6 => ?_)
    · refine x_bipush (v := -5) d_Mo_fault_16 (by decide) ?_
      refine x_iret rfl rfl d_Mo_fault_18 (Nat.zero_le _) (Nat.zero_le _) ?_
      exact ⟨_, rfl, rfl, rfl, rfl, hC1⟩
    · exact absurd (nI_pos' (by omega)) c6
end
