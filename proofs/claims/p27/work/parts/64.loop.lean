/-! p27, THE LAW: its loop, its end, its beginning -/
theorem push_mem {H : List RS} {R a : RS} (h4 : H.length ≤ 4) (h : a ∈ pushH H R) : a ∈ H ∨ a = R := by
  obtain ⟨P, p1, p2, p3, p4, p5⟩ := push1 H R h4
  rw [p5] at h
  rcases List.mem_append.mp h with h | h
  · exact Or.inl (p1 a h)
  · exact Or.inr (List.mem_singleton.mp h)
def LPx (l : Launch) (g : XG) (nm : String) (b Ls : Nat) (xs : Nat → Int32) (e : Nat) : Prop := ∀ (sh : Nat → Sh) (mem : Mem) (G : GS) (v3 v4 v5 v6 v7 v8 v9 : Option Value), LayCc sh 0 → CR mem 0 G → HJ G → X l g (M_law nm) (LF g b Ls xs) 10 [some (.ref b), some (rf g 0), some (.int (nI e)), v3, v4, v5, v6, v7, v8, v9] [] none sh mem (410 + 4 * e) (134398 + 256 * e)
section
variable {l : Launch} {g : XG} {sh : Nat → Sh} {mem : Mem} {G : GS} {b Ls e : Nat} {xs : Nat → Int32} {nm : String} {u x v : Int32} {v5 v6 v7 v8 v9 : Option Value}
theorem law_tail (he : e < 28) (ih : LPx l g nm b Ls xs (e + 1)) (hL : LayCc sh 0) (hC : CR mem 0 G) (hH : HJ G) : X l g (M_law nm) (LF g b Ls xs) 166 [some (.ref b), some (rf g 0), some (.int (nI e)), some (.int u), some (.int x), v5, v6, v7, v8, v9] [] none sh mem (414 + 4 * e) (134654 + 256 * e) := by
  have hC0 : CI 0 mem G mem := ⟨hC, Fr.rf⟩
  have h12 := hC.1.1.1
  have h20 := hC.1.1.2.2
  have kk : ∀ (m : Mem) (G' : GS), CR m 0 G' → HJ G' → X l g (M_law nm) (LF g b Ls xs) 241 [some (.ref b), some (rf g 0), some (.int (nI e)), some (.int u), some (.int x), v5, v6, v7, v8, v9] [] none sh m (414 + 4 * e) (134654 + 256 * e) := by
    intro m G' hC' hH'
    refine x_iinc d_La_law_241 rfl (by first | exact inc1 _ | rfl) (show (2 : Nat) < 10 by decide) ?_
    refine x_goto (tgt := 10) d_La_law_244 (by decide) ?_
    exact x_widen (by omega) (by omega) (ih _ _ _ _ _ _ _ _ _ _ hL hC' hH')
  refine x_aload_n d_La_law_166 rfl ?_
  refine x_s1i d_La_law_167 ml_La_96 v_La_areas (lroom (C := 1000) (N := 200000) rfl (by omega) (by omega)) ⟨rfl, rfl⟩ rfl (Nat.le_of_ble_eq_true rfl) (ct_La_areas hL hC0.1 hH.1) (fun r167 mem167 h167 => ?_)
  obtain ⟨rfl, hC167⟩ := CI.st hC0 h167
  refine x_if_eq (tgt := 180) d_La_law_170 (by decide) (fun c170 => ?_) (fun c170 => ?_)
  · exact absurd c170 (by decide)
  · refine x_aload_n d_La_law_173 rfl ?_
    refine x_s1i d_La_law_174 ml_La_100 v_La_rooms (lroom (C := 1000) (N := 200000) rfl (by omega) (by omega)) ⟨rfl, rfl⟩ rfl (Nat.le_of_ble_eq_true rfl) (ct_La_rooms hL hC167.1 hH.1) (fun r174 mem174 h174 => ?_)
    obtain ⟨rfl, hC174⟩ := CI.st hC167 h174
    refine x_if_ne (tgt := 182) d_La_law_177 (by decide) (fun c177 => ?_) (fun c177 => ?_)
    · refine x_iload_n d_La_law_182 rfl ?_
      refine x_iconst (v := nI 4) d_La_law_183 (by decide) ?_
      refine x_irem d_La_law_184 (by decide) ?_
      refine x_iconst (v := nI 3) d_La_law_185 (by decide) ?_
      refine x_icmp_ne (tgt := 241) d_La_law_186 (by decide) (fun c186 => ?_) (fun c186 => ?_)
      · exact kk _ _ hC174.1 hH
      · refine x_aload_n d_La_law_189 rfl ?_
        refine x_iconst (v := nI 1) d_La_law_190 (by decide) ?_
        refine x_v1i d_La_law_191 ml_La_9 v_Cc_count (lroom (C := 1000) (N := 200000) rfl (by omega) (by omega)) ⟨rfl, rfl⟩ hL.io (Nat.le_of_ble_eq_true rfl) (ct_Cc_count hL hC174.1) (fun r191 mem191 h191 => ?_)
        obtain ⟨rfl, hC191⟩ := CI.st hC174 h191
        rw [vc_1]
        refine x_if_le (tgt := 241) d_La_law_194 (by decide) (fun c194 => ?_) (fun c194 => ?_)
        · exact kk _ _ hC191.1 hH
        · have p2 : 0 < G.1 2 := Nat.pos_of_ne_zero (fun z => c194 (by rw [z]; decide))
          refine x_aload_n d_La_law_197 rfl ?_
          refine x_iconst (v := nI 0) d_La_law_198 (by decide) ?_
          refine x_v1i d_La_law_199 ml_La_9 v_Cc_count (lroom (C := 1000) (N := 200000) rfl (by omega) (by omega)) ⟨rfl, rfl⟩ hL.io (Nat.le_of_ble_eq_true rfl) (ct_Cc_count hL hC191.1) (fun r199 mem199 h199 => ?_)
          obtain ⟨rfl, hC199⟩ := CI.st hC191 h199
          rw [vc_0]
          refine x_if_le (tgt := 241) d_La_law_202 (by decide) (fun c202 => ?_) (fun c202 => ?_)
          · exact kk _ _ hC199.1 hH
          · have p0 : 0 < G.1 0 := Nat.pos_of_ne_zero (fun z => c202 (by rw [z]; decide))
            refine x_aload_n d_La_law_205 rfl ?_
            refine x_iload d_La_law_206 rfl ?_
            refine x_aload_n d_La_law_208 rfl ?_
            refine x_iconst (v := nI 1) d_La_law_209 (by decide) ?_
            refine x_v1i d_La_law_210 ml_La_9 v_Cc_count (lroom (C := 1000) (N := 200000) rfl (by omega) (by omega)) ⟨rfl, rfl⟩ hL.io (Nat.le_of_ble_eq_true rfl) (ct_Cc_count hL hC199.1) (fun r210 mem210 h210 => ?_)
            obtain ⟨rfl, hC210⟩ := CI.st hC199 h210
            rw [vc_1]
            refine x_s2p d_La_law_213 ml_La_38 v_La_low (lroom (C := 1000) (N := 200000) rfl (by omega) (by omega)) ⟨rfl, rfl⟩ rfl (Nat.le_of_ble_eq_true rfl) (ct_La_low  (by omega) (by omega)) ?_
            refine x_iload_n d_La_law_216 rfl ?_
            refine x_aload_n d_La_law_217 rfl ?_
            refine x_iconst (v := nI 0) d_La_law_218 (by decide) ?_
            refine x_v1i d_La_law_219 ml_La_9 v_Cc_count (lroom (C := 1000) (N := 200000) rfl (by omega) (by omega)) ⟨rfl, rfl⟩ hL.io (Nat.le_of_ble_eq_true rfl) (ct_Cc_count hL hC210.1) (fun r219 mem219 h219 => ?_)
            obtain ⟨rfl, hC219⟩ := CI.st hC210 h219
            rw [vc_0]
            refine x_s2p d_La_law_222 ml_La_38 v_La_low (lroom (C := 1000) (N := 200000) rfl (by omega) (by omega)) ⟨rfl, rfl⟩ rfl (Nat.le_of_ble_eq_true rfl) (ct_La_low  (by omega) (by omega)) ?_
            refine x_iload d_La_law_225 rfl ?_
            refine x_iconst (v := nI 3) d_La_law_227 (by decide) ?_
            refine x_ishrN d_La_law_228 ?_
            refine x_iconst (v := nI 2) d_La_law_229 (by decide) ?_
            refine x_s2p d_La_law_230 ml_La_38 v_La_low (lroom (C := 1000) (N := 200000) rfl (by omega) (by omega)) ⟨rfl, rfl⟩ rfl (Nat.le_of_ble_eq_true rfl) (ct_La_low  (by omega) (by omega)) ?_
            have i2 : lowN (shN x 3) 2 < 2 := lowN_lt (by omega)
            refine x_s4i d_La_law_233 ml_La_102 v_La_again (lroom (C := 1000) (N := 200000) rfl (by omega) (by omega)) ⟨rfl, rfl⟩ rfl (Nat.le_of_ble_eq_true rfl) (ct_La_again hL hC219.1 hH.1 (lowN_lt p2) (lowN_lt p0) (show lowN (shN x 3) 2 ≤ 1 by omega)) (fun r233 m233 h233 => ?_)
            obtain ⟨rfl, H', hH', hC233⟩ := h233
            refine x_if_ne (tgt := 241) d_La_law_236 (by decide) (fun c236 => ?_) (fun c236 => ?_)
            · exact kk _ _ hC233.1 ⟨hH.1, fun a ha => hH.2 a (hH' a ha)⟩
            · exact absurd c236 (by decide)
    · exact absurd c177 (by decide)
theorem law_A (he : e < 28) (ih : LPx l g nm b Ls xs (e + 1)) (hL : LayCc sh 0) (hC : CR mem 0 G) (hH : HJ G) (hv : v < 0) {T' : List Nat} (hact : ∀ {sh : Nat → Sh} {m : Mem}, LayCc sh 0 → CR m 0 G → Ct l g M_La_act [rf g 0, .int u, .int x] none sh m (Ri none sh (CP 0 m (v, (G.1, G.2.1, G.2.2.1, T'))))) : X l g (M_law nm) (LF g b Ls xs) 35 [some (.ref b), some (rf g 0), some (.int (nI e)), some (.int u), some (.int x), v5, v6, v7, v8, v9] [] none sh mem (410 + 4 * e) (134398 + 256 * e) := by
  refine x_aload_n d_La_law_35 rfl ?_
  refine x_tellI hL hC (by omega) (by omega) d_La_law_36 (Nat.le_of_ble_eq_true rfl) (fun o5 m36 ho5 hT36 => ?_)
  obtain ⟨hA5, hL1⟩ := AT.new hL ho5 hT36
  have hC36 : CI 0 m36 G m36 := ⟨hT36.1, Fr.rf⟩
  generalize us sh o5 (.inr (.inl 64)) = sh1 at hA5 hL1 ⊢
  have h5 := hA5.1
  refine x_astore d_La_law_39 (show (5 : Nat) < 10 by decide) ?_
  refine x_aload_n d_La_law_41 rfl ?_
  refine x_bipush (v := nI 9) d_La_law_42 (by decide) ?_
  refine x_v1i d_La_law_44 ml_La_9 v_Cc_count (lroom (C := 1000) (N := 200000) rfl (by omega) (by omega)) ⟨rfl, rfl⟩ hL1.io (Nat.le_of_ble_eq_true rfl) (ct_Cc_count hL1 hC36.1) (fun r44 mem44 h44 => ?_)
  obtain ⟨rfl, hC44⟩ := CI.st hC36 h44
  rw [vc_9]
  refine x_istore d_La_law_47 (show (6 : Nat) < 10 by decide) ?_
  refine x_aload_n d_La_law_49 rfl ?_
  refine x_iload_n d_La_law_50 rfl ?_
  refine x_iload d_La_law_51 rfl ?_
  refine x_s3i d_La_law_53 ml_La_88 v_La_act (lroom (C := 1000) (N := 200000) rfl (by omega) (by omega)) ⟨rfl, rfl⟩ rfl (Nat.le_of_ble_eq_true rfl) (hact hL1 hC44.1) (fun r53 mem53 h53 => ?_)
  obtain ⟨rfl, hC53⟩ := CI.st hC44 h53
  refine x_istore d_La_law_56 (show (7 : Nat) < 10 by decide) ?_
  refine x_aload_n d_La_law_58 rfl ?_
  have hA5b := hA5.st hC53.2
  refine x_tellI hL1 hC53.1 (by omega) (by omega) d_La_law_59 (Nat.le_of_ble_eq_true rfl) (fun o8 m59 ho8 hT59 => ?_)
  obtain ⟨hA8, hL2⟩ := AT.new hL1 ho8 hT59
  have hA5c := hA5b.tell ho8 hT59
  have hC59 : CI 0 m59 (G.1, G.2.1, G.2.2.1, T') m59 := ⟨hT59.1, Fr.rf⟩
  generalize us sh1 o8 (.inr (.inl 64)) = sh2 at hA5c hA8 hL2 ⊢
  have h8 := hA8.1
  have h5b := hA5c.1
  refine x_astore d_La_law_62 (show (8 : Nat) < 10 by decide) ?_
  refine x_iload d_La_law_64 rfl ?_
  refine x_if_ge (tgt := 92) d_La_law_66 (by decide) (fun c66 => ?_) (fun c66 => ?_)
  · exact absurd hv (i_nlt.mpr c66)
  · refine x_aload d_La_law_69 rfl ?_
    refine x_aload d_La_law_71 rfl ?_
    refine x_s2p d_La_law_73 ml_La_92 v_La_same (lroom (C := 1000) (N := 200000) rfl (by omega) (by omega)) ⟨rfl, rfl⟩ rfl (Nat.le_of_ble_eq_true rfl) (ct_La_same h5b h8 (hA5c.eq hA8)) ?_
    refine x_if_eq (tgt := 90) d_La_law_76 (by decide) (fun c76 => ?_) (fun c76 => ?_)
    · exact absurd c76 (by decide)
    · refine x_aload_n d_La_law_79 rfl ?_
      refine x_bipush (v := nI 9) d_La_law_80 (by decide) ?_
      refine x_v1i d_La_law_82 ml_La_9 v_Cc_count (lroom (C := 1000) (N := 200000) rfl (by omega) (by omega)) ⟨rfl, rfl⟩ hL2.io (Nat.le_of_ble_eq_true rfl) (ct_Cc_count hL2 hC59.1) (fun r82 mem82 h82 => ?_)
      obtain ⟨rfl, hC82⟩ := CI.st hC59 h82
      rw [vc_9]
      refine x_iload d_La_law_85 rfl ?_
      refine x_icmp_eq (tgt := 92) d_La_law_87 (by decide) (fun c87 => ?_) (fun c87 => ?_)
      · refine x_iload d_La_law_92 rfl ?_
        refine x_if_lt (tgt := 166) d_La_law_94 (by decide) (fun c94 => ?_) (fun c94 => ?_)
        · exact x_widen (by omega) (by omega) (law_tail he ih hL2 hC82.1 ⟨hH.1, hH.2⟩)
        · exact absurd hv c94
      · exact absurd rfl c87
theorem law_B (he : e < 28) (ih : LPx l g nm b Ls xs (e + 1)) (hL : LayCc sh 0) (hC : CR mem 0 G) (hH : HJ G) (hv : ¬ v < 0) {R' : RS} (hJR : JJ R') {T' T2 : List Nat} {P : List RS} (p1 : ∀ a ∈ P, a ∈ G.2.1) (p2 : P.length ≤ 3) (p3 : G.2.1.length < 4 → P.length = G.2.1.length) (p4 : G.2.1.length = 4 → P.length = 3) (hact : ∀ {sh : Nat → Sh} {m : Mem}, LayCc sh 0 → CR m 0 G → Ct l g M_La_act [rf g 0, .int u, .int x] none sh m (Ri none sh (CP 0 m (v, (R', P ++ [G.1], G.2.2.1, T'))))) (hact2 : ∀ {sh : Nat → Sh} {m : Mem}, LayCc sh 0 → CR m 0 (G.1, P, G.2.2.1, T') → Ct l g M_La_act [rf g 0, .int u, .int x] none sh m (Ri none sh (CP 0 m (v, (R', pushH P G.1, G.2.2.1, T2))))) : X l g (M_law nm) (LF g b Ls xs) 35 [some (.ref b), some (rf g 0), some (.int (nI e)), some (.int u), some (.int x), v5, v6, v7, v8, v9] [] none sh mem (410 + 4 * e) (134398 + 256 * e) := by
  have h4 : G.2.1.length ≤ 4 := hC.2.2.1.1
  have hH1 : HJ (R', P ++ [G.1], G.2.2.1, T') := ⟨hJR, fun a ha => by
    rcases List.mem_append.mp ha with h | h
    · exact hH.2 a (p1 a h)
    · rw [List.mem_singleton.mp h]
      exact hH.1⟩
  have hH3 : HJ (R', pushH P G.1, G.2.2.1, T2) := ⟨hJR, fun a ha => by
    rcases push_mem (by omega) ha with h | h
    · exact hH.2 a (p1 a h)
    · rw [h]
      exact hH.1⟩
  refine x_aload_n d_La_law_35 rfl ?_
  refine x_tellI hL hC (by omega) (by omega) d_La_law_36 (Nat.le_of_ble_eq_true rfl) (fun o5 m36 ho5 hT36 => ?_)
  obtain ⟨hA5, hL1⟩ := AT.new hL ho5 hT36
  have hC36 : CI 0 m36 G m36 := ⟨hT36.1, Fr.rf⟩
  generalize us sh o5 (.inr (.inl 64)) = sh1 at hA5 hL1 ⊢
  have h5 := hA5.1
  refine x_astore d_La_law_39 (show (5 : Nat) < 10 by decide) ?_
  refine x_aload_n d_La_law_41 rfl ?_
  refine x_bipush (v := nI 9) d_La_law_42 (by decide) ?_
  refine x_v1i d_La_law_44 ml_La_9 v_Cc_count (lroom (C := 1000) (N := 200000) rfl (by omega) (by omega)) ⟨rfl, rfl⟩ hL1.io (Nat.le_of_ble_eq_true rfl) (ct_Cc_count hL1 hC36.1) (fun r44 mem44 h44 => ?_)
  obtain ⟨rfl, hC44⟩ := CI.st hC36 h44
  rw [vc_9]
  refine x_istore d_La_law_47 (show (6 : Nat) < 10 by decide) ?_
  refine x_aload_n d_La_law_49 rfl ?_
  refine x_iload_n d_La_law_50 rfl ?_
  refine x_iload d_La_law_51 rfl ?_
  refine x_s3i d_La_law_53 ml_La_88 v_La_act (lroom (C := 1000) (N := 200000) rfl (by omega) (by omega)) ⟨rfl, rfl⟩ rfl (Nat.le_of_ble_eq_true rfl) (hact hL1 hC44.1) (fun r53 mem53 h53 => ?_)
  obtain ⟨rfl, hC53⟩ := CI.st hC44 h53
  refine x_istore d_La_law_56 (show (7 : Nat) < 10 by decide) ?_
  refine x_aload_n d_La_law_58 rfl ?_
  have hA5b := hA5.st hC53.2
  refine x_tellI hL1 hC53.1 (by omega) (by omega) d_La_law_59 (Nat.le_of_ble_eq_true rfl) (fun o8 m59 ho8 hT59 => ?_)
  obtain ⟨hA8, hL2⟩ := AT.new hL1 ho8 hT59
  have hA5c := hA5b.tell ho8 hT59
  have hC59 : CI 0 m59 (R', P ++ [G.1], G.2.2.1, T') m59 := ⟨hT59.1, Fr.rf⟩
  generalize us sh1 o8 (.inr (.inl 64)) = sh2 at hA5c hA8 hL2 ⊢
  have h8 := hA8.1
  have h5b := hA5c.1
  refine x_astore d_La_law_62 (show (8 : Nat) < 10 by decide) ?_
  refine x_iload d_La_law_64 rfl ?_
  refine x_if_ge (tgt := 92) d_La_law_66 (by decide) (fun c66 => ?_) (fun c66 => ?_)
  · refine x_iload d_La_law_92 rfl ?_
    refine x_if_lt (tgt := 166) d_La_law_94 (by decide) (fun c94 => ?_) (fun c94 => ?_)
    · exact absurd c94 hv
    · refine x_iload_n d_La_law_97 rfl ?_
      refine x_iconst (v := nI 4) d_La_law_98 (by decide) ?_
      refine x_s2p d_La_law_99 ml_La_38 v_La_low (lroom (C := 1000) (N := 200000) rfl (by omega) (by omega)) ⟨rfl, rfl⟩ rfl (Nat.le_of_ble_eq_true rfl) (ct_La_low  (by omega) (by omega)) ?_
      refine x_if_ne (tgt := 166) d_La_law_102 (by decide) (fun c102 => ?_) (fun c102 => ?_)
      · exact x_widen (by omega) (by omega) (law_tail he ih hL2 hC59.1 hH1)
      · refine x_aload_n d_La_law_105 rfl ?_
        refine x_v0i d_La_law_106 ml_La_76 v_Cc_undo (lroom (C := 1000) (N := 200000) rfl (by omega) (by omega)) ⟨rfl, rfl⟩ hL2.io (Nat.le_of_ble_eq_true rfl) (ct_Cc_undoA hL2 hC59.1 rfl) (fun r106 mem106 h106 => ?_)
        obtain ⟨rfl, hC106⟩ := CI.st hC59 h106
        refine x_istore d_La_law_109 (show (9 : Nat) < 10 by decide) ?_
        refine x_aload_n d_La_law_111 rfl ?_
        have hA5d := hA5c.st hC106.2
        have hA8d := hA8.st hC106.2
        refine x_tellI hL2 hC106.1 (by omega) (by omega) d_La_law_112 (Nat.le_of_ble_eq_true rfl) (fun o3 m112 ho3 hT112 => ?_)
        obtain ⟨hA3, hL3⟩ := AT.new hL2 ho3 hT112
        have hA5e := hA5d.tell ho3 hT112
        have hA8e := hA8d.tell ho3 hT112
        have hC112 : CI 0 m112 (G.1, P, G.2.2.1, T') m112 := ⟨hT112.1, Fr.rf⟩
        generalize us sh2 o3 (.inr (.inl 64)) = sh3 at hA3 hA5e hA8e hL3 ⊢
        have h3 := hA3.1
        have h5c := hA5e.1
        have h8c := hA8e.1
        refine x_aload d_La_law_115 rfl ?_
        refine x_s2p d_La_law_117 ml_La_92 v_La_same (lroom (C := 1000) (N := 200000) rfl (by omega) (by omega)) ⟨rfl, rfl⟩ rfl (Nat.le_of_ble_eq_true rfl) (ct_La_same h3 h5c (hA3.eq hA5e)) ?_
        refine x_if_eq (tgt := 164) d_La_law_120 (by decide) (fun c120 => ?_) (fun c120 => ?_)
        · exact absurd c120 (by decide)
        · refine x_iload d_La_law_123 rfl ?_
          refine x_iload d_La_law_125 rfl ?_
          refine x_iconst (v := nI 4) d_La_law_127 (by decide) ?_
          refine x_icmp_ne (tgt := 135) d_La_law_128 (by decide) (fun c128 => ?_) (fun c128 => ?_)
          · have k4 : P.length = G.2.1.length := p3 (by have := nI_ne' c128; omega)
            refine x_iload d_La_law_135 rfl ?_
            refine x_icmp_ne (tgt := 164) d_La_law_137 (by decide) (fun c137 => ?_) (fun c137 => ?_)
            · exact absurd (congrArg nI k4) c137
            · refine x_aload_n d_La_law_140 rfl ?_
              refine x_iload_n d_La_law_141 rfl ?_
              refine x_iload d_La_law_142 rfl ?_
              refine x_s3i d_La_law_144 ml_La_88 v_La_act (lroom (C := 1000) (N := 200000) rfl (by omega) (by omega)) ⟨rfl, rfl⟩ rfl (Nat.le_of_ble_eq_true rfl) (hact2 hL3 hC112.1) (fun r144 mem144 h144 => ?_)
              obtain ⟨rfl, hC144⟩ := CI.st hC112 h144
              refine x_iload d_La_law_147 rfl ?_
              refine x_icmp_ne (tgt := 164) d_La_law_149 (by decide) (fun c149 => ?_) (fun c149 => ?_)
              · exact absurd rfl c149
              · refine x_aload_n d_La_law_152 rfl ?_
                have hA8f := hA8e.st hC144.2
                refine x_tellI hL3 hC144.1 (by omega) (by omega) d_La_law_153 (Nat.le_of_ble_eq_true rfl) (fun o4 m153 ho4 hT153 => ?_)
                obtain ⟨hA4, hL4⟩ := AT.new hL3 ho4 hT153
                have hA8g := hA8f.tell ho4 hT153
                have hC153 : CI 0 m153 (R', pushH P G.1, G.2.2.1, T2) m153 := ⟨hT153.1, Fr.rf⟩
                generalize us sh3 o4 (.inr (.inl 64)) = sh4 at hA4 hA8g hL4 ⊢
                have h4a := hA4.1
                have h8d := hA8g.1
                refine x_aload d_La_law_156 rfl ?_
                refine x_s2p d_La_law_158 ml_La_92 v_La_same (lroom (C := 1000) (N := 200000) rfl (by omega) (by omega)) ⟨rfl, rfl⟩ rfl (Nat.le_of_ble_eq_true rfl) (ct_La_same h4a h8d (hA4.eq hA8g)) ?_
                refine x_if_ne (tgt := 166) d_La_law_161 (by decide) (fun c161 => ?_) (fun c161 => ?_)
                · exact x_widen (by omega) (by omega) (law_tail he ih hL4 hC153.1 hH3)
                · exact absurd c161 (by decide)
          · have k4 : P.length = 3 := p4 (nI_eq' (by omega) (by omega) c128)
            refine x_iconst (v := nI 3) d_La_law_131 (by decide) ?_
            refine x_goto (tgt := 137) d_La_law_132 (by decide) ?_
            refine x_icmp_ne (tgt := 164) d_La_law_137 (by decide) (fun c137 => ?_) (fun c137 => ?_)
            · exact absurd (congrArg nI k4) c137
            · refine x_aload_n d_La_law_140 rfl ?_
              refine x_iload_n d_La_law_141 rfl ?_
              refine x_iload d_La_law_142 rfl ?_
              refine x_s3i d_La_law_144 ml_La_88 v_La_act (lroom (C := 1000) (N := 200000) rfl (by omega) (by omega)) ⟨rfl, rfl⟩ rfl (Nat.le_of_ble_eq_true rfl) (hact2 hL3 hC112.1) (fun r144 mem144 h144 => ?_)
              obtain ⟨rfl, hC144⟩ := CI.st hC112 h144
              refine x_iload d_La_law_147 rfl ?_
              refine x_icmp_ne (tgt := 164) d_La_law_149 (by decide) (fun c149 => ?_) (fun c149 => ?_)
              · exact absurd rfl c149
              · refine x_aload_n d_La_law_152 rfl ?_
                have hA8f := hA8e.st hC144.2
                refine x_tellI hL3 hC144.1 (by omega) (by omega) d_La_law_153 (Nat.le_of_ble_eq_true rfl) (fun o4 m153 ho4 hT153 => ?_)
                obtain ⟨hA4, hL4⟩ := AT.new hL3 ho4 hT153
                have hA8g := hA8f.tell ho4 hT153
                have hC153 : CI 0 m153 (R', pushH P G.1, G.2.2.1, T2) m153 := ⟨hT153.1, Fr.rf⟩
                generalize us sh3 o4 (.inr (.inl 64)) = sh4 at hA4 hA8g hL4 ⊢
                have h4a := hA4.1
                have h8d := hA8g.1
                refine x_aload d_La_law_156 rfl ?_
                refine x_s2p d_La_law_158 ml_La_92 v_La_same (lroom (C := 1000) (N := 200000) rfl (by omega) (by omega)) ⟨rfl, rfl⟩ rfl (Nat.le_of_ble_eq_true rfl) (ct_La_same h4a h8d (hA4.eq hA8g)) ?_
                refine x_if_ne (tgt := 166) d_La_law_161 (by decide) (fun c161 => ?_) (fun c161 => ?_)
                · exact x_widen (by omega) (by omega) (law_tail he ih hL4 hC153.1 hH3)
                · exact absurd c161 (by decide)
  · exact absurd (i_nle.mp c66) hv
theorem law_end (hL : LayCc sh 0) (hC : CR mem 0 G) {c n : Nat} (hc : c ≤ 1000) (hn : n ≤ 200000) {v2 v3 v4 : Option Value} : X l g (M_law nm) (LF g b Ls xs) 247 [some (.ref b), some (rf g 0), v2, v3, v4, v5, v6, v7, v8, v9] [] none sh mem c n := by
  have hC0 : CI 0 mem G mem := ⟨hC, Fr.rf⟩
  have h300 := hC.1.1.2.1
  have hsell : ∀ {m}, (h : CR m 0 G) → Ct l g M_Cc_sell [rf g 0, .int (nI 300)] none sh m (Ri none sh (CP 0 m (-1, G))) := fun {m} h => by
    have z := ct_Cc_sell (l := l) (g := g) hL h (x := nI 300)
    rw [show spSell G (nI 300) = (-1, G) from if_neg (fun z => nI_nlt (by omega) (by omega) z.1.2)] at z
    exact z
  refine x_aload_n d_La_law_247 rfl ?_
  refine x_iconst (v := -1) d_La_law_248 (by decide) ?_
  refine x_iconst (v := nI 0) d_La_law_249 (by decide) ?_
  refine x_v2i d_La_law_250 ml_La_73 v_Cc_offcut (lroom (C := 1000) (N := 200000) rfl (by omega) (by omega)) ⟨rfl, rfl⟩ hL.io (Nat.le_of_ble_eq_true rfl) (ct_Cc_offcut hL hC0.1) (fun r250 mem250 h250 => ?_)
  obtain ⟨rfl, hC250⟩ := CI.st hC0 h250
  rw [show vOffcut G.1 (-1) (nI 0) = -1 from if_neg (fun z => z.1.1 (by decide))]
  refine x_iconst (v := -1) d_La_law_253 (by decide) ?_
  refine x_icmp_ne (tgt := 284) d_La_law_254 (by decide) (fun c254 => ?_) (fun c254 => ?_)
  · exact absurd rfl c254
  · refine x_aload_n d_La_law_257 rfl ?_
    refine x_sipush (v := nI 300) d_La_law_258 (by decide) ?_
    refine x_v1i d_La_law_261 ml_La_64 v_Cc_sell (lroom (C := 1000) (N := 200000) rfl (by omega) (by omega)) ⟨rfl, rfl⟩ hL.io (Nat.le_of_ble_eq_true rfl) (hsell hC250.1) (fun r261 mem261 h261 => ?_)
    obtain ⟨rfl, hC261⟩ := CI.st hC250 h261
    refine x_iconst (v := -1) d_La_law_264 (by decide) ?_
    refine x_icmp_ne (tgt := 284) d_La_law_265 (by decide) (fun c265 => ?_) (fun c265 => ?_)
    · exact absurd rfl c265
    · refine x_aload_n d_La_law_268 rfl ?_
      refine x_iconst (v := -1) d_La_law_269 (by decide) ?_
      refine x_v1p d_La_law_270 ml_La_22 v_Cc_wasted (lroom (C := 1000) (N := 200000) rfl (by omega) (by omega)) ⟨rfl, rfl⟩ hL.io (Nat.le_of_ble_eq_true rfl) (ct_Cc_wasted hL hC261.1) ?_
      rw [show vWasted G.1 (-1) = MD1 from if_neg (fun z => z.1 (by decide))]
      refine x_ldc2d cd_La_106 d_La_law_273 ?_
      refine x_dcmp d_La_law_276 ?_
      refine x_if_ne (tgt := 284) d_La_law_277 (by decide) (fun c277 => ?_) (fun c277 => ?_)
      · exact absurd (by decide +kernel) c277
      · refine x_iconst (v := nI 1) d_La_law_280 (by decide) ?_
        refine x_goto (tgt := 285) d_La_law_281 (by decide) ?_
        exact x_lwret (by omega) (by omega) d_La_law_285
theorem law_loop (hLs : Ls ≤ 260) : ∀ e, e ≤ 28 → LPx l g nm b Ls xs e := by
  refine up_ind 28 (fun e he ih => ?_)
  intro sh mem G v3 v4 v5 v6 v7 v8 v9 hL hC hH
  refine x_iload_n d_La_law_10 rfl ?_
  refine x_bipush (v := nI 28) d_La_law_11 (by decide) ?_
  refine x_icmp_ge (tgt := 247) d_La_law_13 (by decide) (fun c13 => ?_) (fun c13 => ?_)
  · exact law_end hL hC (by omega) (by omega)
  · have he3 := nI_nle' (by omega) (by omega) c13
    refine x_aload_b d_La_law_16 rfl ?_
    refine x_iconst (v := nI 2) d_La_law_17 (by decide) ?_
    refine x_iload_n d_La_law_18 rfl ?_
    refine x_imul d_La_law_19 ?_
    rw [pk_mul]
    refine x_cellI (by omega) hLs (by omega) (by omega) d_La_law_20 (Nat.le_of_ble_eq_true rfl) (fun u => ?_)
    refine x_istore_n d_La_law_23 (show (3 : Nat) < 10 by decide) ?_
    refine x_aload_b d_La_law_24 rfl ?_
    refine x_iconst (v := nI 2) d_La_law_25 (by decide) ?_
    refine x_iload_n d_La_law_26 rfl ?_
    refine x_imul d_La_law_27 ?_
    rw [pk_mul]
    refine x_iconst (v := nI 1) d_La_law_28 (by decide) ?_
    refine x_iadd d_La_law_29 ?_
    rw [nI_add]
    refine x_cellI (by omega) hLs (by omega) (by omega) d_La_law_30 (Nat.le_of_ble_eq_true rfl) (fun x => ?_)
    refine x_istore d_La_law_33 (show (4 : Nat) < 10 by decide) ?_
    obtain ⟨v, R', hJR, hf⟩ := actF_AL hC.1 u x
    obtain ⟨T', hfT⟩ := hf G.2.1 G.2.2.1 G.2.2.2
    by_cases hv : v < 0
    · rw [if_pos hv] at hfT
      exact law_A he3 (ih he3) hL hC hH hv (fun {sh m} hL' hC' => by
        have z := ct_La_act (l := l) (g := g) hL' hC' (u := u) (x := x)
        rw [show actF G u x = (v, (G.1, G.2.1, G.2.2.1, T')) from hfT] at z
        exact z)
    · rw [if_neg hv] at hfT
      obtain ⟨P, p1, p2, p3, p4, p5⟩ := push1 G.2.1 G.1 hC.2.2.1.1
      obtain ⟨T2, hfT2⟩ := hf P G.2.2.1 T'
      rw [if_neg hv] at hfT2
      have e1 : actF G u x = (v, (R', P ++ [G.1], G.2.2.1, T')) := hfT.trans (by rw [← p5]; rfl)
      exact law_B he3 (ih he3) hL hC hH hv (hJR hH.1) p1 p2 p3 p4 (fun {sh m} hL' hC' => by
        have z := ct_La_act (l := l) (g := g) hL' hC' (u := u) (x := x)
        rw [e1] at z
        exact z) (fun {sh m} hL' hC' => by
        have z := ct_La_act (l := l) (g := g) hL' hC' (u := u) (x := x)
        rw [show actF (G.1, P, G.2.2.1, T') u x = (v, (R', pushH P G.1, G.2.2.1, T2)) from hfT2] at z
        exact z)
end
section
variable {l : Launch} {g : XG} {b Ls : Nat} {xs : Nat → Int32} {nm : String}
theorem law_begin (hLs : Ls ≤ 260) : X l g (M_law nm) (LF g b Ls xs) 0 [some (.ref b), none, none, none, none, none, none, none, none, none] [] (some 0) (fun _ => sh0) (fun _ _ => 0) 0 0 := by
  refine x_new ns_La_10 (List.cons_ne_nil _ _) d_La_law_0 (Nat.le_of_ble_eq_true rfl) (Nat.le_of_ble_eq_true rfl) ?_
  refine x_dup d_La_law_3 rfl ?_
  refine x_callI (M' := M_Cc_init) (As := []) d_La_law_4 ml_La_79 v_Cc_init rfl rfl rfl (Nat.le_of_ble_eq_true rfl) (ct_Cc_init (us_at _ _ _) (fun k => by rw [zm_at])) (fun v1 N1 sh1 mem1 q1 => ?_)
  obtain ⟨rfl, hN, a1, a2, a3, a4⟩ := q1
  have hN : N1 = some 410 := hN
  subst hN
  refine x_noN ?_
  refine x_astore_n d_La_law_7 (show (1 : Nat) < 10 by decide) ?_
  refine x_iconst (v := nI 0) d_La_law_8 (by decide) ?_
  refine x_istore_n d_La_law_9 (show (2 : Nat) < 10 by decide) ?_
  have hL : LayCc sh1 0 := fun i hi => a1 i hi
  have hC : CR mem1 0 G00 := CR_start (fun i hi k => a3 i hi k)
  exact x_widen (Nat.le_of_ble_eq_true rfl) (Nat.le_of_ble_eq_true rfl) (law_loop hLs 0 (by omega) sh1 mem1 G00 none none none none none none none hL hC ⟨R00_JJ, fun a ha => by cases ha⟩)
end
