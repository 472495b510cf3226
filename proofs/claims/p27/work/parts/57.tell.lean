/-! p27: what the law reads of a counter -/
def tellV (R : RS) (k : Nat) : Int32 := if k < 9 then vCount (R, [], none, []) (nI k) else if k < 14 then vCount (R, [], none, []) (nI (k + 2)) else if k < 38 then vRollOf R (nI ((k - 14) / 4)) (nI (if (k - 14) % 4 = 0 then 2 else if (k - 14) % 4 = 1 then 5 else if (k - 14) % 4 = 2 then 7 else 8)) else vRoom R (nI ((k - 38) / 2)) (nI (if (k - 38) % 2 = 0 then 3 else 8))
theorem cN_row (G : GS) {k : Nat} (hk : k ≤ 15) (h : k < 9 ∨ 11 ≤ k) : countN G k = countN (G.1, [], none, []) k := by
  rcases (show k = 0 ∨ k = 1 ∨ k = 2 ∨ k = 3 ∨ k = 4 ∨ k = 5 ∨ k = 6 ∨ k = 7 ∨ k = 8 ∨ k = 11 ∨ k = 12 ∨ k = 13 ∨ k = 14 ∨ k = 15 by omega) with rfl | rfl | rfl | rfl | rfl | rfl | rfl | rfl | rfl | rfl | rfl | rfl | rfl | rfl <;> rfl
theorem tV0 {G : GS} {k : Nat} (hk : k < 9) : vCount G (nI k) = tellV G.1 k := by
  unfold tellV
  rw [if_pos hk, vCount_at (by omega), vCount_at (by omega), cN_row G (by omega) (Or.inl hk)]
theorem tV1 {G : GS} {k : Nat} (hk : k < 5) : vCount G (nI (11 + k)) = tellV G.1 (9 + k) := by
  unfold tellV
  rw [if_neg (by omega), if_pos (by omega), show 9 + k + 2 = 11 + k by omega, vCount_at (by omega), vCount_at (by omega), cN_row G (by omega) (Or.inr (by omega))]
theorem tV2 {R : RS} {k d w : Nat} (hk : k < 6) (hd : (d = 0 ∧ w = 2) ∨ (d = 1 ∧ w = 5) ∨ (d = 2 ∧ w = 7) ∨ (d = 3 ∧ w = 8)) : vRollOf R (nI k) (nI w) = tellV R (14 + d + 4 * k) := by
  unfold tellV
  rw [if_neg (by omega), if_neg (by omega), if_pos (by omega), show (14 + d + 4 * k - 14) / 4 = k by omega, show (14 + d + 4 * k - 14) % 4 = d by omega]
  rcases hd with ⟨rfl, rfl⟩ | ⟨rfl, rfl⟩ | ⟨rfl, rfl⟩ | ⟨rfl, rfl⟩ <;> rfl
theorem tV3 {R : RS} {k d w : Nat} (hd : (d = 0 ∧ w = 3) ∨ (d = 1 ∧ w = 8)) : vRoom R (nI k) (nI w) = tellV R (38 + d + 2 * k) := by
  unfold tellV
  rw [if_neg (by omega), if_neg (by omega), if_neg (by omega), show (38 + d + 2 * k - 38) / 2 = k by omega, show (38 + d + 2 * k - 38) % 2 = d by omega]
  rcases hd with ⟨rfl, rfl⟩ | ⟨rfl, rfl⟩ <;> rfl
def TI (κ o : Nat) (mem0 : Mem) (G : GS) (n : Nat) (m : Mem) : Prop := CR m κ G ∧ (∀ k, k < n → m o k = tellV G.1 k) ∧ ∀ a, a ≠ o → (a < κ ∨ κ + 410 ≤ a) → m a = mem0 a
theorem TI.call {κ o n : Nat} {mem0 m m' : Mem} {G : GS} {v r : Int32} (ho : o < κ ∨ κ + 410 ≤ o) (h : TI κ o mem0 G n m) (q : CP κ m (v, G) r m') : r = v ∧ TI κ o mem0 G n m' := ⟨q.1, q.2.1, fun k hk => by rw [q.2.2 o ho]; exact h.2.1 k hk, fun a h1 h2 => (q.2.2 a h2).trans (h.2.2 a h1 h2)⟩
theorem TI.put {κ o n : Nat} {mem0 m : Mem} {G : GS} {v : Int32} (ho : o < κ ∨ κ + 410 ≤ o) (h : TI κ o mem0 G n m) (k : Nat) (hk : k = n) (hv : v = tellV G.1 k) : TI κ o mem0 G (k + 1) (um m o k v) := by
  subst hk
  refine ⟨h.1.mv (fun a h1 h2 => um_ne _ _ _ (by omega)), fun j hj => ?_, fun a h1 h2 => (um_ne _ _ _ h1).trans (h.2.2 a h1 h2)⟩
  by_cases hjk : j = k
  · subst hjk
    rw [um_eq]
    exact hv
  · rw [um_k _ _ hjk]
    exact h.2.1 j (by omega)
theorem TI.n {κ o n n' : Nat} {mem0 m : Mem} {G : GS} (h : TI κ o mem0 G n m) (e : n = n') : TI κ o mem0 G n' m := e ▸ h
/-- a row of 64 numbers comes, where nothing lay: what is told -/
def TQ (g : XG) (κ : Nat) (sh : Nat → Sh) (mem : Mem) (G : GS) : XP := fun v N' sh' m => ∃ o, v = some (rf g o) ∧ N' = none ∧ sh o = sh0 ∧ sh' = us sh o (.inr (.inl 64)) ∧ TI κ o mem G 62 m
section
variable {l : Launch} {g : XG} {sh : Nat → Sh} {mem : Mem} {κ : Nat} {G : GS}
theorem ct_La_tell (hL : LayCc sh κ) (hC : CR mem κ G) : Ct l g M_La_tell [rf g κ] none sh mem (TQ g κ sh mem G) := by
  refine x_begin rfl rfl rfl (by decide) rfl ?_
  refine x_bipush (v := nI 64) d_La_tell_0 (by decide) ?_
  refine x_newaF (na := 64) ac_int (by decide) (by decide) (by decide) d_La_tell_2 (by decide) (by decide) (fun o ho0 => ?_)
  have hs : us sh o (.inr (.inl 64)) o = .inr (.inl 64) := us_at _ _ _
  have ho : o < κ ∨ κ + 410 ≤ o := layCc_out hL ho0
  have hL1 : LayCc (us sh o (.inr (.inl 64))) κ := fun i hi => by rw [us_ne _ _ (by omega)]; exact hL i hi
  have hC1 : TI κ o mem G 0 (zm mem o) := ⟨hC.mv (fun a h1 h2 => zm_ne _ (by omega)), fun k hk => absurd hk (by omega), fun a h1 h2 => zm_ne _ h1⟩
  generalize hsh : us sh o (.inr (.inl 64)) = sh1 at hs hL1 ⊢
  refine x_astore_n d_La_tell_4 (by decide) ?_
  refine x_iconst (v := nI 0) d_La_tell_5 (by decide) ?_
  refine x_istore_n d_La_tell_6 (by decide) ?_
  refine up_ind 9 (P := fun j => ∀ m, TI κ o mem G j m → X l g M_La_tell (XF g (TQ g κ sh mem G) M_La_tell) 7 [some (rf g κ), some (rf g o), some (.int (nI j))] [] none sh1 m (0 + 1) (0 + 64)) (fun j hj ih m hCj => ?_) 0 (Nat.zero_le _) _ hC1
  refine x_iload_n d_La_tell_7 rfl ?_
  refine x_bipush (v := nI 9) d_La_tell_8 (by decide) ?_
  refine x_icmp_ge (tgt := 27) d_La_tell_10 (by decide) (fun c10 => ?_) (fun c10 => ?_)
  · have hj9 : j = 9 := by have := nI_le' (by omega) (by omega) c10; omega
    subst hj9
    refine x_iconst (v := nI 0) d_La_tell_27 (by decide) ?_
    refine x_istore_n d_La_tell_28 (by decide) ?_
    refine up_ind 5 (P := fun j => ∀ m, TI κ o mem G (9 + j) m → X l g M_La_tell (XF g (TQ g κ sh mem G) M_La_tell) 29 [some (rf g κ), some (rf g o), some (.int (nI j))] [] none sh1 m (0 + 1) (0 + 64)) (fun j hj ih m hCj => ?_) 0 (Nat.zero_le _) _ hCj
    refine x_iload_n d_La_tell_29 rfl ?_
    refine x_iconst (v := nI 5) d_La_tell_30 (by decide) ?_
    refine x_icmp_ge (tgt := 54) d_La_tell_31 (by decide) (fun c31 => ?_) (fun c31 => ?_)
    · have hj9 : j = 5 := by have := nI_le' (by omega) (by omega) c31; omega
      subst hj9
      refine x_iconst (v := nI 0) d_La_tell_54 (by decide) ?_
      refine x_istore_n d_La_tell_55 (by decide) ?_
      refine up_ind 6 (P := fun j => ∀ m, TI κ o mem G (14 + 4 * j) m → X l g M_La_tell (XF g (TQ g κ sh mem G) M_La_tell) 56 [some (rf g κ), some (rf g o), some (.int (nI j))] [] none sh1 m (0 + 1) (0 + 64)) (fun j hj ih m hCj => ?_) 0 (Nat.zero_le _) _ hCj
      refine x_iload_n d_La_tell_56 rfl ?_
      refine x_bipush (v := nI 6) d_La_tell_57 (by decide) ?_
      refine x_icmp_ge (tgt := 126) d_La_tell_59 (by decide) (fun c59 => ?_) (fun c59 => ?_)
      · have hj9 : j = 6 := by have := nI_le' (by omega) (by omega) c59; omega
        subst hj9
        refine x_iconst (v := nI 0) d_La_tell_126 (by decide) ?_
        refine x_istore_n d_La_tell_127 (by decide) ?_
        refine up_ind 12 (P := fun j => ∀ m, TI κ o mem G (38 + 2 * j) m → X l g M_La_tell (XF g (TQ g κ sh mem G) M_La_tell) 128 [some (rf g κ), some (rf g o), some (.int (nI j))] [] none sh1 m (0 + 1) (0 + 64)) (fun j hj ih m hCj => ?_) 0 (Nat.zero_le _) _ hCj
        refine x_iload_n d_La_tell_128 rfl ?_
        refine x_bipush (v := nI 12) d_La_tell_129 (by decide) ?_
        refine x_icmp_ge (tgt := 169) d_La_tell_131 (by decide) (fun c131 => ?_) (fun c131 => ?_)
        · have hj9 : j = 12 := by have := nI_le' (by omega) (by omega) c131; omega
          subst hj9
          refine x_aload_n d_La_tell_169 rfl ?_
          refine x_aretA rfl d_La_tell_170 (Nat.le_refl _) (Nat.le_refl _) ?_
          exact ⟨o, rfl, rfl, ho0, hsh.symm, hCj⟩
        · have hj3 := nI_nle' (by omega) (by omega) c131
          refine x_aload_n d_La_tell_134 rfl ?_
          refine x_bipush (v := nI 38) d_La_tell_135 (by decide) ?_
          refine x_iconst (v := nI 2) d_La_tell_137 (by decide) ?_
          refine x_iload_n d_La_tell_138 rfl ?_
          refine x_imul d_La_tell_139 ?_
          rw [pk_mul]
          refine x_iadd d_La_tell_140 ?_
          rw [nI_add]
          refine x_aload_n d_La_tell_141 rfl ?_
          refine x_iload_n d_La_tell_142 rfl ?_
          refine x_iconst (v := nI 3) d_La_tell_143 (by decide) ?_
          refine x_v2i d_La_tell_144 ml_La_19 v_Cc_room rfl ⟨rfl, rfl⟩ hL1.io (Nat.le_of_ble_eq_true rfl) (ct_Cc_room hL1 hCj.1) (fun r144 mem144 h144 => ?_)
          obtain ⟨rfl, hC144⟩ := TI.call ho hCj h144
          refine x_iast hs (vp_in_nI (by omega) (by omega)) d_La_tell_147 ?_
          rw [nI_clamp (by omega)]
          have hC147 := TI.put ho hC144 (38 + 2 * j) rfl (tV3 (d := 0) (w := 3) (by omega))
          refine x_aload_n d_La_tell_148 rfl ?_
          refine x_bipush (v := nI 39) d_La_tell_149 (by decide) ?_
          refine x_iconst (v := nI 2) d_La_tell_151 (by decide) ?_
          refine x_iload_n d_La_tell_152 rfl ?_
          refine x_imul d_La_tell_153 ?_
          refine x_iadd d_La_tell_154 ?_
          rw [pk_mul]
          refine x_aload_n d_La_tell_155 rfl ?_
          rw [nI_add]
          refine x_iload_n d_La_tell_156 rfl ?_
          refine x_bipush (v := nI 8) d_La_tell_157 (by decide) ?_
          refine x_v2i d_La_tell_159 ml_La_19 v_Cc_room rfl ⟨rfl, rfl⟩ hL1.io (Nat.le_of_ble_eq_true rfl) (ct_Cc_room hL1 hC147.1) (fun r159 mem159 h159 => ?_)
          obtain ⟨rfl, hC159⟩ := TI.call ho hC147 h159
          refine x_iast hs (vp_in_nI (by omega) (by omega)) d_La_tell_162 ?_
          rw [nI_clamp (by omega)]
          have hC162 := TI.put ho hC159 (39 + 2 * j) (by omega) (tV3 (d := 1) (w := 8) (by omega))
          refine x_iinc d_La_tell_163 rfl (by first | exact inc1 _ | rfl) (by decide) ?_
          refine x_goto (tgt := 128) d_La_tell_166 (by decide) ?_
          exact ih hj3 _ (hC162.n (by omega))
      · have hj3 := nI_nle' (by omega) (by omega) c59
        refine x_aload_n d_La_tell_62 rfl ?_
        refine x_bipush (v := nI 14) d_La_tell_63 (by decide) ?_
        refine x_iconst (v := nI 4) d_La_tell_65 (by decide) ?_
        refine x_iload_n d_La_tell_66 rfl ?_
        refine x_imul d_La_tell_67 ?_
        rw [pk_mul]
        refine x_iadd d_La_tell_68 ?_
        rw [nI_add]
        refine x_aload_n d_La_tell_69 rfl ?_
        refine x_iload_n d_La_tell_70 rfl ?_
        refine x_iconst (v := nI 2) d_La_tell_71 (by decide) ?_
        refine x_v2i d_La_tell_72 ml_La_15 v_Cc_rollOf rfl ⟨rfl, rfl⟩ hL1.io (Nat.le_of_ble_eq_true rfl) (ct_Cc_rollOf hL1 hCj.1) (fun r72 mem72 h72 => ?_)
        obtain ⟨rfl, hC72⟩ := TI.call ho hCj h72
        refine x_iast hs (vp_in_nI (by omega) (by omega)) d_La_tell_75 ?_
        rw [nI_clamp (by omega)]
        have hC75 := TI.put ho hC72 (14 + 4 * j) rfl (tV2 (d := 0) (w := 2) hj3 (by omega))
        refine x_aload_n d_La_tell_76 rfl ?_
        refine x_bipush (v := nI 15) d_La_tell_77 (by decide) ?_
        refine x_iconst (v := nI 4) d_La_tell_79 (by decide) ?_
        refine x_iload_n d_La_tell_80 rfl ?_
        refine x_imul d_La_tell_81 ?_
        rw [pk_mul]
        refine x_iadd d_La_tell_82 ?_
        rw [nI_add]
        refine x_aload_n d_La_tell_83 rfl ?_
        refine x_iload_n d_La_tell_84 rfl ?_
        refine x_iconst (v := nI 5) d_La_tell_85 (by decide) ?_
        refine x_v2i d_La_tell_86 ml_La_15 v_Cc_rollOf rfl ⟨rfl, rfl⟩ hL1.io (Nat.le_of_ble_eq_true rfl) (ct_Cc_rollOf hL1 hC75.1) (fun r86 mem86 h86 => ?_)
        obtain ⟨rfl, hC86⟩ := TI.call ho hC75 h86
        refine x_iast hs (vp_in_nI (by omega) (by omega)) d_La_tell_89 ?_
        rw [nI_clamp (by omega)]
        have hC89 := TI.put ho hC86 (15 + 4 * j) (by omega) (tV2 (d := 1) (w := 5) hj3 (by omega))
        refine x_aload_n d_La_tell_90 rfl ?_
        refine x_bipush (v := nI 16) d_La_tell_91 (by decide) ?_
        refine x_iconst (v := nI 4) d_La_tell_93 (by decide) ?_
        refine x_iload_n d_La_tell_94 rfl ?_
        refine x_imul d_La_tell_95 ?_
        rw [pk_mul]
        refine x_iadd d_La_tell_96 ?_
        rw [nI_add]
        refine x_aload_n d_La_tell_97 rfl ?_
        refine x_iload_n d_La_tell_98 rfl ?_
        refine x_bipush (v := nI 7) d_La_tell_99 (by decide) ?_
        refine x_v2i d_La_tell_101 ml_La_15 v_Cc_rollOf rfl ⟨rfl, rfl⟩ hL1.io (Nat.le_of_ble_eq_true rfl) (ct_Cc_rollOf hL1 hC89.1) (fun r101 mem101 h101 => ?_)
        obtain ⟨rfl, hC101⟩ := TI.call ho hC89 h101
        refine x_iast hs (vp_in_nI (by omega) (by omega)) d_La_tell_104 ?_
        rw [nI_clamp (by omega)]
        have hC104 := TI.put ho hC101 (16 + 4 * j) (by omega) (tV2 (d := 2) (w := 7) hj3 (by omega))
        refine x_aload_n d_La_tell_105 rfl ?_
        refine x_bipush (v := nI 17) d_La_tell_106 (by decide) ?_
        refine x_iconst (v := nI 4) d_La_tell_108 (by decide) ?_
        refine x_iload_n d_La_tell_109 rfl ?_
        refine x_imul d_La_tell_110 ?_
        rw [pk_mul]
        refine x_iadd d_La_tell_111 ?_
        rw [nI_add]
        refine x_aload_n d_La_tell_112 rfl ?_
        refine x_iload_n d_La_tell_113 rfl ?_
        refine x_bipush (v := nI 8) d_La_tell_114 (by decide) ?_
        refine x_v2i d_La_tell_116 ml_La_15 v_Cc_rollOf rfl ⟨rfl, rfl⟩ hL1.io (Nat.le_of_ble_eq_true rfl) (ct_Cc_rollOf hL1 hC104.1) (fun r116 mem116 h116 => ?_)
        obtain ⟨rfl, hC116⟩ := TI.call ho hC104 h116
        refine x_iast hs (vp_in_nI (by omega) (by omega)) d_La_tell_119 ?_
        rw [nI_clamp (by omega)]
        have hC119 := TI.put ho hC116 (17 + 4 * j) (by omega) (tV2 (d := 3) (w := 8) hj3 (by omega))
        refine x_iinc d_La_tell_120 rfl (by first | exact inc1 _ | rfl) (by decide) ?_
        refine x_goto (tgt := 56) d_La_tell_123 (by decide) ?_
        exact ih hj3 _ (hC119.n (by omega))
    · have hj3 := nI_nle' (by omega) (by omega) c31
      refine x_aload_n d_La_tell_34 rfl ?_
      refine x_bipush (v := nI 9) d_La_tell_35 (by decide) ?_
      refine x_iload_n d_La_tell_37 rfl ?_
      refine x_iadd d_La_tell_38 ?_
      rw [nI_add]
      refine x_aload_n d_La_tell_39 rfl ?_
      refine x_bipush (v := nI 11) d_La_tell_40 (by decide) ?_
      refine x_iload_n d_La_tell_42 rfl ?_
      refine x_iadd d_La_tell_43 ?_
      rw [nI_add]
      refine x_v1i d_La_tell_44 ml_La_9 v_Cc_count rfl ⟨rfl, rfl⟩ hL1.io (Nat.le_of_ble_eq_true rfl) (ct_Cc_count hL1 hCj.1) (fun r44 mem44 h44 => ?_)
      obtain ⟨rfl, hC44⟩ := TI.call ho hCj h44
      refine x_iast hs (vp_in_nI (by omega) (by omega)) d_La_tell_47 ?_
      rw [nI_clamp (by omega)]
      have hC47 := TI.put ho hC44 (9 + j) rfl (tV1 hj3)
      refine x_iinc d_La_tell_48 rfl (by first | exact inc1 _ | rfl) (by decide) ?_
      refine x_goto (tgt := 29) d_La_tell_51 (by decide) ?_
      exact ih hj3 _ hC47
  · have hj3 := nI_nle' (by omega) (by omega) c10
    refine x_aload_n d_La_tell_13 rfl ?_
    refine x_iload_n d_La_tell_14 rfl ?_
    refine x_aload_n d_La_tell_15 rfl ?_
    refine x_iload_n d_La_tell_16 rfl ?_
    refine x_v1i d_La_tell_17 ml_La_9 v_Cc_count rfl ⟨rfl, rfl⟩ hL1.io (Nat.le_of_ble_eq_true rfl) (ct_Cc_count hL1 hCj.1) (fun r17 mem17 h17 => ?_)
    obtain ⟨rfl, hC17⟩ := TI.call ho hCj h17
    refine x_iast hs (vp_in_nI (by omega) (by omega)) d_La_tell_20 ?_
    rw [nI_clamp (by omega)]
    have hC20 := TI.put ho hC17 j rfl (tV0 hj3)
    refine x_iinc d_La_tell_21 rfl (by first | exact inc1 _ | rfl) (by decide) ?_
    refine x_goto (tgt := 7) d_La_tell_24 (by decide) ?_
    exact ih hj3 _ hC20
end
