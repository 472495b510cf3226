/-! p27: the law's small methods -/
theorem cn_La_7 : Cond.constant R_La 7 2751509 ∈ tbG := tg2 188 (by decide +kernel) rfl
theorem cn_La_8 : Cond.constant R_La 8 2147483647 ∈ tbG := tg2 192 (by decide +kernel) rfl
def CI (κ : Nat) (mem0 : Mem) (G : GS) (m : Mem) : Prop := CR m κ G ∧ Fr κ (κ + 410) mem0 m
theorem CI.st {κ : Nat} {mem0 m m' : Mem} {G G' : GS} {v r : Int32} (h : CI κ mem0 G m) (q : CP κ m (v, G') r m') : r = v ∧ CI κ mem0 G' m' := ⟨q.1, q.2.1, h.2.tr q.2.2⟩
theorem CI.act {κ : Nat} {mem0 m m' : Mem} {G : GS} {q : Int32 × GS} {r : Int32} (h : CI κ mem0 G m) (k : CP κ m q r m') : r = q.1 ∧ CI κ mem0 q.2 m' := ⟨k.1, k.2.1, h.2.tr k.2.2⟩
theorem i2c_at {k : Nat} (h : k < 65536) : ((nI k).toUInt32 % 65536).toInt32 = nI k := by
  have e : (nI k).toUInt32 % 65536 = (nI k).toUInt32 := by
    refine UInt32.toNat_inj.mp ?_
    rw [UInt32.toNat_mod]
    have e2 : (nI k).toUInt32.toNat = k := by
      show (UInt32.ofNat k).toNat = k
      rw [UInt32.toNat_ofNat_of_lt' (by show k < 4294967296; omega)]
    rw [e2]
    exact Nat.mod_eq_of_lt h
  rw [e]
  rfl
def nzS (x : Sh) : Bool := match x with
  | .inl (_, fs) => !fs.isEmpty
  | .inr _ => true
theorem nz_Ro {ρ i : Nat} (h : i < 17) : nzS (lay_Ro ρ i) = true := by
  rcases (show i = 0 ∨ i = 1 ∨ i = 2 ∨ i = 3 ∨ i = 4 ∨ i = 5 ∨ i = 6 ∨ i = 7 ∨ i = 8 ∨ i = 9 ∨ i = 10 ∨ i = 11 ∨ i = 12 ∨ i = 13 ∨ i = 14 ∨ i = 15 ∨ i = 16 by omega) with rfl | rfl | rfl | rfl | rfl | rfl | rfl | rfl | rfl | rfl | rfl | rfl | rfl | rfl | rfl | rfl | rfl
  all_goals rfl
theorem nz_Of {ρ i : Nat} (h : i < 9) : nzS (lay_Of ρ i) = true := by
  unfold lay_Of
  repeat' split
  all_goals first | rfl | omega
theorem nz_Rm {ρ i : Nat} (h : i < 19) : nzS (lay_Rm ρ i) = true := by
  rcases (show i = 0 ∨ i = 1 ∨ i = 2 ∨ i = 3 ∨ i = 4 ∨ i = 5 ∨ i = 6 ∨ i = 7 ∨ i = 8 ∨ i = 9 ∨ i = 10 ∨ i = 11 ∨ i = 12 ∨ i = 13 ∨ i = 14 ∨ i = 15 ∨ i = 16 ∨ i = 17 ∨ i = 18 by omega) with rfl | rfl | rfl | rfl | rfl | rfl | rfl | rfl | rfl | rfl | rfl | rfl | rfl | rfl | rfl | rfl | rfl | rfl | rfl
  all_goals rfl
theorem nz_Bk {ρ i : Nat} (h : i < 48) : nzS (lay_Bk ρ i) = true := by
  unfold lay_Bk
  repeat' split
  all_goals first | exact nz_Ro (by omega) | exact nz_Of (by omega) | exact nz_Rm (by omega) | omega | rfl
theorem nz_Hi {ρ i : Nat} (h : i < 194) : nzS (lay_Hi ρ i) = true := by
  unfold lay_Hi
  repeat' split
  all_goals first | exact nz_Bk (by omega) | omega | rfl
theorem nz_Te {ρ i : Nat} (h : i < 22) : nzS (lay_Te ρ i) = true := by
  unfold lay_Te
  repeat' split
  all_goals first | exact nz_Rm (by omega) | omega | rfl
theorem nz_Ch {ρ i : Nat} (h : i < 1) : nzS (lay_Ch ρ i) = true := by
  unfold lay_Ch
  repeat' split
  all_goals first | rfl | omega
theorem nz_Cc {ρ i : Nat} (h : i < 410) : nzS (lay_Cc ρ i) = true := by
  unfold lay_Cc
  by_cases h0 : i = 0
  · rw [if_pos h0]
    rfl
  rw [if_neg h0]
  by_cases h1 : i < 49
  · rw [if_pos h1]
    exact nz_Bk (by omega)
  rw [if_neg h1]
  by_cases h2 : i < 97
  · rw [if_pos h2]
    exact nz_Bk (by omega)
  rw [if_neg h2]
  by_cases h3 : i < 145
  · rw [if_pos h3]
    exact nz_Bk (by omega)
  rw [if_neg h3]
  by_cases h4 : i < 193
  · rw [if_pos h4]
    exact nz_Bk (by omega)
  rw [if_neg h4]
  by_cases h5 : i < 387
  · rw [if_pos h5]
    exact nz_Hi (by omega)
  rw [if_neg h5]
  by_cases h6 : i < 409
  · rw [if_pos h6]
    exact nz_Te (by omega)
  rw [if_neg h6]
  by_cases h7 : i < 410
  · rw [if_pos h7]
    exact nz_Ch (by omega)
  rw [if_neg h7]
  omega
theorem layCc_out {sh : Nat → Sh} {κ o : Nat} (hL : LayCc sh κ) (h0 : sh o = sh0) : o < κ ∨ κ + 410 ≤ o := by
  by_cases h : o < κ ∨ κ + 410 ≤ o
  · exact h
  · have h1 := hL (o - κ) (by omega)
    rw [show κ + (o - κ) = o by omega, h0] at h1
    have h2 := nz_Cc (ρ := κ) (i := o - κ) (by omega)
    rw [← h1] at h2
    exact absurd h2 (by decide)
-- a method that reads the script
def CtS (l : Launch) (g : XG) (M : Mt) (as : List Value) (N : Option Nat) (sh : Nat → Sh) (mem : Mem) (b Ls : Nat) (xs : Nat → Int32) (Q : XP) : Prop := Met l M.2.1 (Cond.code M.2.1 M.2.2.1 M.2.2.2.1 M.2.2.2.2.1 :: tbG) M.2.2.2.2.2 (va_Pc as (fun U => xPre g N sh mem U ∧ Scr g b Ls xs U)) (QQ g Q) M.2.2.2.2.2.cells M.2.2.2.2.2.slots (xA g)
theorem x_gf {l : Launch} {g : XG} {M : Mt} {F : XFin} {Φ : Array Value → State → Prop} {pc : Nat} {L : List (Option Value)} {st : List Value} {N : Option Nat} {sh : Nat → Sh} {mem : Mem} {c n : Nat} (h : X l g M F pc L st N sh mem c n) : X l g M (GF Φ F) pc L st N sh mem c n := fun p e s m args below meth cd H locs ls C hW hS hL => gf_end (h p e s m args below meth cd H locs ls C hW hS hL)
theorem x_enterS {l : Launch} {g : XG} {M : Mt} {N : Option Nat} {sh : Nat → Sh} {mem : Mem} {Q : XP} {b Ls : Nat} {xs : Nat → Int32} {as : List Value} {L0 : List (Option Value)} (hL0 : as.map some ++ List.replicate (M.2.2.2.1 - as.length) none = L0) (hcat : ∀ v ∈ as, v.category = 1) (hlen : as.length ≤ M.2.2.2.1) (hy : plainName M.2.1.cls = true) (hown : M.1 = M.2.1.cls) (h : X l g M (GF (fun _ s => Scr g b Ls xs s) (XF g Q M)) 0 L0 [] N sh mem 0 0) : CtS l g M as N sh mem b Ls xs Q := by
  refine Met.ofW (cc := M.2.2.1) (maxL := M.2.2.2.1) (ret := M.2.2.2.2.1) hy rfl ?_
  intro p e s m args below meth c s₁ B hml hv
  obtain ⟨rfl, ⟨hWd, hK, hz⟩, hScr⟩ := hv
  have hts := atoms_spec (ws := Cond.code M.2.1 M.2.2.1 M.2.2.2.1 M.2.2.2.2.1 :: tbG) B.pre
  have hl := lv_entry as (n := M.2.2.2.1) (by rw [lg_sl1 as hcat]; exact hlen)
  rw [lg_entry_eq]
  generalize (lg_sl as ++ List.replicate (M.2.2.2.1 - (lg_sl as).length) Slot.unset).toArray = ls at hl ⊢
  have hf : s.vm.findClass M.2.1.cls = some m.cls := findClass_of_methodNamed B.named
  have hw := h p e s m as.toArray below meth c s.heap [] ls ⟨B.exec, B.bytes, hml, by rw [hown]; exact hf, B.returns, B.notSynchronized, (name_of_methodNamed B.named B.method).1, fun w hw => hts w (List.mem_cons_of_mem _ hw), hK, hz⟩ hWd va_S.rf ⟨hl.1, hl.2.1, fun i v hi => by
    subst hL0
    by_cases hia : i < as.length
    · have h1 : (as.map some ++ List.replicate (M.2.2.2.1 - as.length) none)[i]? = (as.map some)[i]? := List.getElem?_append_left (by simpa using hia)
      rw [h1, List.getElem?_map] at hi
      cases ha : as[i]? with
      | none => rw [ha] at hi; cases hi
      | some w =>
        rw [ha] at hi
        have hw : w = v := Option.some.inj (Option.some.inj hi)
        subst hw
        have h2 := lv_args1 as 0 hcat i w ha
        rw [Nat.zero_add] at h2
        exact ⟨hl.2.2 _ h2, hcat w (List.mem_of_getElem? ha)⟩
    · rw [List.getElem?_append_right (by simpa using hia), List.getElem?_replicate] at hi
      split at hi <;> cases hi⟩
  intro T hT X0
  obtain ⟨t, st, z⟩ := hw T hT X0
  exact ⟨t, st, z hScr⟩
theorem scr_blind (g : XG) (as : List Value) (N : Option Nat) (sh : Nat → Sh) (mem : Mem) (b Ls : Nat) (xs : Nat → Int32) : FrameBlind (va_Pc as (fun U => xPre g N sh mem U ∧ Scr g b Ls xs U)) := fun a U g1 mk h => ⟨h.1, ⟨h.2.1.1, Kd.same (u := U) (U := U.calling g1 mk a) rfl h.2.1.2.1, h.2.1.2.2⟩, ⟨va_X.moved (u := U) (U := U.calling g1 mk a) (Vm.Alike.refl U.vm) h.2.2.1, h.2.2.2⟩⟩
theorem x_callSS {l : Launch} {g : XG} {M M' : Mt} {F : XFin} {Φ : Array Value → State → Prop} {pc idx b Ls : Nat} {xs : Nat → Int32} {L : List (Option Value)} {st rest : List Value} {N : Option Nat} {sh : Nat → Sh} {mem : Mem} {c n : Nat} {Q' : XP} {As : List Value} (hΦ : ∀ args s, Φ args s → Scr g b Ls xs s) (hdg : decode M.2.2.1 pc = .ok (.invokestatic idx, 3)) (hl : Cond.methodLink M.1 idx M'.2.1 ∈ tbG) (hv : VS M'.2.1 M'.2.2.1 M'.2.2.2.1 M'.2.2.2.2.1 As.length) (hR : roomB M M' c n = true) (hown : M'.2.1.cls = M.1) (hst : st = As.reverse ++ rest) (hw : (rest.map fun v => v.category).sum ≤ 8) (hc : CtS l g M' As N sh mem b Ls xs Q')
    (kk : ∀ (v : Option Value) (N' : Option Nat) (sh' : Nat → Sh) (mem' : Mem), Q' v N' sh' mem' → X l g M (GF Φ F) (pc + 3) L (v.toList ++ rest) N' sh' mem' (c + M'.2.2.2.2.2.cells) (n + M'.2.2.2.2.2.slots)) : X l g M (GF Φ F) pc L st N sh mem c n := by
  intro p e s m args below meth cd H locs ls C hW hS hL
  refine gf_by (fun hx => ?_)
  obtain ⟨x1, x2, x3⟩ := hΦ _ _ hx
  have hts := C.2.2.2.2.2.2.2.1
  have hK := C.2.2.2.2.2.2.2.2.1
  obtain ⟨hd, hv1, hv3, hv4⟩ := hv
  obtain ⟨hR1, hR2⟩ := roomB_ok hR
  subst hst
  rw [hown] at hv3
  refine w_call (va_runS (S := ⟨C.1, C.2.1, rfl, C.2.2.2.1, hts⟩) (hM := hc) (As := As) (rest := rest) (cwS As.length hts (good_ws (own := M.1) (idx := idx) [.methodLink M.1 idx M'.2.1, .static M'.2.1, .initialized M.1] (fun w hw => by
      simp only [List.mem_cons, List.not_mem_nil, or_false] at hw
      rcases hw with h | h | h <;> rw [h]
      · exact hl
      · exact hv1
      · exact hv3) hv4) rfl rfl rfl ⟨hown, hd⟩ hR1) ⟨scr_blind g _ N sh mem b Ls xs, fun U hU hW1 => ⟨rfl, ⟨by rw [hU]; exact hW, hK.warm hW1, by rw [hU]; exact Nat.le_trans C.2.2.2.2.2.2.2.2.2 hS.1⟩, ⟨by rw [hU]; exact va_X.moved hW1.alike (x1.kept (hS.2.1 b x2 x3)), by rw [hU]; exact Nat.lt_of_lt_of_le x2 hS.1, x3⟩⟩⟩ rfl rfl (by rw [C.2.2.1]; exact hL.1) rfl (by show 2 * 0 + _ ≤ 8; omega) hdg hR2) hS fun v N' sh' mem' H1 locs1 hQ hW1 hS1 => ?_
  exact kk v N' sh' mem' hQ _ _ _ _ _ _ _ _ _ _ _ C hW1 hS1 hL
theorem x_ishrN {l : Launch} {g : XG} {M : Mt} {F : XFin} {pc k : Nat} {L : List (Option Value)} {st : List Value} {N : Option Nat} {sh : Nat → Sh} {mem : Mem} {c n : Nat} {x : Int32} (hdg : decode M.2.2.1 pc = .ok (.ishr, 1)) (kk : X l g M F (pc + 1) L (.int (shN x k) :: st) N sh mem c n) : X l g M F pc L (.int (nI k) :: .int x :: st) N sh mem c n := x_ishr hdg kk
section
variable {l : Launch} {g : XG} {sh : Nat → Sh} {mem : Mem}
theorem ct_La_low {v : Int32} {m : Nat} (h0 : 0 < m) (hm : m < 2 ^ 31) : Ct l g M_La_low [.int v, .int (nI m)] none sh mem (Pq (.int (nI (lowN v m))) none sh mem) := by
  refine x_begin rfl rfl rfl (by decide) rfl ?_
  refine x_iload_n d_La_low_0 rfl ?_
  refine x_ldc cn_La_8 d_La_low_1 ?_
  refine x_iand d_La_low_3 ?_
  rw [pk_and v 31 (by decide)]
  refine x_iload_n d_La_low_4 rfl ?_
  refine x_irem d_La_low_5 (nI_ne0 h0 hm) ?_
  rw [pk_rem (Nat.mod_lt _ (by decide)) h0 hm]
  refine x_iret rfl rfl d_La_low_6 (Nat.zero_le _) (Nat.zero_le _) ?_
  exact ⟨rfl, rfl, rfl, rfl⟩
theorem ct_La_cell {b Ls k : Nat} {xs : Nat → Int32} (hk : k < 1000) (hLs : Ls ≤ 260) : CtS l g M_La_cell [.ref b, .int (nI k)] none sh mem b Ls xs (Ri none sh (fun _ m => m = mem)) := by
  refine x_enterS rfl (by intro v hv; simp only [List.mem_cons, List.not_mem_nil, or_false] at hv; rcases hv with rfl | rfl <;> rfl) (show 2 ≤ 2 by decide) (by decide) rfl ?_
  refine x_iload_n d_La_cell_0 rfl ?_
  refine x_aload_b d_La_cell_1 rfl ?_
  refine x_slen (fun _ _ h => h) d_La_cell_2 ?_
  refine x_icmp_ge (tgt := 12) d_La_cell_3 (by decide) (fun c3 => ?_) (fun c3 => ?_)
  · refine x_ldc cn_La_7 d_La_cell_12 ?_
    refine x_iload_n d_La_cell_14 rfl ?_
    refine x_imul d_La_cell_15 ?_
    refine x_sipush (v := nI 1979) d_La_cell_16 (by decide) ?_
    refine x_iadd d_La_cell_19 ?_
    exact x_gf (x_iret rfl rfl d_La_cell_20 (Nat.zero_le _) (Nat.zero_le _) ⟨_, rfl, rfl, rfl, rfl⟩)
  · have hlt := nI_nle' (by omega) (by omega) c3
    refine x_aload_b d_La_cell_6 rfl ?_
    refine x_iload_n d_La_cell_7 rfl ?_
    refine x_sld (fun _ _ h => h) hlt hLs d_La_cell_8 ?_
    refine x_goto (tgt := 20) d_La_cell_9 (by decide) ?_
    exact x_gf (x_iret rfl rfl d_La_cell_20 (Nat.zero_le _) (Nat.zero_le _) ⟨_, rfl, rfl, rfl, rfl⟩)
theorem ct_La_same {a b : Nat} (h1 : sh a = .inr (.inl 64)) (h2 : sh b = .inr (.inl 64)) (he : ∀ k, k < 62 → mem a k = mem b k) : Ct l g M_La_same [rf g a, rf g b] none sh mem (Pq (.int (nI 1)) none sh mem) := by
  refine x_begin rfl rfl rfl (by decide) rfl ?_
  refine x_iconst (v := nI 0) d_La_same_0 (by decide) ?_
  refine x_istore_n d_La_same_1 (by decide) ?_
  refine up_ind 62 (P := fun j => X l g M_La_same (XF g (Pq (.int (nI 1)) none sh mem) M_La_same) 2 [some (rf g a), some (rf g b), some (.int (nI j))] [] none sh mem 0 0) (fun j hj ih => ?_) 0 (Nat.zero_le _)
  refine x_iload_n d_La_same_2 rfl ?_
  refine x_bipush (v := nI 62) d_La_same_3 (by decide) ?_
  refine x_icmp_ge (tgt := 25) d_La_same_5 (by decide) (fun c5 => ?_) (fun c5 => ?_)
  · refine x_iconst (v := nI 1) d_La_same_25 (by decide) ?_
    refine x_iret rfl (by decide) d_La_same_26 (Nat.zero_le _) (Nat.zero_le _) ?_
    exact ⟨rfl, rfl, rfl, rfl⟩
  · have hj3 := nI_nle' (by omega) (by omega) c5
    refine x_aload_n d_La_same_8 rfl ?_
    refine x_iload_n d_La_same_9 rfl ?_
    refine x_iald h1 (vp_in_nI (by omega) (by omega)) d_La_same_10 ?_
    rw [nI_clamp (by omega)]
    refine x_aload_n d_La_same_11 rfl ?_
    refine x_iload_n d_La_same_12 rfl ?_
    refine x_iald h2 (vp_in_nI (by omega) (by omega)) d_La_same_13 ?_
    rw [nI_clamp (by omega)]
    refine x_icmp_eq (tgt := 19) d_La_same_14 (by decide) (fun c14 => ?_) (fun c14 => ?_)
    · refine x_iinc d_La_same_19 rfl (by first | exact inc1 _ | rfl) (by decide) ?_
      refine x_goto (tgt := 2) d_La_same_22 (by decide) ?_
      exact ih hj3
    · exact absurd (he j hj3) c14
end
