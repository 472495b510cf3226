/-! THE LAW: the arms of its switch -/
theorem inc5 (a : Nat) : nI a + Int32.ofInt 5 = nI (a + 5) := by
  rw [show Int32.ofInt 5 = nI 5 by decide]
  exact nI_add a 5
theorem MR.mv {mem m : Mem} {μ : Nat} {G : GS} (h : MR mem μ G) (hm : ∀ o, μ ≤ o → o < μ + 8 → m o = mem o) : MR m μ G := by
  obtain ⟨h1, h2, ⟨a1, a2, a3⟩, ⟨t1, t2, t3⟩, h5⟩ := h
  have e0 := hm μ (by omega) (by omega)
  refine ⟨h1, h2.mv (hm _ (by omega) (by omega)), ⟨a1, by rw [e0]; exact a2, fun t R ht => ⟨(a3 t R ht).1, fun i hi => by rw [hm _ (by omega) (by omega)]; exact (a3 t R ht).2 i hi⟩⟩, ⟨t1, by rw [e0]; exact t2, fun i c hi => by rw [hm _ (by omega) (by omega)]; exact t3 i c hi⟩, ?_⟩
  cases hS : G.2.2.1 with
  | none => rw [hS] at h5; exact (congrFun e0 10).trans h5
  | some S =>
    rw [hS] at h5
    exact ⟨(congrFun e0 10).trans h5.1, h5.2.1, h5.2.2.mv (hm _ (by omega) (by omega))⟩
section
variable {l : Launch} {g : XG} {M M' : Mt} {pc : Nat} {rest : List Value} {N : Option Nat} {sh : Nat → Sh} {mem : Mem} {k n idx : Nat} {Q' : XP} {As : List Value}
theorem w_callV {p : Program} {e : Env} {s : State} {m : MethodId} {args : Array Value} {below : List Frame} {meth : Method} {c : Code} {H : Heap} {locs : List Loc} {ls : Array Slot} {Qf : State → Prop} {o ci : Nat} {fs : List (Option (Option Nat))} (C : Cx g M p s m args meth c) (hW : Wd g N sh mem H) (hS : va_S (xA g) s.heap H locs) (hsz : ls.size = M.2.2.2.1) (hdg : decode M.2.2.1 pc = .ok (.invokevirtual idx, 3)) (hl : Cond.methodLink M.1 idx M'.2.1 ∈ tbG) (hv : VI M'.2.1 M'.2.2.1 M'.2.2.2.1 M'.2.2.2.2.1 As.length) (hR : roomB M M' k n = true) (hs : sh o = .inl (ci, fs)) (hne : fs ≠ []) (hcl : (vwCl[ci]?).map (fun q => q.1) = some M'.2.1.cls) (hw : (rest.map fun v => v.category).sum ≤ 8) (hc : Ct l g M' (rf g o :: As) N sh mem Q')
    (kk : ∀ (v : Option Value) (N' : Option Nat) (sh' : Nat → Sh) (mem' : Mem) (H1 : Heap) (locs1 : List Loc), Q' v N' sh' mem' → Wd g N' sh' mem' H1 → va_S (xA g) s.heap H1 locs1 → W p l e M.2.2.2.2.2 s m args below meth c H1 locs1 (k + M'.2.2.2.2.2.cells) (n + M'.2.2.2.2.2.slots) Qf (F0 m (pc + 3) ls (v.toList ++ rest))) : W p l e M.2.2.2.2.2 s m args below meth c H locs k n Qf (F0 m pc ls (As.reverse ++ rf g o :: rest)) := by
  have hts := C.2.2.2.2.2.2.2.1
  have hK := C.2.2.2.2.2.2.2.2.1
  obtain ⟨hd, hv1, hv2, hv3, hv4⟩ := hv
  obtain ⟨hR1, hR2⟩ := roomB_ok hR
  have hat := hW.2 o (obj_ne hs hne)
  rw [hs] at hat
  obtain ⟨q, hq⟩ : ∃ q, vwCl[ci]? = some q := by
    cases h : vwCl[ci]? with
    | none => rw [h] at hcl; cases hcl
    | some q => exact ⟨q, rfl⟩
  have hq1 : q.1 = M'.2.1.cls := by rw [hq] at hcl; exact Option.some.inj hcl
  have hrv := va_recv hK.1 (va_P1 hat) hq (q0 := 0) rfl
  rw [hq1] at hrv
  exact w_call (va_runV (S := ⟨C.1, C.2.1, rfl, C.2.2.2.1, hts⟩) (hM := hc) (As := As) (rest := rest) (b := g.2.1 + o) (C := M'.2.1.cls) (cwV As.length hts (good_ws (own := M.1) (idx := idx) [.methodLink M.1 idx M'.2.1, .instanceMethod M'.2.1, .selects M'.2.1.cls M'.2.1 M'.2.1, .initialized M'.2.1.cls] (fun w hw => by
      simp only [List.mem_cons, List.not_mem_nil, or_false] at hw
      rcases hw with h | h | h | h <;> rw [h]
      · exact hl
      · exact hv1
      · exact hv2
      · exact hv3) hv4) rfl rfl rfl ⟨rfl, hd⟩ hR1) ⟨xPre_blind g _ N sh mem, hrv, fun U hU hW1 => ⟨rfl, by rw [hU]; exact hW, hK.warm hW1, by rw [hU]; exact Nat.le_trans C.2.2.2.2.2.2.2.2.2 hS.1⟩⟩ rfl rfl (by rw [C.2.2.1]; exact hsz) rfl (by show 2 * 0 + _ ≤ 8; omega) hdg hR2) hS kk
end
section
variable {l : Launch} {g : XG} {sh : Nat → Sh} {mem : Mem} {G : GS} {b Ls i : Nat} {xs : Nat → Int32} {nm : String}
abbrev LX (l : Launch) (g : XG) (nm : String) (b Ls : Nat) (xs : Nat → Int32) (sh : Nat → Sh) (i pc : Nat) (st : List Value) (mem : Mem) : Prop := X l g (M_law nm) (LF g b Ls xs) pc [some (.ref b), some (rf g 0), some (rf g 410), some (.int (nI i)), none, none, none, none] st none sh mem 418 189097
theorem lh_law {ls : Array Slot} {lv : List (Nat × Value)} (h : lv_has ls 8 lv) (j0 j1 j2 j3 : Nat) (h0 : lv[j0]? = some (0, .ref b)) (h1 : lv[j1]? = some (1, rf g 0)) (h2 : lv[j2]? = some (2, rf g 410)) (h3 : lv[j3]? = some (3, .int (nI i))) : Lh 8 ls [some (.ref b), some (rf g 0), some (rf g 410), some (.int (nI i)), none, none, none, none] := by
  refine ⟨h.1, h.2.1, fun k v hk => ?_⟩
  match k, hk with
  | 0, hk => cases hk; exact ⟨lv_at h j0 h0, rfl⟩
  | 1, hk => cases hk; exact ⟨lv_at h j1 h1, rfl⟩
  | 2, hk => cases hk; exact ⟨lv_at h j2 h2, rfl⟩
  | 3, hk => cases hk; exact ⟨lv_at h j3 h3, rfl⟩
  | 4, hk => cases hk
  | 5, hk => cases hk
  | 6, hk => cases hk
  | 7, hk => cases hk
  | k + 8, hk => simp at hk
theorem x_was (hM : LayMo sh 410) (hi : i + 5 ≤ Ls) (hLs : Ls ≤ 2560) {v : UInt64} (hct : Ct l g M_Mo_wasted [rf g 410, .int (xs (i + 1))] none sh mem (Pq (.double v) none sh mem)) (kk : LX l g nm b Ls xs sh i 846 [] mem) : LX l g nm b Ls xs sh i 652 [.double v] mem := by
  intro p e s m args below meth cd H locs ls C hW hS hL
  refine lf_by (fun hx => ?_)
  have hl := hL.has
  refine lv_dstore (nL := 8) (lv' := [(4, .double v), (0, .ref b), (1, rf g 0), (2, rf g 410), (3, .int (nI i))]) C.1 C.2.1 d_La_law_652 hl (by decide) rfl (fun ls hl => ?_)
  refine lv_aload_n C.1 C.2.1 d_La_law_654 rfl (lv_at hl 3 rfl) ?_
  refine lv_aload_n C.1 C.2.1 d_La_law_655 rfl (lv_at hl 1 rfl) ?_
  refine lv_iload_n C.1 C.2.1 d_La_law_656 rfl (lv_at hl 4 rfl) ?_
  refine lv_iconst (v := nI 1) C.1 C.2.1 d_La_law_657 (by decide) ?_
  refine lv_iadd C.1 C.2.1 d_La_law_658 ?_
  rw [nI_add]
  refine va_sld C.1 C.2.1 hx.1 hx.2.1 hx.out hS (vp_in_nI (show i + 1 < Ls by omega) (by omega)) d_La_law_659 ?_
  rw [nI_clamp (by omega)]
  refine w_callV (M' := M_Mo_wasted) (As := [.int (xs (i + 1))]) (rest := []) C hW hS hl.1 d_La_law_660 ml_La_99 v_Mo_wasted rfl hM.f0 (List.cons_ne_nil _ _) rfl (Nat.le_of_ble_eq_true rfl) hct (fun v' N' sh' mem' H1 locs1 hQ hW1 hS1 => ?_)
  obtain ⟨rfl, rfl, rfl, rfl⟩ := hQ
  refine lv_dstore (nL := 8) (lv' := [(6, .double v), (4, .double v), (0, .ref b), (1, rf g 0), (2, rf g 410), (3, .int (nI i))]) C.1 C.2.1 d_La_law_663 hl (by decide) rfl (fun ls hl => ?_)
  have go : W p l e room_1 s m args below meth cd H1 locs1 418 189097 (LF g b Ls xs below args s) (F0 m 691 ls []) := by
    refine lv_goto (tgt := 846) C.1 C.2.1 d_La_law_691 (by decide) ?_
    exact kk _ _ _ _ _ _ _ _ _ _ _ C hW1 hS1 (lh_law hl 2 3 4 5 rfl rfl rfl rfl)
  refine lv_dload C.1 C.2.1 d_La_law_665 (lv_at hl 1 rfl) ?_
  refine lv_dload C.1 C.2.1 d_La_law_667 (lv_at hl 0 rfl) ?_
  refine lv_dcmp C.1 C.2.1 d_La_law_669 ?_
  refine lv_if_eq (tgt := 691) C.1 C.2.1 d_La_law_670 (by decide) (fun _ => go) (fun c0 => ?_)
  refine lv_dload C.1 C.2.1 d_La_law_673 (lv_at hl 1 rfl) ?_
  refine lv_dload C.1 C.2.1 d_La_law_675 (lv_at hl 1 rfl) ?_
  refine lv_dcmp C.1 C.2.1 d_La_law_677 ?_
  refine lv_if_eq (tgt := 689) C.1 C.2.1 d_La_law_678 (by decide) (fun h => absurd h c0) (fun _ => ?_)
  refine lv_dload C.1 C.2.1 d_La_law_681 (lv_at hl 0 rfl) ?_
  refine lv_dload C.1 C.2.1 d_La_law_683 (lv_at hl 0 rfl) ?_
  refine lv_dcmp C.1 C.2.1 d_La_law_685 ?_
  exact lv_if_ne (tgt := 691) C.1 C.2.1 d_La_law_686 (by decide) (fun _ => go) (fun h => absurd h c0)
theorem arm_roll (hL : LayCc sh 0) (hM : LayMo sh 410) (hi : i + 5 ≤ Ls) (hLs : Ls ≤ 2560) (hC : CR mem 0 G) (hR : MR mem 410 G) (kk : ∀ m G, CR m 0 G → MR m 410 G → LX l g nm b Ls xs sh i 846 [] m) : LX l g nm b Ls xs sh i 144 [] mem := by
  have h60 : nK G.1 ≤ 60 := hC.2.1.2.2.2.1.1
  refine x_aload_n d_La_law_144 rfl ?_
  refine x_aload_b d_La_law_145 rfl ?_
  refine x_iload_n d_La_law_146 rfl ?_
  refine x_iconst (v := nI 1) d_La_law_147 (by decide) ?_
  refine x_iadd d_La_law_148 ?_
  rw [nI_add]
  refine x_sld (by omega) hLs d_La_law_149 ?_
  refine x_aload_b d_La_law_150 rfl ?_
  refine x_iload_n d_La_law_151 rfl ?_
  refine x_iconst (v := nI 2) d_La_law_152 (by decide) ?_
  refine x_iadd d_La_law_153 ?_
  rw [nI_add]
  refine x_sld (by omega) hLs d_La_law_154 ?_
  refine x_aload_b d_La_law_155 rfl ?_
  refine x_iload_n d_La_law_156 rfl ?_
  refine x_iconst (v := nI 3) d_La_law_157 (by decide) ?_
  refine x_iadd d_La_law_158 ?_
  rw [nI_add]
  refine x_sld (by omega) hLs d_La_law_159 ?_
  refine x_aload_b d_La_law_160 rfl ?_
  refine x_iload_n d_La_law_161 rfl ?_
  refine x_iconst (v := nI 4) d_La_law_162 (by decide) ?_
  refine x_iadd d_La_law_163 ?_
  rw [nI_add]
  refine x_sld (by omega) hLs d_La_law_164 ?_
  refine x_v4i d_La_law_165 ml_La_13 v_Cc_roll rfl ⟨rfl, rfl⟩ hL.io (Nat.le_of_ble_eq_true rfl) (ct_Cc_roll hL hC) (fun r165 mem165 h165 => ?_)
  obtain ⟨e1, hC1, F1⟩ := h165
  subst e1
  have hR1 := hR.mv (m := mem165) (fun o h1 h2 => F1 o (by omega))
  refine x_aload_n d_La_law_168 rfl ?_
  refine x_aload_b d_La_law_169 rfl ?_
  refine x_iload_n d_La_law_170 rfl ?_
  refine x_iconst (v := nI 1) d_La_law_171 (by decide) ?_
  refine x_iadd d_La_law_172 ?_
  rw [nI_add]
  refine x_sld (by omega) hLs d_La_law_173 ?_
  refine x_aload_b d_La_law_174 rfl ?_
  refine x_iload_n d_La_law_175 rfl ?_
  refine x_iconst (v := nI 2) d_La_law_176 (by decide) ?_
  refine x_iadd d_La_law_177 ?_
  rw [nI_add]
  refine x_sld (by omega) hLs d_La_law_178 ?_
  refine x_aload_b d_La_law_179 rfl ?_
  refine x_iload_n d_La_law_180 rfl ?_
  refine x_iconst (v := nI 3) d_La_law_181 (by decide) ?_
  refine x_iadd d_La_law_182 ?_
  rw [nI_add]
  refine x_sld (by omega) hLs d_La_law_183 ?_
  refine x_aload_b d_La_law_184 rfl ?_
  refine x_iload_n d_La_law_185 rfl ?_
  refine x_iconst (v := nI 4) d_La_law_186 (by decide) ?_
  refine x_iadd d_La_law_187 ?_
  rw [nI_add]
  refine x_sld (by omega) hLs d_La_law_188 ?_
  refine x_v4i d_La_law_189 ml_La_17 v_Mo_roll rfl ⟨rfl, rfl⟩ hM.io (Nat.le_of_ble_eq_true rfl) (ct_Mo_roll hM hR1) (fun r189 mem189 h189 => ?_)
  obtain ⟨e2, hR2, F2⟩ := h189
  subst e2
  have hC2 := hC1.mv (m := mem189) (fun o h1 h2 => F2 o (by omega))
  refine x_icmp_eq (tgt := 846) d_La_law_192 (by decide) (fun c192 => ?_) (fun c192 => ?_)
  · exact kk _ _ hC2 hR2
  · exact absurd rfl c192
theorem arm_rooms (hL : LayCc sh 0) (hM : LayMo sh 410) (hi : i + 5 ≤ Ls) (hLs : Ls ≤ 2560) (hC : CR mem 0 G) (hR : MR mem 410 G) (kk : ∀ m G, CR m 0 G → MR m 410 G → LX l g nm b Ls xs sh i 846 [] m) : LX l g nm b Ls xs sh i 197 [] mem := by
  have h60 : nK G.1 ≤ 60 := hC.2.1.2.2.2.1.1
  refine x_aload_n d_La_law_197 rfl ?_
  refine x_v0i d_La_law_198 ml_La_18 v_Cc_rooms rfl ⟨rfl, rfl⟩ hL.io (Nat.le_of_ble_eq_true rfl) (ct_Cc_rooms hL hC) (fun r198 mem198 h198 => ?_)
  obtain ⟨e1, hC1, F1⟩ := h198
  subst e1
  have hR1 := hR.mv (m := mem198) (fun o h1 h2 => F1 o (by omega))
  refine x_aload_n d_La_law_201 rfl ?_
  refine x_v0i d_La_law_202 ml_La_22 v_Mo_rooms rfl ⟨rfl, rfl⟩ hM.io (Nat.le_of_ble_eq_true rfl) (ct_Mo_rooms hM hR1) (fun r202 mem202 h202 => ?_)
  obtain ⟨e2, hR2, F2⟩ := h202
  subst e2
  have hC2 := hC1.mv (m := mem202) (fun o h1 h2 => F2 o (by omega))
  refine x_icmp_eq (tgt := 846) d_La_law_205 (by decide) (fun c205 => ?_) (fun c205 => ?_)
  · exact kk _ _ hC2 hR2
  · exact absurd rfl c205
theorem arm_cover (hL : LayCc sh 0) (hM : LayMo sh 410) (hi : i + 5 ≤ Ls) (hLs : Ls ≤ 2560) (hC : CR mem 0 G) (hR : MR mem 410 G) (kk : ∀ m G, CR m 0 G → MR m 410 G → LX l g nm b Ls xs sh i 846 [] m) : LX l g nm b Ls xs sh i 210 [] mem := by
  have h60 : nK G.1 ≤ 60 := hC.2.1.2.2.2.1.1
  refine x_aload_n d_La_law_210 rfl ?_
  refine x_aload_b d_La_law_211 rfl ?_
  refine x_iload_n d_La_law_212 rfl ?_
  refine x_iconst (v := nI 1) d_La_law_213 (by decide) ?_
  refine x_iadd d_La_law_214 ?_
  rw [nI_add]
  refine x_sld (by omega) hLs d_La_law_215 ?_
  refine x_aload_b d_La_law_216 rfl ?_
  refine x_iload_n d_La_law_217 rfl ?_
  refine x_iconst (v := nI 2) d_La_law_218 (by decide) ?_
  refine x_iadd d_La_law_219 ?_
  rw [nI_add]
  refine x_sld (by omega) hLs d_La_law_220 ?_
  refine x_aload_b d_La_law_221 rfl ?_
  refine x_iload_n d_La_law_222 rfl ?_
  refine x_iconst (v := nI 3) d_La_law_223 (by decide) ?_
  refine x_iadd d_La_law_224 ?_
  rw [nI_add]
  refine x_sld (by omega) hLs d_La_law_225 ?_
  refine x_v3i d_La_law_226 ml_La_23 v_Cc_cover rfl ⟨rfl, rfl⟩ hL.io (Nat.le_of_ble_eq_true rfl) (ct_Cc_cover hL hC) (fun r226 mem226 h226 => ?_)
  obtain ⟨e1, hC1, F1⟩ := h226
  subst e1
  have hR1 := hR.mv (m := mem226) (fun o h1 h2 => F1 o (by omega))
  refine x_aload_n d_La_law_229 rfl ?_
  refine x_aload_b d_La_law_230 rfl ?_
  refine x_iload_n d_La_law_231 rfl ?_
  refine x_iconst (v := nI 1) d_La_law_232 (by decide) ?_
  refine x_iadd d_La_law_233 ?_
  rw [nI_add]
  refine x_sld (by omega) hLs d_La_law_234 ?_
  refine x_aload_b d_La_law_235 rfl ?_
  refine x_iload_n d_La_law_236 rfl ?_
  refine x_iconst (v := nI 2) d_La_law_237 (by decide) ?_
  refine x_iadd d_La_law_238 ?_
  rw [nI_add]
  refine x_sld (by omega) hLs d_La_law_239 ?_
  refine x_aload_b d_La_law_240 rfl ?_
  refine x_iload_n d_La_law_241 rfl ?_
  refine x_iconst (v := nI 3) d_La_law_242 (by decide) ?_
  refine x_iadd d_La_law_243 ?_
  rw [nI_add]
  refine x_sld (by omega) hLs d_La_law_244 ?_
  refine x_v3i d_La_law_245 ml_La_27 v_Mo_cover rfl ⟨rfl, rfl⟩ hM.io (Nat.le_of_ble_eq_true rfl) (ct_Mo_cover hM hR1 h60) (fun r245 mem245 h245 => ?_)
  obtain ⟨e2, hR2, F2⟩ := h245
  subst e2
  have hC2 := hC1.mv (m := mem245) (fun o h1 h2 => F2 o (by omega))
  refine x_icmp_eq (tgt := 846) d_La_law_248 (by decide) (fun c248 => ?_) (fun c248 => ?_)
  · exact kk _ _ hC2 hR2
  · exact absurd rfl c248
theorem arm_takeUp (hL : LayCc sh 0) (hM : LayMo sh 410) (hi : i + 5 ≤ Ls) (hLs : Ls ≤ 2560) (hC : CR mem 0 G) (hR : MR mem 410 G) (kk : ∀ m G, CR m 0 G → MR m 410 G → LX l g nm b Ls xs sh i 846 [] m) : LX l g nm b Ls xs sh i 253 [] mem := by
  have h60 : nK G.1 ≤ 60 := hC.2.1.2.2.2.1.1
  refine x_aload_n d_La_law_253 rfl ?_
  refine x_aload_b d_La_law_254 rfl ?_
  refine x_iload_n d_La_law_255 rfl ?_
  refine x_iconst (v := nI 1) d_La_law_256 (by decide) ?_
  refine x_iadd d_La_law_257 ?_
  rw [nI_add]
  refine x_sld (by omega) hLs d_La_law_258 ?_
  refine x_v1i d_La_law_259 ml_La_28 v_Cc_takeUp rfl ⟨rfl, rfl⟩ hL.io (Nat.le_of_ble_eq_true rfl) (ct_Cc_takeUp hL hC) (fun r259 mem259 h259 => ?_)
  obtain ⟨e1, hC1, F1⟩ := h259
  subst e1
  have hR1 := hR.mv (m := mem259) (fun o h1 h2 => F1 o (by omega))
  refine x_aload_n d_La_law_262 rfl ?_
  refine x_aload_b d_La_law_263 rfl ?_
  refine x_iload_n d_La_law_264 rfl ?_
  refine x_iconst (v := nI 1) d_La_law_265 (by decide) ?_
  refine x_iadd d_La_law_266 ?_
  rw [nI_add]
  refine x_sld (by omega) hLs d_La_law_267 ?_
  refine x_v1i d_La_law_268 ml_La_32 v_Mo_takeUp rfl ⟨rfl, rfl⟩ hM.io (Nat.le_of_ble_eq_true rfl) (ct_Mo_takeUp hM hR1) (fun r268 mem268 h268 => ?_)
  obtain ⟨e2, hR2, F2⟩ := h268
  subst e2
  have hC2 := hC1.mv (m := mem268) (fun o h1 h2 => F2 o (by omega))
  refine x_icmp_eq (tgt := 846) d_La_law_271 (by decide) (fun c271 => ?_) (fun c271 => ?_)
  · exact kk _ _ hC2 hR2
  · exact absurd rfl c271
theorem arm_sell (hL : LayCc sh 0) (hM : LayMo sh 410) (hi : i + 5 ≤ Ls) (hLs : Ls ≤ 2560) (hC : CR mem 0 G) (hR : MR mem 410 G) (kk : ∀ m G, CR m 0 G → MR m 410 G → LX l g nm b Ls xs sh i 846 [] m) : LX l g nm b Ls xs sh i 276 [] mem := by
  have h60 : nK G.1 ≤ 60 := hC.2.1.2.2.2.1.1
  refine x_aload_n d_La_law_276 rfl ?_
  refine x_aload_b d_La_law_277 rfl ?_
  refine x_iload_n d_La_law_278 rfl ?_
  refine x_iconst (v := nI 1) d_La_law_279 (by decide) ?_
  refine x_iadd d_La_law_280 ?_
  rw [nI_add]
  refine x_sld (by omega) hLs d_La_law_281 ?_
  refine x_v1i d_La_law_282 ml_La_33 v_Cc_sell rfl ⟨rfl, rfl⟩ hL.io (Nat.le_of_ble_eq_true rfl) (ct_Cc_sell hL hC) (fun r282 mem282 h282 => ?_)
  obtain ⟨e1, hC1, F1⟩ := h282
  subst e1
  have hR1 := hR.mv (m := mem282) (fun o h1 h2 => F1 o (by omega))
  refine x_aload_n d_La_law_285 rfl ?_
  refine x_aload_b d_La_law_286 rfl ?_
  refine x_iload_n d_La_law_287 rfl ?_
  refine x_iconst (v := nI 1) d_La_law_288 (by decide) ?_
  refine x_iadd d_La_law_289 ?_
  rw [nI_add]
  refine x_sld (by omega) hLs d_La_law_290 ?_
  refine x_v1i d_La_law_291 ml_La_36 v_Mo_sell rfl ⟨rfl, rfl⟩ hM.io (Nat.le_of_ble_eq_true rfl) (ct_Mo_sell hM hR1) (fun r291 mem291 h291 => ?_)
  obtain ⟨e2, hR2, F2⟩ := h291
  subst e2
  have hC2 := hC1.mv (m := mem291) (fun o h1 h2 => F2 o (by omega))
  refine x_icmp_eq (tgt := 846) d_La_law_294 (by decide) (fun c294 => ?_) (fun c294 => ?_)
  · exact kk _ _ hC2 hR2
  · exact absurd rfl c294
theorem arm_clear (hL : LayCc sh 0) (hM : LayMo sh 410) (hi : i + 5 ≤ Ls) (hLs : Ls ≤ 2560) (hC : CR mem 0 G) (hR : MR mem 410 G) (kk : ∀ m G, CR m 0 G → MR m 410 G → LX l g nm b Ls xs sh i 846 [] m) : LX l g nm b Ls xs sh i 299 [] mem := by
  have h60 : nK G.1 ≤ 60 := hC.2.1.2.2.2.1.1
  refine x_aload_n d_La_law_299 rfl ?_
  refine x_aload_b d_La_law_300 rfl ?_
  refine x_iload_n d_La_law_301 rfl ?_
  refine x_iconst (v := nI 1) d_La_law_302 (by decide) ?_
  refine x_iadd d_La_law_303 ?_
  rw [nI_add]
  refine x_sld (by omega) hLs d_La_law_304 ?_
  refine x_aload_b d_La_law_305 rfl ?_
  refine x_iload_n d_La_law_306 rfl ?_
  refine x_iconst (v := nI 2) d_La_law_307 (by decide) ?_
  refine x_iadd d_La_law_308 ?_
  rw [nI_add]
  refine x_sld (by omega) hLs d_La_law_309 ?_
  refine x_v2i d_La_law_310 ml_La_37 v_Cc_clear rfl ⟨rfl, rfl⟩ hL.io (Nat.le_of_ble_eq_true rfl) (ct_Cc_clear hL hC) (fun r310 mem310 h310 => ?_)
  obtain ⟨e1, hC1, F1⟩ := h310
  subst e1
  have hR1 := hR.mv (m := mem310) (fun o h1 h2 => F1 o (by omega))
  refine x_aload_n d_La_law_313 rfl ?_
  refine x_aload_b d_La_law_314 rfl ?_
  refine x_iload_n d_La_law_315 rfl ?_
  refine x_iconst (v := nI 1) d_La_law_316 (by decide) ?_
  refine x_iadd d_La_law_317 ?_
  rw [nI_add]
  refine x_sld (by omega) hLs d_La_law_318 ?_
  refine x_aload_b d_La_law_319 rfl ?_
  refine x_iload_n d_La_law_320 rfl ?_
  refine x_iconst (v := nI 2) d_La_law_321 (by decide) ?_
  refine x_iadd d_La_law_322 ?_
  rw [nI_add]
  refine x_sld (by omega) hLs d_La_law_323 ?_
  refine x_v2i d_La_law_324 ml_La_41 v_Mo_clear rfl ⟨rfl, rfl⟩ hM.io (Nat.le_of_ble_eq_true rfl) (ct_Mo_clear hM hR1) (fun r324 mem324 h324 => ?_)
  obtain ⟨e2, hR2, F2⟩ := h324
  subst e2
  have hC2 := hC1.mv (m := mem324) (fun o h1 h2 => F2 o (by omega))
  refine x_icmp_eq (tgt := 846) d_La_law_327 (by decide) (fun c327 => ?_) (fun c327 => ?_)
  · exact kk _ _ hC2 hR2
  · exact absurd rfl c327
theorem arm_set (hL : LayCc sh 0) (hM : LayMo sh 410) (hi : i + 5 ≤ Ls) (hLs : Ls ≤ 2560) (hC : CR mem 0 G) (hR : MR mem 410 G) (kk : ∀ m G, CR m 0 G → MR m 410 G → LX l g nm b Ls xs sh i 846 [] m) : LX l g nm b Ls xs sh i 332 [] mem := by
  have h60 : nK G.1 ≤ 60 := hC.2.1.2.2.2.1.1
  refine x_aload_n d_La_law_332 rfl ?_
  refine x_aload_b d_La_law_333 rfl ?_
  refine x_iload_n d_La_law_334 rfl ?_
  refine x_iconst (v := nI 1) d_La_law_335 (by decide) ?_
  refine x_iadd d_La_law_336 ?_
  rw [nI_add]
  refine x_sld (by omega) hLs d_La_law_337 ?_
  refine x_aload_b d_La_law_338 rfl ?_
  refine x_iload_n d_La_law_339 rfl ?_
  refine x_iconst (v := nI 2) d_La_law_340 (by decide) ?_
  refine x_iadd d_La_law_341 ?_
  rw [nI_add]
  refine x_sld (by omega) hLs d_La_law_342 ?_
  refine x_v2i d_La_law_343 ml_La_42 v_Cc_set rfl ⟨rfl, rfl⟩ hL.io (Nat.le_of_ble_eq_true rfl) (ct_Cc_set hL hC) (fun r343 mem343 h343 => ?_)
  obtain ⟨e1, hC1, F1⟩ := h343
  subst e1
  have hR1 := hR.mv (m := mem343) (fun o h1 h2 => F1 o (by omega))
  refine x_aload_n d_La_law_346 rfl ?_
  refine x_aload_b d_La_law_347 rfl ?_
  refine x_iload_n d_La_law_348 rfl ?_
  refine x_iconst (v := nI 1) d_La_law_349 (by decide) ?_
  refine x_iadd d_La_law_350 ?_
  rw [nI_add]
  refine x_sld (by omega) hLs d_La_law_351 ?_
  refine x_aload_b d_La_law_352 rfl ?_
  refine x_iload_n d_La_law_353 rfl ?_
  refine x_iconst (v := nI 2) d_La_law_354 (by decide) ?_
  refine x_iadd d_La_law_355 ?_
  rw [nI_add]
  refine x_sld (by omega) hLs d_La_law_356 ?_
  refine x_v2i d_La_law_357 ml_La_45 v_Mo_set rfl ⟨rfl, rfl⟩ hM.io (Nat.le_of_ble_eq_true rfl) (ct_Mo_set hM hR1) (fun r357 mem357 h357 => ?_)
  obtain ⟨e2, hR2, F2⟩ := h357
  subst e2
  have hC2 := hC1.mv (m := mem357) (fun o h1 h2 => F2 o (by omega))
  refine x_icmp_eq (tgt := 846) d_La_law_360 (by decide) (fun c360 => ?_) (fun c360 => ?_)
  · exact kk _ _ hC2 hR2
  · exact absurd rfl c360
theorem arm_type (hL : LayCc sh 0) (hM : LayMo sh 410) (hi : i + 5 ≤ Ls) (hLs : Ls ≤ 2560) (hC : CR mem 0 G) (hR : MR mem 410 G) (kk : ∀ m G, CR m 0 G → MR m 410 G → LX l g nm b Ls xs sh i 846 [] m) : LX l g nm b Ls xs sh i 365 [] mem := by
  have h60 : nK G.1 ≤ 60 := hC.2.1.2.2.2.1.1
  obtain ⟨c, hc, hce⟩ := i2c_nI (xs (i + 1))
  refine x_aload_n d_La_law_365 rfl ?_
  refine x_aload_b d_La_law_366 rfl ?_
  refine x_iload_n d_La_law_367 rfl ?_
  refine x_iconst (v := nI 1) d_La_law_368 (by decide) ?_
  refine x_iadd d_La_law_369 ?_
  rw [nI_add]
  refine x_sld (by omega) hLs d_La_law_370 ?_
  refine x_i2c d_La_law_371 hce ?_
  refine x_v1i d_La_law_372 ml_La_46 v_Cc_type rfl ⟨rfl, rfl⟩ hL.io (Nat.le_of_ble_eq_true rfl) (ct_Cc_type hL hC hc) (fun r372 mem372 h372 => ?_)
  obtain ⟨e1, hC1, F1⟩ := h372
  subst e1
  have hR1 := hR.mv (m := mem372) (fun o h1 h2 => F1 o (by omega))
  refine x_aload_n d_La_law_375 rfl ?_
  refine x_aload_b d_La_law_376 rfl ?_
  refine x_iload_n d_La_law_377 rfl ?_
  refine x_iconst (v := nI 1) d_La_law_378 (by decide) ?_
  refine x_iadd d_La_law_379 ?_
  rw [nI_add]
  refine x_sld (by omega) hLs d_La_law_380 ?_
  refine x_i2c d_La_law_381 hce ?_
  refine x_v1i d_La_law_382 ml_La_50 v_Mo_type rfl ⟨rfl, rfl⟩ hM.io (Nat.le_of_ble_eq_true rfl) (ct_Mo_type hM hR1 hc) (fun r382 mem382 h382 => ?_)
  obtain ⟨e2, hR2, F2⟩ := h382
  subst e2
  have hC2 := hC1.mv (m := mem382) (fun o h1 h2 => F2 o (by omega))
  refine x_icmp_eq (tgt := 846) d_La_law_385 (by decide) (fun c385 => ?_) (fun c385 => ?_)
  · exact kk _ _ hC2 hR2
  · exact absurd rfl c385
theorem arm_clearText (hL : LayCc sh 0) (hM : LayMo sh 410) (hi : i + 5 ≤ Ls) (hLs : Ls ≤ 2560) (hC : CR mem 0 G) (hR : MR mem 410 G) (kk : ∀ m G, CR m 0 G → MR m 410 G → LX l g nm b Ls xs sh i 846 [] m) : LX l g nm b Ls xs sh i 390 [] mem := by
  have h60 : nK G.1 ≤ 60 := hC.2.1.2.2.2.1.1
  refine x_aload_n d_La_law_390 rfl ?_
  refine x_v0i d_La_law_391 ml_La_51 v_Cc_clearText rfl ⟨rfl, rfl⟩ hL.io (Nat.le_of_ble_eq_true rfl) (ct_Cc_clearText hL hC) (fun r391 mem391 h391 => ?_)
  obtain ⟨e1, hC1, F1⟩ := h391
  subst e1
  have hR1 := hR.mv (m := mem391) (fun o h1 h2 => F1 o (by omega))
  refine x_aload_n d_La_law_394 rfl ?_
  refine x_v0i d_La_law_395 ml_La_54 v_Mo_clearText rfl ⟨rfl, rfl⟩ hM.io (Nat.le_of_ble_eq_true rfl) (ct_Mo_clearText hM hR1) (fun r395 mem395 h395 => ?_)
  obtain ⟨e2, hR2, F2⟩ := h395
  subst e2
  have hC2 := hC1.mv (m := mem395) (fun o h1 h2 => F2 o (by omega))
  refine x_icmp_eq (tgt := 846) d_La_law_398 (by decide) (fun c398 => ?_) (fun c398 => ?_)
  · exact kk _ _ hC2 hR2
  · exact absurd rfl c398
theorem arm_fault (hL : LayCc sh 0) (hM : LayMo sh 410) (hi : i + 5 ≤ Ls) (hLs : Ls ≤ 2560) (hC : CR mem 0 G) (hR : MR mem 410 G) (kk : ∀ m G, CR m 0 G → MR m 410 G → LX l g nm b Ls xs sh i 846 [] m) : LX l g nm b Ls xs sh i 403 [] mem := by
  have h60 : nK G.1 ≤ 60 := hC.2.1.2.2.2.1.1
  refine x_aload_n d_La_law_403 rfl ?_
  refine x_v0i d_La_law_404 ml_La_55 v_Cc_fault rfl ⟨rfl, rfl⟩ hL.io (Nat.le_of_ble_eq_true rfl) (ct_Cc_fault hL hC) (fun r404 mem404 h404 => ?_)
  obtain ⟨e1, hC1, F1⟩ := h404
  subst e1
  have hR1 := hR.mv (m := mem404) (fun o h1 h2 => F1 o (by omega))
  refine x_aload_n d_La_law_407 rfl ?_
  refine x_v0i d_La_law_408 ml_La_58 v_Mo_fault rfl ⟨rfl, rfl⟩ hM.io (Nat.le_of_ble_eq_true rfl) (ct_Mo_fault hM hR1) (fun r408 mem408 h408 => ?_)
  obtain ⟨e2, hR2, F2⟩ := h408
  subst e2
  have hC2 := hC1.mv (m := mem408) (fun o h1 h2 => F2 o (by omega))
  refine x_icmp_eq (tgt := 846) d_La_law_411 (by decide) (fun c411 => ?_) (fun c411 => ?_)
  · exact kk _ _ hC2 hR2
  · exact absurd rfl c411
theorem arm_undo (hL : LayCc sh 0) (hM : LayMo sh 410) (hi : i + 5 ≤ Ls) (hLs : Ls ≤ 2560) (hC : CR mem 0 G) (hR : MR mem 410 G) (kk : ∀ m G, CR m 0 G → MR m 410 G → LX l g nm b Ls xs sh i 846 [] m) : LX l g nm b Ls xs sh i 416 [] mem := by
  have h60 : nK G.1 ≤ 60 := hC.2.1.2.2.2.1.1
  refine x_aload_n d_La_law_416 rfl ?_
  refine x_v0i d_La_law_417 ml_La_59 v_Cc_undo rfl ⟨rfl, rfl⟩ hL.io (Nat.le_of_ble_eq_true rfl) (ct_Cc_undo hL hC) (fun r417 mem417 h417 => ?_)
  obtain ⟨e1, hC1, F1⟩ := h417
  subst e1
  have hR1 := hR.mv (m := mem417) (fun o h1 h2 => F1 o (by omega))
  refine x_aload_n d_La_law_420 rfl ?_
  refine x_v0i d_La_law_421 ml_La_62 v_Mo_undo rfl ⟨rfl, rfl⟩ hM.io (Nat.le_of_ble_eq_true rfl) (ct_Mo_undo hM hR1) (fun r421 mem421 h421 => ?_)
  obtain ⟨e2, hR2, F2⟩ := h421
  subst e2
  have hC2 := hC1.mv (m := mem421) (fun o h1 h2 => F2 o (by omega))
  refine x_icmp_eq (tgt := 846) d_La_law_424 (by decide) (fun c424 => ?_) (fun c424 => ?_)
  · exact kk _ _ hC2 hR2
  · exact absurd rfl c424
theorem arm_keep (hL : LayCc sh 0) (hM : LayMo sh 410) (hi : i + 5 ≤ Ls) (hLs : Ls ≤ 2560) (hC : CR mem 0 G) (hR : MR mem 410 G) (kk : ∀ m G, CR m 0 G → MR m 410 G → LX l g nm b Ls xs sh i 846 [] m) : LX l g nm b Ls xs sh i 429 [] mem := by
  have h60 : nK G.1 ≤ 60 := hC.2.1.2.2.2.1.1
  refine x_aload_n d_La_law_429 rfl ?_
  refine x_v0i d_La_law_430 ml_La_63 v_Cc_keep rfl ⟨rfl, rfl⟩ hL.io (Nat.le_of_ble_eq_true rfl) (ct_Cc_keep hL hC) (fun r430 mem430 h430 => ?_)
  obtain ⟨e1, hC1, F1⟩ := h430
  subst e1
  have hR1 := hR.mv (m := mem430) (fun o h1 h2 => F1 o (by omega))
  refine x_aload_n d_La_law_433 rfl ?_
  refine x_v0i d_La_law_434 ml_La_66 v_Mo_keep rfl ⟨rfl, rfl⟩ hM.io (Nat.le_of_ble_eq_true rfl) (ct_Mo_keep hM hR1) (fun r434 mem434 h434 => ?_)
  obtain ⟨e2, hR2, F2⟩ := h434
  subst e2
  have hC2 := hC1.mv (m := mem434) (fun o h1 h2 => F2 o (by omega))
  refine x_icmp_eq (tgt := 846) d_La_law_437 (by decide) (fun c437 => ?_) (fun c437 => ?_)
  · exact kk _ _ hC2 hR2
  · exact absurd rfl c437
theorem arm_restore (hL : LayCc sh 0) (hM : LayMo sh 410) (hi : i + 5 ≤ Ls) (hLs : Ls ≤ 2560) (hC : CR mem 0 G) (hR : MR mem 410 G) (kk : ∀ m G, CR m 0 G → MR m 410 G → LX l g nm b Ls xs sh i 846 [] m) : LX l g nm b Ls xs sh i 442 [] mem := by
  have h60 : nK G.1 ≤ 60 := hC.2.1.2.2.2.1.1
  refine x_aload_n d_La_law_442 rfl ?_
  refine x_v0i d_La_law_443 ml_La_67 v_Cc_restore rfl ⟨rfl, rfl⟩ hL.io (Nat.le_of_ble_eq_true rfl) (ct_Cc_restore hL hC) (fun r443 mem443 h443 => ?_)
  obtain ⟨e1, hC1, F1⟩ := h443
  subst e1
  have hR1 := hR.mv (m := mem443) (fun o h1 h2 => F1 o (by omega))
  refine x_aload_n d_La_law_446 rfl ?_
  refine x_v0i d_La_law_447 ml_La_70 v_Mo_restore rfl ⟨rfl, rfl⟩ hM.io (Nat.le_of_ble_eq_true rfl) (ct_Mo_restore hM hR1) (fun r447 mem447 h447 => ?_)
  obtain ⟨e2, hR2, F2⟩ := h447
  subst e2
  have hC2 := hC1.mv (m := mem447) (fun o h1 h2 => F2 o (by omega))
  refine x_icmp_eq (tgt := 846) d_La_law_450 (by decide) (fun c450 => ?_) (fun c450 => ?_)
  · exact kk _ _ hC2 hR2
  · exact absurd rfl c450
theorem arm_rollOf (hL : LayCc sh 0) (hM : LayMo sh 410) (hi : i + 5 ≤ Ls) (hLs : Ls ≤ 2560) (hC : CR mem 0 G) (hR : MR mem 410 G) (kk : ∀ m G, CR m 0 G → MR m 410 G → LX l g nm b Ls xs sh i 846 [] m) : LX l g nm b Ls xs sh i 455 [] mem := by
  have h60 : nK G.1 ≤ 60 := hC.2.1.2.2.2.1.1
  refine x_aload_n d_La_law_455 rfl ?_
  refine x_aload_b d_La_law_456 rfl ?_
  refine x_iload_n d_La_law_457 rfl ?_
  refine x_iconst (v := nI 1) d_La_law_458 (by decide) ?_
  refine x_iadd d_La_law_459 ?_
  rw [nI_add]
  refine x_sld (by omega) hLs d_La_law_460 ?_
  refine x_aload_b d_La_law_461 rfl ?_
  refine x_iload_n d_La_law_462 rfl ?_
  refine x_iconst (v := nI 2) d_La_law_463 (by decide) ?_
  refine x_iadd d_La_law_464 ?_
  rw [nI_add]
  refine x_sld (by omega) hLs d_La_law_465 ?_
  refine x_v2i d_La_law_466 ml_La_71 v_Cc_rollOf rfl ⟨rfl, rfl⟩ hL.io (Nat.le_of_ble_eq_true rfl) (ct_Cc_rollOf hL hC) (fun r466 mem466 h466 => ?_)
  obtain ⟨e1, hC1, F1⟩ := h466
  subst e1
  have hR1 := hR.mv (m := mem466) (fun o h1 h2 => F1 o (by omega))
  refine x_aload_n d_La_law_469 rfl ?_
  refine x_aload_b d_La_law_470 rfl ?_
  refine x_iload_n d_La_law_471 rfl ?_
  refine x_iconst (v := nI 1) d_La_law_472 (by decide) ?_
  refine x_iadd d_La_law_473 ?_
  rw [nI_add]
  refine x_sld (by omega) hLs d_La_law_474 ?_
  refine x_aload_b d_La_law_475 rfl ?_
  refine x_iload_n d_La_law_476 rfl ?_
  refine x_iconst (v := nI 2) d_La_law_477 (by decide) ?_
  refine x_iadd d_La_law_478 ?_
  rw [nI_add]
  refine x_sld (by omega) hLs d_La_law_479 ?_
  refine x_v2i d_La_law_480 ml_La_74 v_Mo_rollOf rfl ⟨rfl, rfl⟩ hM.io (Nat.le_of_ble_eq_true rfl) (ct_Mo_rollOf hM hR1) (fun r480 mem480 h480 => ?_)
  obtain ⟨e2, hR2, F2⟩ := h480
  subst e2
  have hC2 := hC1.mv (m := mem480) (fun o h1 h2 => F2 o (by omega))
  refine x_icmp_eq (tgt := 846) d_La_law_483 (by decide) (fun c483 => ?_) (fun c483 => ?_)
  · exact kk _ _ hC2 hR2
  · exact absurd rfl c483
theorem arm_offcut (hL : LayCc sh 0) (hM : LayMo sh 410) (hi : i + 5 ≤ Ls) (hLs : Ls ≤ 2560) (hC : CR mem 0 G) (hR : MR mem 410 G) (kk : ∀ m G, CR m 0 G → MR m 410 G → LX l g nm b Ls xs sh i 846 [] m) : LX l g nm b Ls xs sh i 488 [] mem := by
  have h60 : nK G.1 ≤ 60 := hC.2.1.2.2.2.1.1
  refine x_aload_n d_La_law_488 rfl ?_
  refine x_aload_b d_La_law_489 rfl ?_
  refine x_iload_n d_La_law_490 rfl ?_
  refine x_iconst (v := nI 1) d_La_law_491 (by decide) ?_
  refine x_iadd d_La_law_492 ?_
  rw [nI_add]
  refine x_sld (by omega) hLs d_La_law_493 ?_
  refine x_aload_b d_La_law_494 rfl ?_
  refine x_iload_n d_La_law_495 rfl ?_
  refine x_iconst (v := nI 2) d_La_law_496 (by decide) ?_
  refine x_iadd d_La_law_497 ?_
  rw [nI_add]
  refine x_sld (by omega) hLs d_La_law_498 ?_
  refine x_v2i d_La_law_499 ml_La_75 v_Cc_offcut rfl ⟨rfl, rfl⟩ hL.io (Nat.le_of_ble_eq_true rfl) (ct_Cc_offcut hL hC) (fun r499 mem499 h499 => ?_)
  obtain ⟨e1, hC1, F1⟩ := h499
  subst e1
  have hR1 := hR.mv (m := mem499) (fun o h1 h2 => F1 o (by omega))
  refine x_aload_n d_La_law_502 rfl ?_
  refine x_aload_b d_La_law_503 rfl ?_
  refine x_iload_n d_La_law_504 rfl ?_
  refine x_iconst (v := nI 1) d_La_law_505 (by decide) ?_
  refine x_iadd d_La_law_506 ?_
  rw [nI_add]
  refine x_sld (by omega) hLs d_La_law_507 ?_
  refine x_aload_b d_La_law_508 rfl ?_
  refine x_iload_n d_La_law_509 rfl ?_
  refine x_iconst (v := nI 2) d_La_law_510 (by decide) ?_
  refine x_iadd d_La_law_511 ?_
  rw [nI_add]
  refine x_sld (by omega) hLs d_La_law_512 ?_
  refine x_v2i d_La_law_513 ml_La_78 v_Mo_offcut rfl ⟨rfl, rfl⟩ hM.io (Nat.le_of_ble_eq_true rfl) (ct_Mo_offcut hM hR1) (fun r513 mem513 h513 => ?_)
  obtain ⟨e2, hR2, F2⟩ := h513
  subst e2
  have hC2 := hC1.mv (m := mem513) (fun o h1 h2 => F2 o (by omega))
  refine x_icmp_eq (tgt := 846) d_La_law_516 (by decide) (fun c516 => ?_) (fun c516 => ?_)
  · exact kk _ _ hC2 hR2
  · exact absurd rfl c516
theorem arm_sorted (hL : LayCc sh 0) (hM : LayMo sh 410) (hi : i + 5 ≤ Ls) (hLs : Ls ≤ 2560) (hC : CR mem 0 G) (hR : MR mem 410 G) (kk : ∀ m G, CR m 0 G → MR m 410 G → LX l g nm b Ls xs sh i 846 [] m) : LX l g nm b Ls xs sh i 521 [] mem := by
  have h60 : nK G.1 ≤ 60 := hC.2.1.2.2.2.1.1
  refine x_aload_n d_La_law_521 rfl ?_
  refine x_aload_b d_La_law_522 rfl ?_
  refine x_iload_n d_La_law_523 rfl ?_
  refine x_iconst (v := nI 1) d_La_law_524 (by decide) ?_
  refine x_iadd d_La_law_525 ?_
  rw [nI_add]
  refine x_sld (by omega) hLs d_La_law_526 ?_
  refine x_v1i d_La_law_527 ml_La_79 v_Cc_sorted rfl ⟨rfl, rfl⟩ hL.io (Nat.le_of_ble_eq_true rfl) (ct_Cc_sorted hL hC) (fun r527 mem527 h527 => ?_)
  obtain ⟨e1, hC1, F1⟩ := h527
  subst e1
  have hR1 := hR.mv (m := mem527) (fun o h1 h2 => F1 o (by omega))
  refine x_aload_n d_La_law_530 rfl ?_
  refine x_aload_b d_La_law_531 rfl ?_
  refine x_iload_n d_La_law_532 rfl ?_
  refine x_iconst (v := nI 1) d_La_law_533 (by decide) ?_
  refine x_iadd d_La_law_534 ?_
  rw [nI_add]
  refine x_sld (by omega) hLs d_La_law_535 ?_
  refine x_v1i d_La_law_536 ml_La_82 v_Mo_sorted rfl ⟨rfl, rfl⟩ hM.io (Nat.le_of_ble_eq_true rfl) (ct_Mo_sorted hM hR1) (fun r536 mem536 h536 => ?_)
  obtain ⟨e2, hR2, F2⟩ := h536
  subst e2
  have hC2 := hC1.mv (m := mem536) (fun o h1 h2 => F2 o (by omega))
  refine x_icmp_eq (tgt := 846) d_La_law_539 (by decide) (fun c539 => ?_) (fun c539 => ?_)
  · exact kk _ _ hC2 hR2
  · exact absurd rfl c539
theorem arm_room (hL : LayCc sh 0) (hM : LayMo sh 410) (hi : i + 5 ≤ Ls) (hLs : Ls ≤ 2560) (hC : CR mem 0 G) (hR : MR mem 410 G) (kk : ∀ m G, CR m 0 G → MR m 410 G → LX l g nm b Ls xs sh i 846 [] m) : LX l g nm b Ls xs sh i 544 [] mem := by
  have h60 : nK G.1 ≤ 60 := hC.2.1.2.2.2.1.1
  refine x_aload_n d_La_law_544 rfl ?_
  refine x_aload_b d_La_law_545 rfl ?_
  refine x_iload_n d_La_law_546 rfl ?_
  refine x_iconst (v := nI 1) d_La_law_547 (by decide) ?_
  refine x_iadd d_La_law_548 ?_
  rw [nI_add]
  refine x_sld (by omega) hLs d_La_law_549 ?_
  refine x_aload_b d_La_law_550 rfl ?_
  refine x_iload_n d_La_law_551 rfl ?_
  refine x_iconst (v := nI 2) d_La_law_552 (by decide) ?_
  refine x_iadd d_La_law_553 ?_
  rw [nI_add]
  refine x_sld (by omega) hLs d_La_law_554 ?_
  refine x_v2i d_La_law_555 ml_La_83 v_Cc_room rfl ⟨rfl, rfl⟩ hL.io (Nat.le_of_ble_eq_true rfl) (ct_Cc_room hL hC) (fun r555 mem555 h555 => ?_)
  obtain ⟨e1, hC1, F1⟩ := h555
  subst e1
  have hR1 := hR.mv (m := mem555) (fun o h1 h2 => F1 o (by omega))
  refine x_aload_n d_La_law_558 rfl ?_
  refine x_aload_b d_La_law_559 rfl ?_
  refine x_iload_n d_La_law_560 rfl ?_
  refine x_iconst (v := nI 1) d_La_law_561 (by decide) ?_
  refine x_iadd d_La_law_562 ?_
  rw [nI_add]
  refine x_sld (by omega) hLs d_La_law_563 ?_
  refine x_aload_b d_La_law_564 rfl ?_
  refine x_iload_n d_La_law_565 rfl ?_
  refine x_iconst (v := nI 2) d_La_law_566 (by decide) ?_
  refine x_iadd d_La_law_567 ?_
  rw [nI_add]
  refine x_sld (by omega) hLs d_La_law_568 ?_
  refine x_v2i d_La_law_569 ml_La_86 v_Mo_room rfl ⟨rfl, rfl⟩ hM.io (Nat.le_of_ble_eq_true rfl) (ct_Mo_room hM hR1) (fun r569 mem569 h569 => ?_)
  obtain ⟨e2, hR2, F2⟩ := h569
  subst e2
  have hC2 := hC1.mv (m := mem569) (fun o h1 h2 => F2 o (by omega))
  refine x_icmp_eq (tgt := 846) d_La_law_572 (by decide) (fun c572 => ?_) (fun c572 => ?_)
  · exact kk _ _ hC2 hR2
  · exact absurd rfl c572
theorem arm_strip (hL : LayCc sh 0) (hM : LayMo sh 410) (hi : i + 5 ≤ Ls) (hLs : Ls ≤ 2560) (hC : CR mem 0 G) (hR : MR mem 410 G) (kk : ∀ m G, CR m 0 G → MR m 410 G → LX l g nm b Ls xs sh i 846 [] m) : LX l g nm b Ls xs sh i 577 [] mem := by
  have h60 : nK G.1 ≤ 60 := hC.2.1.2.2.2.1.1
  refine x_aload_n d_La_law_577 rfl ?_
  refine x_aload_b d_La_law_578 rfl ?_
  refine x_iload_n d_La_law_579 rfl ?_
  refine x_iconst (v := nI 1) d_La_law_580 (by decide) ?_
  refine x_iadd d_La_law_581 ?_
  rw [nI_add]
  refine x_sld (by omega) hLs d_La_law_582 ?_
  refine x_aload_b d_La_law_583 rfl ?_
  refine x_iload_n d_La_law_584 rfl ?_
  refine x_iconst (v := nI 2) d_La_law_585 (by decide) ?_
  refine x_iadd d_La_law_586 ?_
  rw [nI_add]
  refine x_sld (by omega) hLs d_La_law_587 ?_
  refine x_aload_b d_La_law_588 rfl ?_
  refine x_iload_n d_La_law_589 rfl ?_
  refine x_iconst (v := nI 3) d_La_law_590 (by decide) ?_
  refine x_iadd d_La_law_591 ?_
  rw [nI_add]
  refine x_sld (by omega) hLs d_La_law_592 ?_
  refine x_v3i d_La_law_593 ml_La_87 v_Cc_strip rfl ⟨rfl, rfl⟩ hL.io (Nat.le_of_ble_eq_true rfl) (ct_Cc_strip hL hC) (fun r593 mem593 h593 => ?_)
  obtain ⟨e1, hC1, F1⟩ := h593
  subst e1
  have hR1 := hR.mv (m := mem593) (fun o h1 h2 => F1 o (by omega))
  refine x_aload_n d_La_law_596 rfl ?_
  refine x_aload_b d_La_law_597 rfl ?_
  refine x_iload_n d_La_law_598 rfl ?_
  refine x_iconst (v := nI 1) d_La_law_599 (by decide) ?_
  refine x_iadd d_La_law_600 ?_
  rw [nI_add]
  refine x_sld (by omega) hLs d_La_law_601 ?_
  refine x_aload_b d_La_law_602 rfl ?_
  refine x_iload_n d_La_law_603 rfl ?_
  refine x_iconst (v := nI 2) d_La_law_604 (by decide) ?_
  refine x_iadd d_La_law_605 ?_
  rw [nI_add]
  refine x_sld (by omega) hLs d_La_law_606 ?_
  refine x_aload_b d_La_law_607 rfl ?_
  refine x_iload_n d_La_law_608 rfl ?_
  refine x_iconst (v := nI 3) d_La_law_609 (by decide) ?_
  refine x_iadd d_La_law_610 ?_
  rw [nI_add]
  refine x_sld (by omega) hLs d_La_law_611 ?_
  refine x_v3i d_La_law_612 ml_La_90 v_Mo_strip rfl ⟨rfl, rfl⟩ hM.io (Nat.le_of_ble_eq_true rfl) (ct_Mo_strip hM hR1) (fun r612 mem612 h612 => ?_)
  obtain ⟨e2, hR2, F2⟩ := h612
  subst e2
  have hC2 := hC1.mv (m := mem612) (fun o h1 h2 => F2 o (by omega))
  refine x_icmp_eq (tgt := 846) d_La_law_615 (by decide) (fun c615 => ?_) (fun c615 => ?_)
  · exact kk _ _ hC2 hR2
  · exact absurd rfl c615
theorem arm_count (hL : LayCc sh 0) (hM : LayMo sh 410) (hi : i + 5 ≤ Ls) (hLs : Ls ≤ 2560) (hC : CR mem 0 G) (hR : MR mem 410 G) (kk : ∀ m G, CR m 0 G → MR m 410 G → LX l g nm b Ls xs sh i 846 [] m) : LX l g nm b Ls xs sh i 620 [] mem := by
  have h60 : nK G.1 ≤ 60 := hC.2.1.2.2.2.1.1
  refine x_aload_n d_La_law_620 rfl ?_
  refine x_aload_b d_La_law_621 rfl ?_
  refine x_iload_n d_La_law_622 rfl ?_
  refine x_iconst (v := nI 1) d_La_law_623 (by decide) ?_
  refine x_iadd d_La_law_624 ?_
  rw [nI_add]
  refine x_sld (by omega) hLs d_La_law_625 ?_
  refine x_v1i d_La_law_626 ml_La_91 v_Cc_count rfl ⟨rfl, rfl⟩ hL.io (Nat.le_of_ble_eq_true rfl) (ct_Cc_count hL hC) (fun r626 mem626 h626 => ?_)
  obtain ⟨e1, hC1, F1⟩ := h626
  subst e1
  have hR1 := hR.mv (m := mem626) (fun o h1 h2 => F1 o (by omega))
  refine x_aload_n d_La_law_629 rfl ?_
  refine x_aload_b d_La_law_630 rfl ?_
  refine x_iload_n d_La_law_631 rfl ?_
  refine x_iconst (v := nI 1) d_La_law_632 (by decide) ?_
  refine x_iadd d_La_law_633 ?_
  rw [nI_add]
  refine x_sld (by omega) hLs d_La_law_634 ?_
  refine x_v1i d_La_law_635 ml_La_94 v_Mo_count rfl ⟨rfl, rfl⟩ hM.io (Nat.le_of_ble_eq_true rfl) (ct_Mo_count hM hR1) (fun r635 mem635 h635 => ?_)
  obtain ⟨e2, hR2, F2⟩ := h635
  subst e2
  have hC2 := hC1.mv (m := mem635) (fun o h1 h2 => F2 o (by omega))
  refine x_icmp_eq (tgt := 846) d_La_law_638 (by decide) (fun c638 => ?_) (fun c638 => ?_)
  · exact kk _ _ hC2 hR2
  · exact absurd rfl c638
theorem arm_wasted (hL : LayCc sh 0) (hM : LayMo sh 410) (hi : i + 5 ≤ Ls) (hLs : Ls ≤ 2560) (hC : CR mem 0 G) (hR : MR mem 410 G) (kk : ∀ m G, CR m 0 G → MR m 410 G → LX l g nm b Ls xs sh i 846 [] m) : LX l g nm b Ls xs sh i 643 [] mem := by
  have h60 : nK G.1 ≤ 60 := hC.2.1.2.2.2.1.1
  refine x_aload_n d_La_law_643 rfl ?_
  refine x_aload_b d_La_law_644 rfl ?_
  refine x_iload_n d_La_law_645 rfl ?_
  refine x_iconst (v := nI 1) d_La_law_646 (by decide) ?_
  refine x_iadd d_La_law_647 ?_
  rw [nI_add]
  refine x_sld (by omega) hLs d_La_law_648 ?_
  refine x_v1p d_La_law_649 ml_La_95 v_Cc_wasted rfl ⟨rfl, rfl⟩ hL.io (Nat.le_of_ble_eq_true rfl) (ct_Cc_wasted hL hC) ?_
  exact x_was hM hi hLs (ct_Mo_wasted hM hR) (kk _ _ hC hR)
theorem arm_ifCovered (hL : LayCc sh 0) (hM : LayMo sh 410) (hi : i + 5 ≤ Ls) (hLs : Ls ≤ 2560) (hC : CR mem 0 G) (hR : MR mem 410 G) (kk : ∀ m G, CR m 0 G → MR m 410 G → LX l g nm b Ls xs sh i 846 [] m) : LX l g nm b Ls xs sh i 694 [] mem := by
  have h60 : nK G.1 ≤ 60 := hC.2.1.2.2.2.1.1
  refine x_aload_n d_La_law_694 rfl ?_
  refine x_aload_b d_La_law_695 rfl ?_
  refine x_iload_n d_La_law_696 rfl ?_
  refine x_iconst (v := nI 1) d_La_law_697 (by decide) ?_
  refine x_iadd d_La_law_698 ?_
  rw [nI_add]
  refine x_sld (by omega) hLs d_La_law_699 ?_
  refine x_aload_b d_La_law_700 rfl ?_
  refine x_iload_n d_La_law_701 rfl ?_
  refine x_iconst (v := nI 2) d_La_law_702 (by decide) ?_
  refine x_iadd d_La_law_703 ?_
  rw [nI_add]
  refine x_sld (by omega) hLs d_La_law_704 ?_
  refine x_aload_b d_La_law_705 rfl ?_
  refine x_iload_n d_La_law_706 rfl ?_
  refine x_iconst (v := nI 3) d_La_law_707 (by decide) ?_
  refine x_iadd d_La_law_708 ?_
  rw [nI_add]
  refine x_sld (by omega) hLs d_La_law_709 ?_
  refine x_aload_b d_La_law_710 rfl ?_
  refine x_iload_n d_La_law_711 rfl ?_
  refine x_iconst (v := nI 4) d_La_law_712 (by decide) ?_
  refine x_iadd d_La_law_713 ?_
  rw [nI_add]
  refine x_sld (by omega) hLs d_La_law_714 ?_
  refine x_v4i d_La_law_715 ml_La_100 v_Cc_ifCovered rfl ⟨rfl, rfl⟩ hL.io (Nat.le_of_ble_eq_true rfl) (ct_Cc_ifCovered hL hC) (fun r715 mem715 h715 => ?_)
  obtain ⟨e1, hC1, F1⟩ := h715
  subst e1
  have hR1 := hR.mv (m := mem715) (fun o h1 h2 => F1 o (by omega))
  refine x_aload_n d_La_law_718 rfl ?_
  refine x_aload_b d_La_law_719 rfl ?_
  refine x_iload_n d_La_law_720 rfl ?_
  refine x_iconst (v := nI 1) d_La_law_721 (by decide) ?_
  refine x_iadd d_La_law_722 ?_
  rw [nI_add]
  refine x_sld (by omega) hLs d_La_law_723 ?_
  refine x_aload_b d_La_law_724 rfl ?_
  refine x_iload_n d_La_law_725 rfl ?_
  refine x_iconst (v := nI 2) d_La_law_726 (by decide) ?_
  refine x_iadd d_La_law_727 ?_
  rw [nI_add]
  refine x_sld (by omega) hLs d_La_law_728 ?_
  refine x_aload_b d_La_law_729 rfl ?_
  refine x_iload_n d_La_law_730 rfl ?_
  refine x_iconst (v := nI 3) d_La_law_731 (by decide) ?_
  refine x_iadd d_La_law_732 ?_
  rw [nI_add]
  refine x_sld (by omega) hLs d_La_law_733 ?_
  refine x_aload_b d_La_law_734 rfl ?_
  refine x_iload_n d_La_law_735 rfl ?_
  refine x_iconst (v := nI 4) d_La_law_736 (by decide) ?_
  refine x_iadd d_La_law_737 ?_
  rw [nI_add]
  refine x_sld (by omega) hLs d_La_law_738 ?_
  refine x_v4i d_La_law_739 ml_La_103 v_Mo_ifCovered rfl ⟨rfl, rfl⟩ hM.io (Nat.le_of_ble_eq_true rfl) (ct_Mo_ifCovered hM hR1.1 h60 hR1.2.1) (fun r739 mem739 h739 => ?_)
  obtain ⟨f2, n2, e2, -⟩ := h739
  subst e2
  obtain ⟨hR2, F2⟩ := hR1.fg f2.fg n2
  have hC2 := hC1.mv (m := mem739) (fun o h1 h2 => F2 o (by omega))
  refine x_icmp_eq (tgt := 846) d_La_law_742 (by decide) (fun c742 => ?_) (fun c742 => ?_)
  · exact kk _ _ hC2 hR2
  · exact absurd rfl c742
theorem arm_best (hL : LayCc sh 0) (hM : LayMo sh 410) (hi : i + 5 ≤ Ls) (hLs : Ls ≤ 2560) (hC : CR mem 0 G) (hR : MR mem 410 G) (kk : ∀ m G, CR m 0 G → MR m 410 G → LX l g nm b Ls xs sh i 846 [] m) : LX l g nm b Ls xs sh i 747 [] mem := by
  have h60 : nK G.1 ≤ 60 := hC.2.1.2.2.2.1.1
  refine x_aload_n d_La_law_747 rfl ?_
  refine x_aload_b d_La_law_748 rfl ?_
  refine x_iload_n d_La_law_749 rfl ?_
  refine x_iconst (v := nI 1) d_La_law_750 (by decide) ?_
  refine x_iadd d_La_law_751 ?_
  rw [nI_add]
  refine x_sld (by omega) hLs d_La_law_752 ?_
  refine x_aload_b d_La_law_753 rfl ?_
  refine x_iload_n d_La_law_754 rfl ?_
  refine x_iconst (v := nI 2) d_La_law_755 (by decide) ?_
  refine x_iadd d_La_law_756 ?_
  rw [nI_add]
  refine x_sld (by omega) hLs d_La_law_757 ?_
  refine x_aload_b d_La_law_758 rfl ?_
  refine x_iload_n d_La_law_759 rfl ?_
  refine x_iconst (v := nI 3) d_La_law_760 (by decide) ?_
  refine x_iadd d_La_law_761 ?_
  rw [nI_add]
  refine x_sld (by omega) hLs d_La_law_762 ?_
  refine x_v3i d_La_law_763 ml_La_104 v_Cc_best rfl ⟨rfl, rfl⟩ hL.io (Nat.le_of_ble_eq_true rfl) (ct_Cc_best hL hC) (fun r763 mem763 h763 => ?_)
  obtain ⟨e1, hC1, F1⟩ := h763
  subst e1
  have hR1 := hR.mv (m := mem763) (fun o h1 h2 => F1 o (by omega))
  refine x_aload_n d_La_law_766 rfl ?_
  refine x_aload_b d_La_law_767 rfl ?_
  refine x_iload_n d_La_law_768 rfl ?_
  refine x_iconst (v := nI 1) d_La_law_769 (by decide) ?_
  refine x_iadd d_La_law_770 ?_
  rw [nI_add]
  refine x_sld (by omega) hLs d_La_law_771 ?_
  refine x_aload_b d_La_law_772 rfl ?_
  refine x_iload_n d_La_law_773 rfl ?_
  refine x_iconst (v := nI 2) d_La_law_774 (by decide) ?_
  refine x_iadd d_La_law_775 ?_
  rw [nI_add]
  refine x_sld (by omega) hLs d_La_law_776 ?_
  refine x_aload_b d_La_law_777 rfl ?_
  refine x_iload_n d_La_law_778 rfl ?_
  refine x_iconst (v := nI 3) d_La_law_779 (by decide) ?_
  refine x_iadd d_La_law_780 ?_
  rw [nI_add]
  refine x_sld (by omega) hLs d_La_law_781 ?_
  refine x_v3i d_La_law_782 ml_La_107 v_Mo_best rfl ⟨rfl, rfl⟩ hM.io (Nat.le_of_ble_eq_true rfl) (ct_Mo_best hM hR1 h60) (fun r782 mem782 h782 => ?_)
  obtain ⟨e2, hR2, F2⟩ := h782
  subst e2
  have hC2 := hC1.mv (m := mem782) (fun o h1 h2 => F2 o (by omega))
  refine x_icmp_eq (tgt := 846) d_La_law_785 (by decide) (fun c785 => ?_) (fun c785 => ?_)
  · exact kk _ _ hC2 hR2
  · exact absurd rfl c785
theorem arm_suits (hL : LayCc sh 0) (hM : LayMo sh 410) (hi : i + 5 ≤ Ls) (hLs : Ls ≤ 2560) (hC : CR mem 0 G) (hR : MR mem 410 G) (kk : ∀ m G, CR m 0 G → MR m 410 G → LX l g nm b Ls xs sh i 846 [] m) : LX l g nm b Ls xs sh i 790 [] mem := by
  have h60 : nK G.1 ≤ 60 := hC.2.1.2.2.2.1.1
  refine x_aload_n d_La_law_790 rfl ?_
  refine x_aload_b d_La_law_791 rfl ?_
  refine x_iload_n d_La_law_792 rfl ?_
  refine x_iconst (v := nI 1) d_La_law_793 (by decide) ?_
  refine x_iadd d_La_law_794 ?_
  rw [nI_add]
  refine x_sld (by omega) hLs d_La_law_795 ?_
  refine x_v1i d_La_law_796 ml_La_108 v_Cc_suits rfl ⟨rfl, rfl⟩ hL.io (Nat.le_of_ble_eq_true rfl) (ct_Cc_suits hL hC) (fun r796 mem796 h796 => ?_)
  obtain ⟨e1, hC1, F1⟩ := h796
  subst e1
  have hR1 := hR.mv (m := mem796) (fun o h1 h2 => F1 o (by omega))
  refine x_aload_n d_La_law_799 rfl ?_
  refine x_aload_b d_La_law_800 rfl ?_
  refine x_iload_n d_La_law_801 rfl ?_
  refine x_iconst (v := nI 1) d_La_law_802 (by decide) ?_
  refine x_iadd d_La_law_803 ?_
  rw [nI_add]
  refine x_sld (by omega) hLs d_La_law_804 ?_
  refine x_v1i d_La_law_805 ml_La_111 v_Mo_suits rfl ⟨rfl, rfl⟩ hM.io (Nat.le_of_ble_eq_true rfl) (ct_Mo_suits hM hR1) (fun r805 mem805 h805 => ?_)
  obtain ⟨e2, hR2, F2⟩ := h805
  subst e2
  have hC2 := hC1.mv (m := mem805) (fun o h1 h2 => F2 o (by omega))
  refine x_icmp_eq (tgt := 846) d_La_law_808 (by decide) (fun c808 => ?_) (fun c808 => ?_)
  · exact kk _ _ hC2 hR2
  · exact absurd rfl c808
theorem arm_coverAll (hL : LayCc sh 0) (hM : LayMo sh 410) (hi : i + 5 ≤ Ls) (hLs : Ls ≤ 2560) (hC : CR mem 0 G) (hR : MR mem 410 G) (kk : ∀ m G, CR m 0 G → MR m 410 G → LX l g nm b Ls xs sh i 846 [] m) : LX l g nm b Ls xs sh i 813 [] mem := by
  have h60 : nK G.1 ≤ 60 := hC.2.1.2.2.2.1.1
  refine x_aload_n d_La_law_813 rfl ?_
  refine x_aload_b d_La_law_814 rfl ?_
  refine x_iload_n d_La_law_815 rfl ?_
  refine x_iconst (v := nI 1) d_La_law_816 (by decide) ?_
  refine x_iadd d_La_law_817 ?_
  rw [nI_add]
  refine x_sld (by omega) hLs d_La_law_818 ?_
  refine x_aload_b d_La_law_819 rfl ?_
  refine x_iload_n d_La_law_820 rfl ?_
  refine x_iconst (v := nI 2) d_La_law_821 (by decide) ?_
  refine x_iadd d_La_law_822 ?_
  rw [nI_add]
  refine x_sld (by omega) hLs d_La_law_823 ?_
  refine x_v2i d_La_law_824 ml_La_112 v_Cc_coverAll rfl ⟨rfl, rfl⟩ hL.io (Nat.le_of_ble_eq_true rfl) (ct_Cc_coverAll hL hC) (fun r824 mem824 h824 => ?_)
  obtain ⟨e1, hC1, F1⟩ := h824
  subst e1
  have hR1 := hR.mv (m := mem824) (fun o h1 h2 => F1 o (by omega))
  refine x_aload_n d_La_law_827 rfl ?_
  refine x_aload_b d_La_law_828 rfl ?_
  refine x_iload_n d_La_law_829 rfl ?_
  refine x_iconst (v := nI 1) d_La_law_830 (by decide) ?_
  refine x_iadd d_La_law_831 ?_
  rw [nI_add]
  refine x_sld (by omega) hLs d_La_law_832 ?_
  refine x_aload_b d_La_law_833 rfl ?_
  refine x_iload_n d_La_law_834 rfl ?_
  refine x_iconst (v := nI 2) d_La_law_835 (by decide) ?_
  refine x_iadd d_La_law_836 ?_
  rw [nI_add]
  refine x_sld (by omega) hLs d_La_law_837 ?_
  refine x_v2i d_La_law_838 ml_La_115 v_Mo_coverAll rfl ⟨rfl, rfl⟩ hM.io (Nat.le_of_ble_eq_true rfl) (ct_Mo_coverAll hM hR1 h60) (fun r838 mem838 h838 => ?_)
  obtain ⟨e2, hR2, F2⟩ := h838
  subst e2
  have hC2 := hC1.mv (m := mem838) (fun o h1 h2 => F2 o (by omega))
  refine x_icmp_eq (tgt := 846) d_La_law_841 (by decide) (fun c841 => ?_) (fun c841 => ?_)
  · exact kk _ _ hC2 hR2
  · exact absurd rfl c841
end
