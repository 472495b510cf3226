/-! floorMod, History, Choice -/
def R_JM : String := "java/lang/Math"
abbrev c_JM_fm : ByteArray := prog_12_method_50_code
def y_JM_fm : MethodName := ⟨R_JM, "floorMod", "(II)I"⟩
theorem d_JM_fm_0 : decode c_JM_fm 0 = .ok (.iload_n 0, 1) := by decide +kernel
theorem d_JM_fm_1 : decode c_JM_fm 1 = .ok (.iload_n 1, 1) := by decide +kernel
theorem d_JM_fm_2 : decode c_JM_fm 2 = .ok (.irem, 1) := by decide +kernel
theorem d_JM_fm_3 : decode c_JM_fm 3 = .ok (.istore_n 2, 1) := by decide +kernel
theorem d_JM_fm_4 : decode c_JM_fm 4 = .ok (.iload_n 0, 1) := by decide +kernel
theorem d_JM_fm_5 : decode c_JM_fm 5 = .ok (.iload_n 1, 1) := by decide +kernel
theorem d_JM_fm_6 : decode c_JM_fm 6 = .ok (.ixor, 1) := by decide +kernel
theorem d_JM_fm_7 : decode c_JM_fm 7 = .ok (.ifCond .ge 11, 3) := by decide +kernel
theorem d_JM_fm_18 : decode c_JM_fm 18 = .ok (.iload_n 2, 1) := by decide +kernel
theorem d_JM_fm_19 : decode c_JM_fm 19 = .ok (.ireturn, 1) := by decide +kernel
theorem v_JM_fm : VS y_JM_fm c_JM_fm 3 (some FieldType.int) 2 := ⟨⟨by decide +kernel, by decide +kernel, by decide +kernel⟩, tg2 78 (by decide +kernel) rfl, j_math, tg2 79 (by decide +kernel) rfl⟩
abbrev M_JM_fm : Mt := (R_JM, y_JM_fm, c_JM_fm, 3, (some FieldType.int), { frames := 0, cells := 0, slots := 0, locals := 0 })
theorem xor4 : ∀ T, T < 8 → (0 : Int32) ≤ nI T ^^^ nI 4 := by decide
section
variable {l : Launch} {g : XG} {M M' : Mt} {F : XFin} {pc : Nat} {L : List (Option Value)} {st rest : List Value} {N : Option Nat} {sh : Nat → Sh} {mem : Mem} {c n idx : Nat} {Q' : XP} {As : List Value}
theorem x_callSJ (hdg : decode M.2.2.1 pc = .ok (.invokestatic idx, 3)) (hl : Cond.methodLink M.1 idx M'.2.1 ∈ tbG) (hv : VS M'.2.1 M'.2.2.1 M'.2.2.2.1 M'.2.2.2.2.1 As.length) (hR : roomB M M' c n = true) (hst : st = As.reverse ++ rest) (hw : (rest.map fun v => v.category).sum ≤ 8) (hc : Ct l g M' As N sh mem Q')
    (kk : ∀ (v : Option Value) (N' : Option Nat) (sh' : Nat → Sh) (mem' : Mem), Q' v N' sh' mem' → X l g M F (pc + 3) L (v.toList ++ rest) N' sh' mem' (c + M'.2.2.2.2.2.cells) (n + M'.2.2.2.2.2.slots)) : X l g M F pc L st N sh mem c n := by
  intro p e s m args below meth cd H locs ls C hW hS hL
  have hts := C.2.2.2.2.2.2.2.1
  have hK := C.2.2.2.2.2.2.2.2.1
  obtain ⟨hd, hv1, hv3, hv4⟩ := hv
  obtain ⟨hR1, hR2⟩ := roomB_ok hR
  subst hst
  refine w_call (va_runS (S := ⟨C.1, C.2.1, rfl, C.2.2.2.1, hts⟩) (hM := hc) (As := As) (rest := rest) (va_cwS As.length hts (good_ws (own := M.1) (idx := idx) [.methodLink M.1 idx M'.2.1, .static M'.2.1, .initialized M'.2.1.cls] (fun w hw => by
      simp only [List.mem_cons, List.not_mem_nil, or_false] at hw
      rcases hw with h | h | h <;> rw [h]
      · exact hl
      · exact hv1
      · exact hv3) hv4) rfl rfl rfl hd hR1) ⟨xPre_blind g _ N sh mem, fun U hU hW1 => ⟨rfl, by rw [hU]; exact hW, hK.warm hW1, by rw [hU]; exact Nat.le_trans C.2.2.2.2.2.2.2.2.2 hS.1⟩⟩ rfl rfl (by rw [C.2.2.1]; exact hL.1) rfl (by show 2 * 0 + _ ≤ 8; omega) hdg hR2) hS fun v N' sh' mem' H1 locs1 hQ hW1 hS1 => ?_
  exact kk v N' sh' mem' hQ _ _ _ _ _ _ _ _ _ _ _ C hW1 hS1 hL
end
theorem Met.ofWF {l : Launch} {y : MethodName} {ws ws' : List Cond} {rm : Room} {Pc : Array Value → State → Prop} {Qc : Array Value → State → Outcome → State → Prop} {mc ms : Nat} {free : Addr → Prop} {cc : ByteArray} {maxL : Nat} {ret : Option FieldType} (hy : plainFor y = true) (hw : ws = Cond.code y cc maxL ret :: ws')
    (body : ∀ p e s m args below meth c s₁, BodyLoose p l y (headSpec ws rm) cc maxL ret e s m args below meth c s₁ → c.maxLocals = maxL → Pc args s → W p l e (headSpec ws rm).room s m args below meth c s.heap [] 0 0 (MQ below Qc args s mc ms free) (entryFrame m args maxL)) : Met l y ws rm Pc Qc mc ms free := by
  refine MetFree.of_bodyRF (code := cc) (maxLocals := maxL) (ret := ret) hy ?_ ?_
  · intro args s m h hn
    obtain ⟨meth, c, h1, h2, h3, h4, h5, h6, -, -⟩ := Cond.code_spec hn (atoms_spec (ws := ws) h _ (by rw [hw]; exact List.mem_cons_self))
    exact ⟨meth, c, h1, h2, h3, h4, h5, h6⟩
  · intro p e s m args below meth c s₁ B hml hP _ hst
    have hh0 : s₁.heap = s.heap := by rw [B.state]; rfl
    obtain ⟨t, a1, o, b1, b2, b3⟩ := body p e s m args below meth c s₁ B hml hP s₁ hh0 (Stand.of_body B)
    exact ⟨t, o, hst.trans a1, b1, b2, ⟨b3.1, b3.2⟩⟩
theorem x_beginF {l : Launch} {g : XG} {M : Mt} {N : Option Nat} {sh : Nat → Sh} {mem : Mem} {Q : XP} {as : List Value} {L0 : List (Option Value)} (hL0 : as.map some ++ List.replicate (M.2.2.2.1 - as.length) none = L0) (hcat0 : as.all (fun v => Nat.beq v.category 1) = true) (hlen0 : Nat.ble as.length M.2.2.2.1 = true) (hy : plainFor M.2.1 = true) (hown : M.1 = M.2.1.cls) (h : X l g M (XF g Q M) 0 L0 [] N sh mem 0 0) : Ct l g M as N sh mem Q := by
  have hcat : ∀ v ∈ as, v.category = 1 := fun v hv => Nat.eq_of_beq_eq_true (List.all_eq_true.mp hcat0 v hv)
  have hlen : as.length ≤ M.2.2.2.1 := Nat.le_of_ble_eq_true hlen0
  refine Met.ofWF (cc := M.2.2.1) (maxL := M.2.2.2.1) (ret := M.2.2.2.2.1) hy rfl ?_
  intro p e s m args below meth c s₁ B hml hv
  obtain ⟨rfl, hWd, hK, hz⟩ := hv
  have hts := atoms_spec (ws := Cond.code M.2.1 M.2.2.1 M.2.2.2.1 M.2.2.2.2.1 :: tbG) B.pre
  have hl := lv_entry as (n := M.2.2.2.1) (by rw [lg_sl1 as hcat]; exact hlen)
  rw [lg_entry_eq]
  generalize (lg_sl as ++ List.replicate (M.2.2.2.1 - (lg_sl as).length) Slot.unset).toArray = ls at hl ⊢
  have hf : s.vm.findClass M.2.1.cls = some m.cls := findClass_of_methodNamed B.named
  refine h p e s m as.toArray below meth c s.heap [] ls ⟨B.exec, B.bytes, hml, by rw [hown]; exact hf, B.returns, B.notSynchronized, (name_of_methodNamed B.named B.method).1, fun w hw => hts w (List.mem_cons_of_mem _ hw), hK, hz⟩ hWd va_S.rf ⟨hl.1, hl.2.1, fun i v hi => ?_⟩
  subst hL0
  by_cases hia : i < as.length
  · have h1 : (as.map some ++ List.replicate (M.2.2.2.1 - as.length) none)[i]? = (as.map some)[i]? := List.getElem?_append_left (by simpa using hia)
    rw [h1, List.getElem?_map] at hi
    cases ha : as[i]? with
    | none => rw [ha] at hi; cases hi
    | some w =>
      rw [ha] at hi
      have hw : w = v := Option.some.inj (Option.some.inj hi)
      subst hw
      have h2 := lv_args1 as 0 hcat i w ha
      rw [Nat.zero_add] at h2
      exact ⟨hl.2.2 _ h2, hcat w (List.mem_of_getElem? ha)⟩
  · rw [List.getElem?_append_right (by simpa using hia), List.getElem?_replicate] at hi
    split at hi <;> cases hi
def pushH (H : List RS) (R : RS) : List RS := if H.length < 4 then H ++ [R] else H.tail ++ [R]
def HistRep (mem : Mem) (η : Nat) (H : List RS) : Prop := H.length ≤ 4 ∧ ∃ o, o < 4 ∧ mem η 1 = nI o ∧ mem η 2 = nI H.length ∧ ∀ t R, H[t]? = some R → Inv R ∧ BookRep mem (η + 2 + 48 * ((o + t) % 4)) R
theorem HistRep.mv {mem m : Mem} {η : Nat} {H : List RS} (h : HistRep mem η H) (hm : ∀ o, η ≤ o → o < η + 194 → m o = mem o) : HistRep m η H := by
  obtain ⟨h1, o, h2, h3, h4, h5⟩ := h
  refine ⟨h1, o, h2, by rw [hm _ (by omega) (by omega)]; exact h3, by rw [hm _ (by omega) (by omega)]; exact h4, fun t R ht => ?_⟩
  obtain ⟨k1, k2⟩ := h5 t R ht
  exact ⟨k1, k2.mv k1 (fun o h6 h7 => hm _ (by omega) (by omega))⟩
def ChRep (mem : Mem) (χ : Nat) (c : Option (Nat × Nat × Nat × Nat)) : Prop := match c with
  | none => mem χ 0 = nI 0
  | some q => mem χ 0 = nI 1 ∧ mem χ 1 = nI q.1 ∧ mem χ 2 = nI q.2.1 ∧ mem χ 3 = nI q.2.2.1 ∧ mem χ 4 = nI q.2.2.2 ∧ q.2.2.1 < 2 ^ 31 ∧ q.2.2.2 < 2 ^ 31
def offerS (c : Option (Nat × Nat × Nat × Nat)) (r y w p : Nat) : Option (Nat × Nat × Nat × Nat) := match c with
  | none => some (r, y, w, p)
  | some q => if w < q.2.2.1 ∨ (w = q.2.2.1 ∧ p < q.2.2.2) then some (r, y, w, p) else some q
section
variable {l : Launch} {g : XG} {sh : Nat → Sh} {mem : Mem} {η : Nat} {H : List RS}
theorem ct_JM_fm {T : Nat} (hT : T < 8) : Ct l g M_JM_fm [.int (nI T), .int (nI 4)] none sh mem (Pq (.int (nI (T % 4))) none sh mem) := by
  refine x_beginF rfl rfl rfl (by decide +kernel) rfl ?_
  refine x_iload_n d_JM_fm_0 rfl ?_
  refine x_iload_n d_JM_fm_1 rfl ?_
  refine x_irem d_JM_fm_2 (by decide) ?_
  rw [pk_rem (by omega) (by omega) (by omega)]
  refine x_istore_n d_JM_fm_3 (by decide) ?_
  refine x_iload_n d_JM_fm_4 rfl ?_
  refine x_iload_n d_JM_fm_5 rfl ?_
  refine x_ixor d_JM_fm_6 ?_
  refine x_if_ge (tgt := 18) d_JM_fm_7 (by decide) (fun c7 => ?_) (fun c7 => ?_)
  · refine x_iload_n d_JM_fm_18 rfl ?_
    refine x_iret rfl rfl d_JM_fm_19 (Nat.zero_le _) (Nat.zero_le _) ?_
    exact ⟨rfl, rfl, rfl, rfl⟩
  · exact absurd (xor4 T hT) c7
theorem ct_Hi_slotAt (hH : LayHi sh η) {T : Nat} (hT : T < 8) : Ct l g M_Hi_slotAt [rf g η, .int (nI T)] none sh mem (Pq (rf g (η + 2 + 48 * (T % 4))) none sh mem) := by
  refine x_begin rfl rfl rfl (by decide) rfl ?_
  refine x_iload_n d_Hi_slotAt_0 rfl ?_
  refine x_iconst (v := nI 4) d_Hi_slotAt_1 (by decide) ?_
  refine x_callSJ (M' := M_JM_fm) (As := [.int (nI T), .int (nI 4)]) d_Hi_slotAt_2 ml_Hi_33 v_JM_fm rfl rfl (Nat.le_of_ble_eq_true rfl) (ct_JM_fm hT) (fun v N' sh' mem' hq => ?_)
  obtain ⟨rfl, rfl, rfl, rfl⟩ := hq
  refine x_istore_n (x := nI (T % 4)) (st := []) d_Hi_slotAt_5 (by decide) ?_
  refine x_iload_n d_Hi_slotAt_6 rfl ?_
  refine x_if_lt (tgt := 28) d_Hi_slotAt_7 (by decide) (fun c7 => ?_) (fun c7 => ?_)
  · exact absurd c7 (nI_pos (by omega))
  · refine x_iload_n d_Hi_slotAt_10 rfl ?_
    refine x_aload_n d_Hi_slotAt_11 rfl ?_
    refine x_getR hH.f0 rfl fs_Hi_11 d_Hi_slotAt_12 ?_
    refine x_alenR hH.f1 d_Hi_slotAt_15 ?_
    refine x_icmp_ge (tgt := 28) d_Hi_slotAt_16 (by decide) (fun c16 => ?_) (fun c16 => ?_)
    · exact absurd c16 (nI_ge (by omega) (by omega))
    · refine x_aload_n d_Hi_slotAt_19 rfl ?_
      refine x_getR hH.f0 rfl fs_Hi_11 d_Hi_slotAt_20 ?_
      refine x_iload_n d_Hi_slotAt_23 rfl ?_
      refine x_aald (r := η + 2 + 48 * (T % 4)) hH.f1 (vp_in_nI (by omega) (by omega)) (by rw [nI_clamp (by omega)]; exact if_pos (by omega)) d_Hi_slotAt_24 ?_
      refine x_goto (tgt := 29) d_Hi_slotAt_25 (by decide) ?_
      refine x_aret rfl d_Hi_slotAt_29 (Nat.zero_le _) (Nat.zero_le _) ?_
      exact ⟨rfl, rfl, rfl, rfl⟩
theorem ct_Hi_record {β : Nat} {R : RS} (hH : LayHi sh η) (hB : LayBk sh β) (hd : β + 48 ≤ η ∨ η + 194 ≤ β) (hh : HistRep mem η H) (hI : Inv R) (hb : BookRep mem β R) : Ct l g M_Hi_record [rf g η, rf g β] none sh mem (Rv none sh (fun m => Fr η (η + 194) mem m ∧ HistRep m η (pushH H R))) := by
  obtain ⟨h1, o, h2, h3, h4, h5⟩ := hh
  have hs := hH.bk ((o + H.length) % 4) (by omega)
  refine x_begin rfl rfl rfl (by decide) rfl ?_
  refine x_aload_n d_Hi_record_0 rfl ?_
  refine x_aload_n d_Hi_record_1 rfl ?_
  refine x_getI hH.f0 rfl fs_Hi_18 d_Hi_record_2 ?_
  rw [h3]
  refine x_aload_n d_Hi_record_5 rfl ?_
  refine x_getI hH.f0 rfl fs_Hi_22 d_Hi_record_6 ?_
  rw [h4]
  refine x_iadd d_Hi_record_9 ?_
  rw [nI_add]
  refine x_v1p d_Hi_record_10 ml_Hi_25 v_Hi_slotAt rfl ⟨rfl, rfl⟩ hH.io (Nat.le_of_ble_eq_true rfl) (ct_Hi_slotAt hH (by omega)) ?_
  refine x_astore_n d_Hi_record_13 (by decide) ?_
  refine x_aload_n d_Hi_record_14 rfl ?_
  refine x_ifnonnull (tgt := 19) d_Hi_record_15 (by decide) ?_
  refine x_aload_n d_Hi_record_19 rfl ?_
  refine x_aload_n d_Hi_record_20 rfl ?_
  refine x_v1v d_Hi_record_21 ml_Hi_29 v_Bk_copyFrom rfl ⟨rfl, rfl⟩ hs.io (Nat.le_of_ble_eq_true rfl) (ct_Bk_copyFrom hs hB (by omega)) (fun mem21 h21 => ?_)
  obtain ⟨hF, hC⟩ := h21
  have e1 : mem21 η = mem η := hF _ (by omega)
  have hR := hC R hI hb
  refine x_aload_n d_Hi_record_24 rfl ?_
  refine x_getI hH.f0 rfl fs_Hi_22 d_Hi_record_25 ?_
  rw [e1, h4]
  refine x_iconst (v := nI 4) d_Hi_record_28 (by decide) ?_
  refine x_icmp_ge (tgt := 45) d_Hi_record_29 (by decide) (fun c29 => ?_) (fun c29 => ?_)
  · have c29 := nI_le' (by omega) (by omega) c29
    refine x_aload_n d_Hi_record_45 rfl ?_
    refine x_aload_n d_Hi_record_46 rfl ?_
    refine x_getI hH.f0 rfl fs_Hi_18 d_Hi_record_47 ?_
    rw [e1, h3]
    refine x_iconst (v := nI 1) d_Hi_record_50 (by decide) ?_
    refine x_iadd d_Hi_record_51 ?_
    rw [nI_add]
    refine x_iconst (v := nI 4) d_Hi_record_52 (by decide) ?_
    refine x_irem d_Hi_record_53 (by decide) ?_
    rw [pk_rem (by omega) (by omega) (by omega)]
    refine x_putI hH.f0 rfl ps_Hi_18 rfl rfl d_Hi_record_54 ?_
    refine x_vret rfl d_Hi_record_57 (Nat.zero_le _) (Nat.zero_le _) ?_
    have fr : ∀ v k, Fr η (η + 194) mem (um mem21 η k v) := fun v k => (hF.up (by omega) (by omega)).tr (Fr.um (by omega) (by omega))
    first
      | (refine ⟨rfl, rfl, rfl, fr _ _, ?_⟩
         rw [pushH, if_pos c29]
         refine ⟨by rw [List.length_append, List.length_singleton]; omega, o, h2, by rw [um_k _ _ (by omega), e1]; exact h3, by rw [um_eq, List.length_append, List.length_singleton], fun t R1 ht => ?_⟩
         by_cases htl : t < H.length
         · rw [List.getElem?_append_left htl] at ht
           obtain ⟨k1, k2⟩ := h5 t R1 ht
           exact ⟨k1, k2.mv k1 (fun o' h6 h7 => by rw [um_ne _ _ _ (by omega)]; exact hF _ (by omega))⟩
         · have htl2 : t = H.length := by
             have := (List.getElem?_eq_some_iff.mp ht).1
             rw [List.length_append, List.length_singleton] at this
             omega
           subst htl2
           rw [List.getElem?_append_right (Nat.le_refl _), Nat.sub_self] at ht
           cases ht
           exact ⟨hI, hR.mv hI (fun o' h6 h7 => um_ne _ _ _ (by omega))⟩)
      | (refine ⟨rfl, rfl, rfl, fr _ _, ?_⟩
         have h44 : H.length = 4 := by omega
         rw [pushH, if_neg (by omega)]
         refine ⟨by rw [List.length_append, List.length_singleton, List.length_tail]; omega, (o + 1) % 4, by omega, by rw [um_eq], by rw [um_k _ _ (by omega), e1, h4, List.length_append, List.length_singleton, List.length_tail, h44], fun t R1 ht => ?_⟩
         by_cases htl : t < 3
         · rw [List.getElem?_append_left (by rw [List.length_tail]; omega), List.getElem?_tail] at ht
           obtain ⟨k1, k2⟩ := h5 (t + 1) R1 ht
           rw [show ((o + 1) % 4 + t) % 4 = (o + (t + 1)) % 4 by omega]
           exact ⟨k1, k2.mv k1 (fun o' h6 h7 => by rw [um_ne _ _ _ (by omega)]; exact hF _ (by omega))⟩
         · have htl2 : t = 3 := by
             have := (List.getElem?_eq_some_iff.mp ht).1
             rw [List.length_append, List.length_singleton, List.length_tail] at this
             omega
           subst htl2
           rw [List.getElem?_append_right (by rw [List.length_tail]; omega), List.length_tail, h44] at ht
           cases ht
           rw [show ((o + 1) % 4 + 3) % 4 = (o + H.length) % 4 by omega]
           exact ⟨hI, hR.mv hI (fun o' h6 h7 => um_ne _ _ _ (by omega))⟩)
  · have c29 := nI_nle' (by omega) (by omega) c29
    refine x_aload_n d_Hi_record_32 rfl ?_
    refine x_dup d_Hi_record_33 rfl ?_
    refine x_getI hH.f0 rfl fs_Hi_22 d_Hi_record_34 ?_
    rw [e1, h4]
    refine x_iconst (v := nI 1) d_Hi_record_37 (by decide) ?_
    refine x_iadd d_Hi_record_38 ?_
    rw [nI_add]
    refine x_putI hH.f0 rfl ps_Hi_22 rfl rfl d_Hi_record_39 ?_
    refine x_goto (tgt := 57) d_Hi_record_42 (by decide) ?_
    refine x_vret rfl d_Hi_record_57 (Nat.zero_le _) (Nat.zero_le _) ?_
    have fr : ∀ v k, Fr η (η + 194) mem (um mem21 η k v) := fun v k => (hF.up (by omega) (by omega)).tr (Fr.um (by omega) (by omega))
    first
      | (refine ⟨rfl, rfl, rfl, fr _ _, ?_⟩
         rw [pushH, if_pos c29]
         refine ⟨by rw [List.length_append, List.length_singleton]; omega, o, h2, by rw [um_k _ _ (by omega), e1]; exact h3, by rw [um_eq, List.length_append, List.length_singleton], fun t R1 ht => ?_⟩
         by_cases htl : t < H.length
         · rw [List.getElem?_append_left htl] at ht
           obtain ⟨k1, k2⟩ := h5 t R1 ht
           exact ⟨k1, k2.mv k1 (fun o' h6 h7 => by rw [um_ne _ _ _ (by omega)]; exact hF _ (by omega))⟩
         · have htl2 : t = H.length := by
             have := (List.getElem?_eq_some_iff.mp ht).1
             rw [List.length_append, List.length_singleton] at this
             omega
           subst htl2
           rw [List.getElem?_append_right (Nat.le_refl _), Nat.sub_self] at ht
           cases ht
           exact ⟨hI, hR.mv hI (fun o' h6 h7 => um_ne _ _ _ (by omega))⟩)
      | (refine ⟨rfl, rfl, rfl, fr _ _, ?_⟩
         have h44 : H.length = 4 := by omega
         rw [pushH, if_neg (by omega)]
         refine ⟨by rw [List.length_append, List.length_singleton, List.length_tail]; omega, (o + 1) % 4, by omega, by rw [um_eq], by rw [um_k _ _ (by omega), e1, h4, List.length_append, List.length_singleton, List.length_tail, h44], fun t R1 ht => ?_⟩
         by_cases htl : t < 3
         · rw [List.getElem?_append_left (by rw [List.length_tail]; omega), List.getElem?_tail] at ht
           obtain ⟨k1, k2⟩ := h5 (t + 1) R1 ht
           rw [show ((o + 1) % 4 + t) % 4 = (o + (t + 1)) % 4 by omega]
           exact ⟨k1, k2.mv k1 (fun o' h6 h7 => by rw [um_ne _ _ _ (by omega)]; exact hF _ (by omega))⟩
         · have htl2 : t = 3 := by
             have := (List.getElem?_eq_some_iff.mp ht).1
             rw [List.length_append, List.length_singleton, List.length_tail] at this
             omega
           subst htl2
           rw [List.getElem?_append_right (by rw [List.length_tail]; omega), List.length_tail, h44] at ht
           cases ht
           rw [show ((o + 1) % 4 + 3) % 4 = (o + H.length) % 4 by omega]
           exact ⟨hI, hR.mv hI (fun o' h6 h7 => um_ne _ _ _ (by omega))⟩)
theorem ct_Hi_moveLatestTo {β : Nat} {R : RS} (hH : LayHi sh η) (hB : LayBk sh β) (hd : β + 48 ≤ η ∨ η + 194 ≤ β) (hh : HistRep mem η H) (hl : H.getLast? = some R) : Ct l g M_Hi_moveLatestTo [rf g η, rf g β] none sh mem (Rv none sh (fun m => (∀ o, (o < β ∨ β + 48 ≤ o) → o ≠ η → m o = mem o) ∧ HistRep m η H.dropLast ∧ Inv R ∧ BookRep m β R)) := by
  obtain ⟨h1, o, h2, h3, h4, h5⟩ := hh
  rw [List.getLast?_eq_getElem?] at hl
  have hlen := (List.getElem?_eq_some_iff.mp hl).1
  obtain ⟨hI, hb⟩ := h5 _ R hl
  have hs := hH.bk ((o + (H.length - 1)) % 4) (by omega)
  refine x_begin rfl rfl rfl (by decide) rfl ?_
  refine x_aload_n d_Hi_moveLatestTo_0 rfl ?_
  refine x_aload_n d_Hi_moveLatestTo_1 rfl ?_
  refine x_getI hH.f0 rfl fs_Hi_18 d_Hi_moveLatestTo_2 ?_
  rw [h3]
  refine x_aload_n d_Hi_moveLatestTo_5 rfl ?_
  refine x_getI hH.f0 rfl fs_Hi_22 d_Hi_moveLatestTo_6 ?_
  rw [h4]
  refine x_iadd d_Hi_moveLatestTo_9 ?_
  rw [nI_add]
  refine x_iconst (v := nI 1) d_Hi_moveLatestTo_10 (by decide) ?_
  refine x_isub d_Hi_moveLatestTo_11 ?_
  rw [pk_sub (by omega), show o + H.length - 1 = o + (H.length - 1) by omega]
  refine x_v1p d_Hi_moveLatestTo_12 ml_Hi_25 v_Hi_slotAt rfl ⟨rfl, rfl⟩ hH.io (Nat.le_of_ble_eq_true rfl) (ct_Hi_slotAt hH (by omega)) ?_
  refine x_astore_n d_Hi_moveLatestTo_15 (by decide) ?_
  refine x_aload_n d_Hi_moveLatestTo_16 rfl ?_
  refine x_ifnull d_Hi_moveLatestTo_17 ?_
  refine x_aload_n d_Hi_moveLatestTo_20 rfl ?_
  refine x_getI hH.f0 rfl fs_Hi_22 d_Hi_moveLatestTo_21 ?_
  rw [h4]
  refine x_if_gt (tgt := 28) d_Hi_moveLatestTo_24 (by decide) (fun c24 => ?_) (fun c24 => ?_)
  · refine x_aload_n d_Hi_moveLatestTo_28 rfl ?_
    refine x_aload_n d_Hi_moveLatestTo_29 rfl ?_
    refine x_v1v d_Hi_moveLatestTo_30 ml_Hi_29 v_Bk_copyFrom rfl ⟨rfl, rfl⟩ hB.io (Nat.le_of_ble_eq_true rfl) (ct_Bk_copyFrom hB hs (by omega)) (fun mem30 h30 => ?_)
    obtain ⟨hF, hC⟩ := h30
    have e1 : mem30 η = mem η := hF _ (by omega)
    have hR := hC R hI hb
    refine x_aload_n d_Hi_moveLatestTo_33 rfl ?_
    refine x_dup d_Hi_moveLatestTo_34 rfl ?_
    refine x_getI hH.f0 rfl fs_Hi_22 d_Hi_moveLatestTo_35 ?_
    rw [e1, h4]
    refine x_iconst (v := nI 1) d_Hi_moveLatestTo_38 (by decide) ?_
    refine x_isub d_Hi_moveLatestTo_39 ?_
    rw [pk_sub (by omega)]
    refine x_putI hH.f0 rfl ps_Hi_22 rfl rfl d_Hi_moveLatestTo_40 ?_
    refine x_vret rfl d_Hi_moveLatestTo_43 (Nat.zero_le _) (Nat.zero_le _) ?_
    refine ⟨rfl, rfl, rfl, fun o' h6 h7 => by rw [um_ne _ _ _ h7]; exact hF _ (by omega), ⟨by rw [List.length_dropLast]; omega, o, h2, by rw [um_k _ _ (by omega), e1]; exact h3, by rw [um_eq, List.length_dropLast], fun t R1 ht => ?_⟩, hI, hR.mv hI (fun o' h6 h7 => um_ne _ _ _ (by omega))⟩
    have htl := (List.getElem?_eq_some_iff.mp ht).1
    rw [List.length_dropLast] at htl
    rw [List.dropLast_eq_take, List.getElem?_take_of_lt htl] at ht
    obtain ⟨k1, k2⟩ := h5 t R1 ht
    exact ⟨k1, k2.mv k1 (fun o' h6 h7 => by rw [um_ne _ _ _ (by omega)]; exact hF _ (by omega))⟩
  · exact absurd (nI_lt (show 0 < H.length by omega) (by omega)) c24
end
