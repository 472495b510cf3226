/-! calls, a method's start and end -/
def VI (y : MethodName) (b : ByteArray) (mL : Nat) (ret : Option FieldType) (na : Nat) : Prop := (y.cls ≠ "java/lang/invoke/MethodHandle" ∧ y.cls ≠ "java/lang/invoke/VarHandle" ∧ (parseMethodDescriptor y.desc).map (fun d => d.parameters.length) = some na) ∧ Cond.instanceMethod y ∈ tbG ∧ Cond.selects y.cls y y ∈ tbG ∧ Cond.initialized y.cls ∈ tbG ∧ Cond.code y b mL ret ∈ tbG
def VS (y : MethodName) (b : ByteArray) (mL : Nat) (ret : Option FieldType) (na : Nat) : Prop := (y.cls ≠ "java/lang/invoke/MethodHandle" ∧ y.cls ≠ "java/lang/invoke/VarHandle" ∧ (parseMethodDescriptor y.desc).map (fun d => d.parameters.length) = some na) ∧ Cond.static y ∈ tbG ∧ Cond.initialized y.cls ∈ tbG ∧ Cond.code y b mL ret ∈ tbG
def VC (y : MethodName) (b : ByteArray) (mL : Nat) (na : Nat) : Prop := (y.cls ≠ "java/lang/invoke/MethodHandle" ∧ y.cls ≠ "java/lang/invoke/VarHandle" ∧ (parseMethodDescriptor y.desc).map (fun d => d.parameters.length) = some na) ∧ Cond.instanceMethod y ∈ tbG ∧ Cond.initialized y.cls ∈ tbG ∧ Cond.code y b mL none ∈ tbG ∧ y.name = "<init>"
theorem w_call {p : Program} {l : Launch} {e : Env} {R : Room} {s : State} {m : MethodId} {args : Array Value} {below : List Frame} {meth : Method} {c : Code} {H : Heap} {locs : List Loc} {cells slots mc ms pc : Nat} {ls : Array Slot} {st0 rest : List Value} {a : Array Value} {g : XG} {Q : XP} {Qf : State → Prop}
    (hr : va_Run p l e R s m args below meth c H locs cells slots mc ms (F0 m pc ls st0) rest (QQ g Q a) (xA g)) (hS : va_S (xA g) s.heap H locs)
    (kk : ∀ (v : Option Value) (N : Option Nat) (sh : Nat → Sh) (mem : Mem) (H1 : Heap) (locs1 : List Loc), Q v N sh mem → Wd g N sh mem H1 → va_S (xA g) s.heap H1 locs1 → W p l e R s m args below meth c H1 locs1 (cells + mc) (slots + ms) Qf (F0 m (pc + 3) ls (v.toList ++ rest))) : W p l e R s m args below meth c H locs cells slots Qf (F0 m pc ls st0) := by
  intro T hT X
  obtain ⟨v, st₀, t, T', L, h0, X', hL, e1, e2, ⟨⟨v', N, sh, mem, hv, hq, hw⟩, hz, hk⟩, st⟩ := hr T hT X
  cases hv
  rw [h0] at hz hk
  obtain ⟨t2, a1, b1⟩ := kk v N sh mem T'.heap (locs ++ L) hq (by rw [e1]; exact hw)
    ⟨Nat.le_trans hS.1 (by rw [e1]; exact hz), fun q h1 h2 => by rw [e1, hk q (Nat.lt_of_lt_of_le h1 hS.1) h2]; exact hS.2.1 q h1 h2, fun q hq => by
      rcases List.mem_append.mp hq with h | h
      · exact hS.2.2 q h
      · exact hL q h⟩ T' rfl X'
  exact ⟨t2, st t2 a1, b1⟩
theorem xPre_blind (g : XG) (as : List Value) (N : Option Nat) (sh : Nat → Sh) (mem : Mem) : FrameBlind (va_Pc as (xPre g N sh mem)) := fun a U g1 mk h => ⟨h.1, h.2.1, Kd.same (u := U) (U := U.calling g1 mk a) rfl h.2.2.1, h.2.2.2⟩
theorem good_ws {y : MethodName} {b : ByteArray} {mL : Nat} {ret : Option FieldType} {own : String} {idx : Nat} (pre : List Cond) (hp : ∀ w ∈ pre, w ∈ tbG) (hc : Cond.code y b mL ret ∈ tbG) : GoodIn tbG (pre ++ (Cond.code y b mL ret :: tbG)) := fun w hw => by
  have h1 : w ∈ tbG := by
    rcases List.mem_append.mp hw with h | h
    · exact hp w h
    · rcases List.mem_cons.mp h with h | h
      · rw [h]; exact hc
      · exact h
  exact ⟨h1, tbG_good w h1⟩
section XCL
variable {l : Launch} {g : XG} {M M' : Mt} {F : XFin} {pc : Nat} {L : List (Option Value)} {st rest : List Value} {N : Option Nat} {sh : Nat → Sh} {mem : Mem} {c n idx : Nat} {Q' : XP} {As : List Value}
def roomOk (M M' : Mt) (c n : Nat) : Prop := (M'.2.2.2.2.2.frames + 1 ≤ M.2.2.2.2.2.frames ∧ 8 + (M'.2.2.2.1 + 11) + M'.2.2.2.2.2.locals ≤ M.2.2.2.2.2.locals) ∧ c + M'.2.2.2.2.2.cells ≤ M.2.2.2.2.2.cells ∧ n + M'.2.2.2.2.2.slots ≤ M.2.2.2.2.2.slots
def roomB (M M' : Mt) (c n : Nat) : Bool := (Nat.ble (M'.2.2.2.2.2.frames + 1) M.2.2.2.2.2.frames && Nat.ble (8 + (M'.2.2.2.1 + 11) + M'.2.2.2.2.2.locals) M.2.2.2.2.2.locals) && (Nat.ble (c + M'.2.2.2.2.2.cells) M.2.2.2.2.2.cells && Nat.ble (n + M'.2.2.2.2.2.slots) M.2.2.2.2.2.slots)
theorem roomB_ok {M M' : Mt} {c n : Nat} (h : roomB M M' c n = true) : roomOk M M' c n := by
  unfold roomB at h
  simp only [Bool.and_eq_true] at h
  exact ⟨⟨Nat.le_of_ble_eq_true h.1.1, Nat.le_of_ble_eq_true h.1.2⟩, Nat.le_of_ble_eq_true h.2.1, Nat.le_of_ble_eq_true h.2.2⟩
theorem x_callV {o ci : Nat} {fs : List (Option (Option Nat))} (hdg : decode M.2.2.1 pc = .ok (.invokevirtual idx, 3)) (hl : Cond.methodLink M.1 idx M'.2.1 ∈ tbG) (hv : VI M'.2.1 M'.2.2.1 M'.2.2.2.1 M'.2.2.2.2.1 As.length) (hR : roomB M M' c n = true) (hs : sh o = .inl (ci, fs)) (hne : fs ≠ []) (hcl : (vwCl[ci]?).map (fun q => q.1) = some M'.2.1.cls) (hst : st = As.reverse ++ rf g o :: rest) (hw : (rest.map fun v => v.category).sum ≤ 8) (hc : Ct l g M' (rf g o :: As) N sh mem Q')
    (kk : ∀ (v : Option Value) (N' : Option Nat) (sh' : Nat → Sh) (mem' : Mem), Q' v N' sh' mem' → X l g M F (pc + 3) L (v.toList ++ rest) N' sh' mem' (c + M'.2.2.2.2.2.cells) (n + M'.2.2.2.2.2.slots)) : X l g M F pc L st N sh mem c n := by
  intro p e s m args below meth cd H locs ls C hW hS hL
  have hts := C.2.2.2.2.2.2.2.1
  have hK := C.2.2.2.2.2.2.2.2.1
  obtain ⟨hd, hv1, hv2, hv3, hv4⟩ := hv
  obtain ⟨hR1, hR2⟩ := roomB_ok hR
  have hat := hW.2 o (obj_ne hs hne)
  rw [hs] at hat
  subst hst
  obtain ⟨q, hq⟩ : ∃ q, vwCl[ci]? = some q := by
    cases h : vwCl[ci]? with
    | none => rw [h] at hcl; cases hcl
    | some q => exact ⟨q, rfl⟩
  have hq1 : q.1 = M'.2.1.cls := by rw [hq] at hcl; exact Option.some.inj hcl
  have hrv := va_recv hK.1 (va_P1 hat) hq (q0 := 0) rfl
  rw [hq1] at hrv
  refine w_call (va_runV (S := ⟨C.1, C.2.1, rfl, C.2.2.2.1, hts⟩) (hM := hc) (As := As) (rest := rest) (b := g.2.1 + o) (C := M'.2.1.cls) (cwV As.length hts (good_ws (own := M.1) (idx := idx) [.methodLink M.1 idx M'.2.1, .instanceMethod M'.2.1, .selects M'.2.1.cls M'.2.1 M'.2.1, .initialized M'.2.1.cls] (fun w hw => by
      simp only [List.mem_cons, List.not_mem_nil, or_false] at hw
      rcases hw with h | h | h | h <;> rw [h]
      · exact hl
      · exact hv1
      · exact hv2
      · exact hv3) hv4) rfl rfl rfl ⟨rfl, hd⟩ hR1) ⟨xPre_blind g _ N sh mem, hrv, fun U hU hW1 => ⟨rfl, by rw [hU]; exact hW, hK.warm hW1, by rw [hU]; exact Nat.le_trans C.2.2.2.2.2.2.2.2.2 hS.1⟩⟩ rfl rfl (by rw [C.2.2.1]; exact hL.1) rfl (by show 2 * 0 + _ ≤ 8; omega) hdg hR2) hS fun v N' sh' mem' H1 locs1 hQ hW1 hS1 => ?_
  exact kk v N' sh' mem' hQ _ _ _ _ _ _ _ _ _ _ _ C hW1 hS1 hL
theorem x_callS (hdg : decode M.2.2.1 pc = .ok (.invokestatic idx, 3)) (hl : Cond.methodLink M.1 idx M'.2.1 ∈ tbG) (hv : VS M'.2.1 M'.2.2.1 M'.2.2.2.1 M'.2.2.2.2.1 As.length) (hR : roomB M M' c n = true) (hown : M'.2.1.cls = M.1) (hst : st = As.reverse ++ rest) (hw : (rest.map fun v => v.category).sum ≤ 8) (hc : Ct l g M' As N sh mem Q')
    (kk : ∀ (v : Option Value) (N' : Option Nat) (sh' : Nat → Sh) (mem' : Mem), Q' v N' sh' mem' → X l g M F (pc + 3) L (v.toList ++ rest) N' sh' mem' (c + M'.2.2.2.2.2.cells) (n + M'.2.2.2.2.2.slots)) : X l g M F pc L st N sh mem c n := by
  intro p e s m args below meth cd H locs ls C hW hS hL
  have hts := C.2.2.2.2.2.2.2.1
  have hK := C.2.2.2.2.2.2.2.2.1
  obtain ⟨hd, hv1, hv3, hv4⟩ := hv
  obtain ⟨hR1, hR2⟩ := roomB_ok hR
  subst hst
  rw [hown] at hv3
  refine w_call (va_runS (S := ⟨C.1, C.2.1, rfl, C.2.2.2.1, hts⟩) (hM := hc) (As := As) (rest := rest) (cwS As.length hts (good_ws (own := M.1) (idx := idx) [.methodLink M.1 idx M'.2.1, .static M'.2.1, .initialized M.1] (fun w hw => by
      simp only [List.mem_cons, List.not_mem_nil, or_false] at hw
      rcases hw with h | h | h <;> rw [h]
      · exact hl
      · exact hv1
      · exact hv3) hv4) rfl rfl rfl ⟨hown, hd⟩ hR1) ⟨xPre_blind g _ N sh mem, fun U hU hW1 => ⟨rfl, by rw [hU]; exact hW, hK.warm hW1, by rw [hU]; exact Nat.le_trans C.2.2.2.2.2.2.2.2.2 hS.1⟩⟩ rfl rfl (by rw [C.2.2.1]; exact hL.1) rfl (by show 2 * 0 + _ ≤ 8; omega) hdg hR2) hS fun v N' sh' mem' H1 locs1 hQ hW1 hS1 => ?_
  exact kk v N' sh' mem' hQ _ _ _ _ _ _ _ _ _ _ _ C hW1 hS1 hL
theorem x_callI {o : Nat} (hdg : decode M.2.2.1 pc = .ok (.invokespecial idx, 3)) (hl : Cond.methodLink M.1 idx M'.2.1 ∈ tbG) (hv : VC M'.2.1 M'.2.2.1 M'.2.2.2.1 As.length) (hret : M'.2.2.2.2.1 = none) (hR : roomB M M' c n = true) (hst : st = As.reverse ++ rf g o :: rest) (hw : (rest.map fun v => v.category).sum ≤ 8) (hc : Ct l g M' (rf g o :: As) N sh mem Q')
    (kk : ∀ (v : Option Value) (N' : Option Nat) (sh' : Nat → Sh) (mem' : Mem), Q' v N' sh' mem' → X l g M F (pc + 3) L (v.toList ++ rest) N' sh' mem' (c + M'.2.2.2.2.2.cells) (n + M'.2.2.2.2.2.slots)) : X l g M F pc L st N sh mem c n := by
  intro p e s m args below meth cd H locs ls C hW hS hL
  have hts := C.2.2.2.2.2.2.2.1
  have hK := C.2.2.2.2.2.2.2.2.1
  obtain ⟨hd, hv1, hv3, hv4, hv5⟩ := hv
  obtain ⟨hR1, hR2⟩ := roomB_ok hR
  subst hst
  unfold Ct at hc
  rw [hret] at hc
  refine w_call (va_runI (S := ⟨C.1, C.2.1, rfl, C.2.2.2.1, hts⟩) (hM := hc) (As := As) (rest := rest) (b := g.2.1 + o) (cwI As.length hts (good_ws (own := M.1) (idx := idx) [] (fun w hw => by cases hw) hv4) rfl rfl rfl (hts _ hv3) (hts _ hl) (hts _ hv1) hv5 hd hR1) ⟨xPre_blind g _ N sh mem, fun U hU hW1 => ⟨rfl, by rw [hU]; exact hW, hK.warm hW1, by rw [hU]; exact Nat.le_trans C.2.2.2.2.2.2.2.2.2 hS.1⟩⟩ rfl rfl (by rw [C.2.2.1]; exact hL.1) rfl (by show 2 * 0 + _ ≤ 8; omega) hdg hR2) hS fun v N' sh' mem' H1 locs1 hQ hW1 hS1 => ?_
  exact kk v N' sh' mem' hQ _ _ _ _ _ _ _ _ _ _ _ C hW1 hS1 hL
theorem x_callIN {o : Nat} {host : String} (hdg : decode M.2.2.1 pc = .ok (.invokespecial idx, 3)) (hl : ∀ U : State, nestK U → va_Nw (.methodLinkNest M.1 idx M'.2.1 host) U) (hv : VC M'.2.1 M'.2.2.1 M'.2.2.2.1 As.length) (hret : M'.2.2.2.2.1 = none) (hR : roomB M M' c n = true) (hst : st = As.reverse ++ rf g o :: rest) (hw : (rest.map fun v => v.category).sum ≤ 8) (hc : Ct l g M' (rf g o :: As) N sh mem Q')
    (kk : ∀ (v : Option Value) (N' : Option Nat) (sh' : Nat → Sh) (mem' : Mem), Q' v N' sh' mem' → X l g M F (pc + 3) L (v.toList ++ rest) N' sh' mem' (c + M'.2.2.2.2.2.cells) (n + M'.2.2.2.2.2.slots)) : X l g M F pc L st N sh mem c n := by
  intro p e s m args below meth cd H locs ls C hW hS hL
  have hts := C.2.2.2.2.2.2.2.1
  have hK := C.2.2.2.2.2.2.2.2.1
  obtain ⟨hd, hv1, hv3, hv4, hv5⟩ := hv
  obtain ⟨hR1, hR2⟩ := roomB_ok hR
  subst hst
  unfold Ct at hc
  rw [hret] at hc
  refine w_call (va_runIN (S := ⟨C.1, C.2.1, rfl, C.2.2.2.1, hts⟩) (hM := hc) (As := As) (rest := rest) (b := g.2.1 + o) ⟨va_cnB As.length hts (good_ws (own := M.1) (idx := idx) [] (fun w hw => by cases hw) hv4) rfl rfl rfl (hl s hK.2.2) (hts _ hv3) hd hR1, hv5, hts _ hv1⟩ ⟨xPre_blind g _ N sh mem, fun U hU hW1 => ⟨rfl, by rw [hU]; exact hW, hK.warm hW1, by rw [hU]; exact Nat.le_trans C.2.2.2.2.2.2.2.2.2 hS.1⟩⟩ rfl rfl (by rw [C.2.2.1]; exact hL.1) rfl (by show 2 * 0 + _ ≤ 8; omega) hdg hR2) hS fun v N' sh' mem' H1 locs1 hQ hW1 hS1 => ?_
  exact kk v N' sh' mem' hQ _ _ _ _ _ _ _ _ _ _ _ C hW1 hS1 hL
end XCL
section XE
variable {l : Launch} {g : XG} {M : Mt} {pc : Nat} {L : List (Option Value)} {N : Option Nat} {sh : Nat → Sh} {mem : Mem} {c n : Nat} {Q : XP}
theorem x_iret {v : Int32} {ty : FieldType} (hr : M.2.2.2.2.1 = some ty) (hn : narrow ty (.int v) = .int v) (hdg : decode M.2.2.1 pc = .ok (.ireturn, 1)) (hc : c ≤ M.2.2.2.2.2.cells) (hs : n ≤ M.2.2.2.2.2.slots) (hQ : Q (some (.int v)) N sh mem) : X l g M (XF g Q M) pc L [.int v] N sh mem c n := by
  intro p e s m args below meth cd H locs ls C hW hS hL
  refine W.widen hc hs ?_
  exact W.zret C.1 C.2.1 (by rw [C.2.2.2.2.1]; exact hr) hn (fun t ht hW1 => ⟨⟨_, _, _, _, rfl, hQ, by rw [ht]; exact hW⟩, hS.F ht⟩) hS.2.2 hdg C.2.2.2.2.2.1
theorem x_vret (hr : M.2.2.2.2.1 = none) (hdg : decode M.2.2.1 pc = .ok (.return_, 1)) (hc : c ≤ M.2.2.2.2.2.cells) (hs : n ≤ M.2.2.2.2.2.slots) (hQ : Q none N sh mem) : X l g M (XF g Q M) pc L [] N sh mem c n := by
  intro p e s m args below meth cd H locs ls C hW hS hL
  refine W.widen hc hs ?_
  exact W.vret C.1 C.2.1 (by rw [C.2.2.2.2.1]; exact hr) (fun t ht hW1 => ⟨⟨_, _, _, _, rfl, hQ, by rw [ht]; exact hW⟩, hS.F ht⟩) hS.2.2 hdg C.2.2.2.2.2.1
theorem x_aret {o : Nat} {C0 : String} (hr : M.2.2.2.2.1 = some (.object C0)) (hdg : decode M.2.2.1 pc = .ok (.areturn, 1)) (hc : c ≤ M.2.2.2.2.2.cells) (hs : n ≤ M.2.2.2.2.2.slots) (hQ : Q (some (rf g o)) N sh mem) : X l g M (XF g Q M) pc L [rf g o] N sh mem c n := by
  intro p e s m args below meth cd H locs ls C hW hS hL
  refine W.widen hc hs ?_
  exact W.aret C.1 C.2.1 (by rw [C.2.2.2.2.1]; exact hr) (Or.inl ⟨_, rfl⟩) (Or.inr ⟨_, rfl⟩) (fun t ht hW1 => ⟨⟨_, _, _, _, rfl, hQ, by rw [ht]; exact hW⟩, hS.F ht⟩) hS.2.2 hdg C.2.2.2.2.2.1
theorem x_dret {v : UInt64} (hr : M.2.2.2.2.1 = some .double) (hdg : decode M.2.2.1 pc = .ok (.dreturn, 1)) (hc : c ≤ M.2.2.2.2.2.cells) (hs : n ≤ M.2.2.2.2.2.slots) (hQ : Q (some (.double v)) N sh mem) : X l g M (XF g Q M) pc L [.double v] N sh mem c n := by
  intro p e s m args below meth cd H locs ls C hW hS hL
  refine W.widen hc hs ?_
  exact W.dret C.1 C.2.1 (by rw [C.2.2.2.2.1]; exact hr) (fun t ht hW1 => ⟨⟨_, _, _, _, rfl, hQ, by rw [ht]; exact hW⟩, hS.F ht⟩) hS.2.2 hdg C.2.2.2.2.2.1
theorem lv_args1 : ∀ (as : List Value) (i0 : Nat), (∀ v ∈ as, v.category = 1) → ∀ (i : Nat) (v : Value), as[i]? = some v → (i0 + i, v) ∈ lv_args i0 as
  | [], _, _, i, v, h => by simp at h
  | a :: as, i0, hc, i, v, h => by
    have ha : a.category = 1 := hc a List.mem_cons_self
    rw [lv_args]
    match i, h with
    | 0, h => simp at h; rw [h]; exact List.mem_cons_self
    | i + 1, h =>
      have h1 := lv_args1 as (i0 + 1) (fun v hv => hc v (List.mem_cons_of_mem _ hv)) i v (by simpa using h)
      rw [if_neg (by rw [ha]; decide), show i0 + (i + 1) = i0 + 1 + i by omega]
      exact List.mem_cons_of_mem _ h1
theorem lg_sl1 : ∀ (as : List Value), (∀ v ∈ as, v.category = 1) → (lg_sl as).length = as.length
  | [], _ => rfl
  | a :: as, hc => by
    have ha : a.category = 1 := hc a List.mem_cons_self
    have h1 := lg_sl1 as (fun v hv => hc v (List.mem_cons_of_mem _ hv))
    simp only [lg_sl, List.flatMap_cons, ha, List.length_append, List.length_cons] at h1 ⊢
    simp only [show ¬ (1 = 2) by decide, if_false, List.length_cons, List.length_nil]
    omega
theorem x_enter {as : List Value} {L0 : List (Option Value)} (hL0 : as.map some ++ List.replicate (M.2.2.2.1 - as.length) none = L0) (hcat : ∀ v ∈ as, v.category = 1) (hlen : as.length ≤ M.2.2.2.1) (hy : plainName M.2.1.cls = true) (hown : M.1 = M.2.1.cls) (h : X l g M (XF g Q M) 0 L0 [] N sh mem 0 0) : Ct l g M as N sh mem Q := by
  refine Met.ofW (cc := M.2.2.1) (maxL := M.2.2.2.1) (ret := M.2.2.2.2.1) hy rfl ?_
  intro p e s m args below meth c s₁ B hml hv
  obtain ⟨rfl, hWd, hK, hz⟩ := hv
  have hts := atoms_spec (ws := Cond.code M.2.1 M.2.2.1 M.2.2.2.1 M.2.2.2.2.1 :: tbG) B.pre
  have hl := lv_entry as (n := M.2.2.2.1) (by rw [lg_sl1 as hcat]; exact hlen)
  rw [lg_entry_eq]
  generalize (lg_sl as ++ List.replicate (M.2.2.2.1 - (lg_sl as).length) Slot.unset).toArray = ls at hl ⊢
  have hf : s.vm.findClass M.2.1.cls = some m.cls := findClass_of_methodNamed B.named
  refine h p e s m as.toArray below meth c s.heap [] ls ⟨B.exec, B.bytes, hml, by rw [hown]; exact hf, B.returns, B.notSynchronized, (name_of_methodNamed B.named B.method).1, fun w hw => hts w (List.mem_cons_of_mem _ hw), hK, hz⟩ hWd va_S.rf ⟨hl.1, hl.2.1, fun i v hi => ?_⟩
  · subst hL0
    by_cases hia : i < as.length
    · have h1 : (as.map some ++ List.replicate (M.2.2.2.1 - as.length) none)[i]? = (as.map some)[i]? := List.getElem?_append_left (by simpa using hia)
      rw [h1, List.getElem?_map] at hi
      cases ha : as[i]? with
      | none => rw [ha] at hi; cases hi
      | some w =>
        rw [ha] at hi
        have hw : w = v := Option.some.inj (Option.some.inj hi)
        subst hw
        have h2 := lv_args1 as 0 hcat i w ha
        rw [Nat.zero_add] at h2
        exact ⟨hl.2.2 _ h2, hcat w (List.mem_of_getElem? ha)⟩
    · rw [List.getElem?_append_right (by simpa using hia), List.getElem?_replicate] at hi
      split at hi <;> cases hi
end XE
