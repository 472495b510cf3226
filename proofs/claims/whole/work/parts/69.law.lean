/-! THE LAW: what holds at its entry (rows of the skeleton), its own rows over the X layer, what the tables say at the start -/
def R_law : String := "CarpetCounterLaw"
def lw_P (b : Addr) (xs : List Int32) (args : Array Value) (s : State) : Prop := args = #[.ref b] ∧ s.IntsAt b xs ∧ xs.length ≤ 2560 ∧ (Jvm.Cond.and given_1 narrow_1).before args s = true
/-- what a walk over the start with the record d0 says of its end, said of the start itself -/
theorem lw_closed {s t : State} {o : Outcome} {d0 : Drawn} {L : List Loc} {k n : Nat} (hd0 : s.drawn.sameBut d0 lw_cs) (hv : ∃ v, o = .returned v) (hW : (s.setDrawn d0).WarmedH t.vm) (hs : (s.setDrawn d0).sameButNew ({ t with vm := s.vm } : State) L k n) : State.butDraws s t lw_cs (fun t1 => Framed s o t1 L k n) := by
  have h2 : t.drawn = d0 := congrArg State.drawn hs.1
  refine ⟨⟨hv, hW, State.sameButNew.setDrawn hs s.drawn⟩, ?_, by decide⟩
  rw [h2]
  exact hd0
def lw_Q (_ : Array Value) (s : State) (o : Outcome) (t : State) : Prop := o = .returned (some (.int 1)) ∧ State.butDraws s t lw_cs (fun t1 => Framed s o t1 [] 600000 7302250)
def lw_Z (below : List Frame) (a : Array Value) (s : State) : State → Prop := fun t => ∃ o, t.status = .running ∧ Ended t below o ∧ lw_Q a s o t
/-- the law's own end, with 1 on the stack, nothing written that was there before, its room as the claim has it; d0: the record of draws at this point (at the entry s.drawn: begin with 'refine W.base ?_' and 'have hd0 := Drawn.sameBut.refl s.drawn lw_cs') -/
theorem lw_ret {p : Program} {l : Launch} {e : Env} {s : State} {m : MethodId} {below : List Frame} {meth : Method} {c : Code} {b : Nat} {d0 : Drawn} (hd0 : s.drawn.sameBut d0 lw_cs) (hx : p.tables.exec = Jvm.exec) (hb : c.code = code) (hr : meth.sig.returnType = ret) (hlocks : meth.locks = false) {pc : Nat} {H : Heap} {ls : Array Slot} (hdg : decode code pc = .ok (.ireturn, 1)) : W p l e room_1 (s.setDrawn d0) m #[Value.ref b] below meth c H [] 600000 7302250 (lw_Z below #[Value.ref b] s) (F0 m pc ls [.int 1]) := by
  intro T hT X
  obtain ⟨fs, hret, hrun, hended, hW, hframe⟩ := X.leave (v := some (.int 1)) (hlocks := hlocks) (fun h => by rw [hr] at h; cases h)
  have hmeth' : T.vm.method? m = some meth := X.method'
  refine ⟨T.setFrames fs, ?_, .returned (some (.int 1)), hrun, hended, rfl, lw_closed hd0 ⟨_, rfl⟩ hW hframe⟩
  jvm_step X.here [X.here.top, hx, hb, hdg, hmeth', hr, ret, narrow_b1]
  (try refine ⟨rfl, ?_⟩); (try refine ⟨rfl, ?_⟩)
  first | (intro acts; rw [hret _ acts rfl rfl rfl]) | rw [hret _ _ rfl rfl rfl]
  exact Steps.refl _
/-- what holds at the law's entry: the machine, the code, the tables' words (any of lw_tbl by 'hts w (by decide +kernel)'), the script of L ints xs at the cell b, what the Statement gives of the start (any of its parts by flat_of_before) -/
def lw_At (p : Program) (s : State) (m : MethodId) (meth : Method) (c : Code) (b L : Nat) (xs : Nat → Int32) : Prop :=
  p.tables.exec = Jvm.exec ∧ c.code = code ∧ meth.sig.returnType = ret ∧ c.maxLocals = 8 ∧ s.vm.findClass R_law = some m.cls ∧ (∀ w ∈ lw_tbl, w.before #[Value.ref b] s = true) ∧ va_X b L xs s s.heap ∧ b < s.heap.size ∧ meth.locks = false ∧ (Jvm.Cond.and given_1 narrow_1).before #[Value.ref b] s = true
abbrev M_law (nm : String) : Mt := (R_La, ⟨R_La, nm, "([I)Z"⟩, c_La_law, 8, ret, room_1)
def SX (g : XG) (b Ls : Nat) (xs : Nat → Int32) (args : Array Value) (s : State) : Prop := va_X b Ls xs s s.heap ∧ b < s.heap.size ∧ g.2.1 = s.heap.size ∧ args = #[Value.ref b]
def LF (g : XG) (b Ls : Nat) (xs : Nat → Int32) : XFin := fun below args s t => SX g b Ls xs args s → lw_Z below args s t
theorem lf_by {p : Program} {l : Launch} {e : Env} {R : Room} {s : State} {m : MethodId} {args : Array Value} {below : List Frame} {meth : Method} {c : Code} {H : Heap} {locs : List Loc} {k n b Ls : Nat} {g : XG} {xs : Nat → Int32} {f : JFrame} (h : SX g b Ls xs args s → W p l e R s m args below meth c H locs k n (LF g b Ls xs below args s) f) : W p l e R s m args below meth c H locs k n (LF g b Ls xs below args s) f := by
  intro T hT X
  by_cases hx : SX g b Ls xs args s
  · exact h hx T hT X
  · exact ⟨T.setTop f, Steps.refl _, fun z => absurd z hx⟩
section
variable {l : Launch} {g : XG} {M : Mt} {F : XFin} {pc : Nat} {L : List (Option Value)} {st : List Value} {N : Option Nat} {sh : Nat → Sh} {mem : Mem} {c n b Ls : Nat} {xs : Nat → Int32} {nm : String}
theorem x_aload_b {k : Fin 4} {o : Nat} (hdg : decode M.2.2.1 pc = .ok (.aload_n k, 1)) (hl : L[(k : Nat)]? = some (some (.ref o))) (kk : X l g M F (pc + 1) L (.ref o :: st) N sh mem c n) : X l g M F pc L st N sh mem c n :=
  fun p e s m args below meth cd H locs ls C hW hS hL => lv_aload_n C.1 C.2.1 hdg rfl (hL.2.2 _ _ hl).1 (kk _ _ _ _ _ _ _ _ _ _ _ C hW hS hL)
theorem x_noN {N0 : Nat} (kk : X l g M F pc L st none sh mem c n) : X l g M F pc L st (some N0) sh mem c n := fun p e s m args below meth cd H locs ls C hW hS hL => kk _ _ _ _ _ _ _ _ _ _ _ C ⟨fun n h => (by cases h), hW.2⟩ hS hL
theorem SX.out {args : Array Value} {s : State} (hx : SX g b Ls xs args s) : ¬ xA g b := by
  obtain ⟨h1, h2, h3, h4⟩ := hx
  show ¬ g.2.1 ≤ b
  omega
theorem x_sld {i : Nat} (hi : i < Ls) (hLs : Ls ≤ 2560) (hdg : decode M.2.2.1 pc = .ok (.iaload, 1)) (kk : X l g M (LF g b Ls xs) (pc + 1) L (.int (xs i) :: st) N sh mem c n) : X l g M (LF g b Ls xs) pc L (.int (nI i) :: .ref b :: st) N sh mem c n := by
  intro p e s m args below meth cd H locs ls C hW hS hL
  refine lf_by (fun hx => ?_)
  refine va_sld C.1 C.2.1 hx.1 hx.2.1 hx.out hS (vp_in_nI hi (by omega)) hdg ?_
  rw [nI_clamp (by omega)]
  exact kk _ _ _ _ _ _ _ _ _ _ _ C hW hS hL
theorem x_slen (hdg : decode M.2.2.1 pc = .ok (.arraylength, 1)) (kk : X l g M (LF g b Ls xs) (pc + 1) L (.int (nI Ls) :: st) N sh mem c n) : X l g M (LF g b Ls xs) pc L (.ref b :: st) N sh mem c n := by
  intro p e s m args below meth cd H locs ls C hW hS hL
  refine lf_by (fun hx => ?_)
  exact va_slen C.1 C.2.1 hx.1 hx.2.1 hx.out hS hdg (kk _ _ _ _ _ _ _ _ _ _ _ C hW hS hL)
theorem x_lwret (hc : c ≤ 600000) (hn : n ≤ 7302250) (hdg : decode c_La_law pc = .ok (.ireturn, 1)) : X l g (M_law nm) (LF g b Ls xs) pc L [.int (nI 1)] N sh mem c n := by
  intro p e s m args below meth cd H locs ls C hW hS hL
  refine lf_by (fun hx => ?_)
  obtain ⟨h1, h2, h3, rfl⟩ := hx
  refine va_forget (fun q hq => ?_) ?_
  · have h4 : g.2.1 ≤ q.base := hS.2.2 q hq
    omega
  refine W.widen hc hn ?_
  have h := lw_ret (l := l) (e := e) (m := m) (below := below) (b := b) (H := H) (ls := ls) (Drawn.sameBut.refl s.drawn lw_cs) C.1 C.2.1 C.2.2.2.2.1 C.2.2.2.2.2.1 hdg
  have h := W.base h
  intro T hT X
  obtain ⟨t, st, z⟩ := h T hT X
  exact ⟨t, st, fun _ => z⟩
theorem i2c_nI (x : Int32) : ∃ c, c < 65536 ∧ (x.toUInt32 % 65536).toInt32 = nI c := by
  refine ⟨(x.toUInt32 % 65536).toNat, ?_, ?_⟩
  · rw [UInt32.toNat_mod]
    exact Nat.mod_lt _ (by decide)
  · generalize x.toUInt32 % 65536 = u
    have h : u = UInt32.ofNat u.toNat := UInt32.ofNat_toNat.symm
    exact congrArg UInt32.toInt32 h
end
theorem lt1 {w : Cond} (j : Nat) (h : tables_1_1[j]? = some w) : w ∈ lw_tbl := List.mem_append_right _ (List.mem_append_left _ (List.mem_of_getElem? h))
theorem lt2 {w : Cond} (j : Nat) (h : tables_1_2[j]? = some w) : w ∈ lw_tbl := List.mem_append_right _ (List.mem_append_right _ (List.mem_append_left _ (List.mem_of_getElem? h)))
theorem lt3 {w : Cond} (j : Nat) (h : tables_1_3[j]? = some w) : w ∈ lw_tbl := List.mem_append_right _ (List.mem_append_right _ (List.mem_append_right _ (List.mem_append_left _ (List.mem_of_getElem? h))))
theorem lt4 {w : Cond} (j : Nat) (h : tables_1_4[j]? = some w) : w ∈ lw_tbl := List.mem_append_right _ (List.mem_append_right _ (List.mem_append_right _ (List.mem_append_right _ (List.mem_append_left _ (List.mem_of_getElem? h)))))
theorem lt5 {w : Cond} (j : Nat) (h : tables_1_5[j]? = some w) : w ∈ lw_tbl := List.mem_append_right _ (List.mem_append_right _ (List.mem_append_right _ (List.mem_append_right _ (List.mem_append_right _ (List.mem_of_getElem? h)))))
theorem kd_start {args : Array Value} {s : State} (hts : ∀ w ∈ lw_tbl, w.before args s = true) : ∃ (D : va_G) (cI cB : ClassId), ∀ n : Nat, Kd (D, n, cI, cB) s := by
  have htb := tbG_hts hts
  obtain ⟨c0, i0, k0⟩ := u_known htb in_Bk (htb (.instantiable R_Bk 7) (tg1 22 (by decide +kernel) rfl))
  obtain ⟨c1, i1, k1⟩ := u_known htb in_Ch (htb (.instantiable R_Ch 5) (tg2 20 (by decide +kernel) rfl))
  obtain ⟨c2, i2, k2⟩ := u_known htb in_Hi (htb (.instantiable R_Hi 3) (tg1 209 (by decide +kernel) rfl))
  obtain ⟨c3, i3, k3⟩ := u_known htb in_Of (htb (.instantiable R_Of 6) (tg1 90 (by decide +kernel) rfl))
  obtain ⟨c4, i4, k4⟩ := u_known htb in_Ro (htb (.instantiable R_Ro 9) (tg1 39 (by decide +kernel) rfl))
  obtain ⟨c5, i5, k5⟩ := u_known htb in_Te (htb (.instantiable R_Te 6) (tg1 229 (by decide +kernel) rfl))
  obtain ⟨c6, i6, k6⟩ := u_known htb in_Rm (htb (.instantiable R_Rm 10) (tg1 128 (by decide +kernel) rfl))
  obtain ⟨c7, i7, k7⟩ := u_known htb in_Rw (htb (.instantiable R_Rw 1) (tg1 28 (by decide +kernel) rfl))
  obtain ⟨c8, i8, k8⟩ := u_known htb in_Cc (htb (.instantiable R_Cc 8) (tg1 14 (by decide +kernel) rfl))
  obtain ⟨c9, i9, k9⟩ := u_known htb in_Mo (htb (.instantiable R_Mo 15) (tg4 35 (by decide +kernel) rfl))
  obtain ⟨cI, kI, compI, a1, a2, a3⟩ := Cond.arrayClass_spec (htb _ ac_int)
  have hAO : (Cond.arrayOver (.object "CarpetCounter$Book")).before args s = true := hts _ (lt1 215 (by decide +kernel))
  obtain ⟨comp, cB, kB, b1, b2, b3, b4, b5⟩ := Cond.arrayOver_spec hAO
  refine ⟨(fun k => if k = 0 then c0 else if k = 1 then c1 else if k = 2 then c2 else if k = 3 then c3 else if k = 4 then c4 else if k = 5 then c5 else if k = 6 then c6 else if k = 7 then c7 else if k = 8 then c8 else c9, fun k => if k = 0 then i0 else if k = 1 then i1 else if k = 2 then i2 else if k = 3 then i3 else if k = 4 then i4 else if k = 5 then i5 else if k = 6 then i6 else if k = 7 then i7 else if k = 8 then i8 else i9), cI, cB, fun n => ⟨⟨fun k q hq => ?_, fun k q hq => ?_⟩, va_AO.of hAO, ?_⟩⟩
  · match k, hq with
    | 0, hq => cases hq; exact k0
    | 1, hq => cases hq; exact k1
    | 2, hq => cases hq; exact k2
    | 3, hq => cases hq; exact k3
    | 4, hq => cases hq; exact k4
    | 5, hq => cases hq; exact k5
    | 6, hq => cases hq; exact k6
    | 7, hq => cases hq; exact k7
    | 8, hq => cases hq; exact k8
    | 9, hq => cases hq; exact k9
    | k + 10, hq => simp at hq
  · match k, hq with
    | 0, hq => cases hq; exact ⟨fun N z => ⟨(fun k h => by cases h), kI, a2, compI, a3⟩, a1⟩
    | 1, hq => cases hq; exact ⟨fun N z => ⟨(fun k h => by cases h), kB, b3, comp, b4⟩, kB, comp, b3, b4, b1, b5⟩
    | k + 2, hq => simp at hq
  · exact ⟨va_Nw.of rfl (hts _ (lt1 230 (by decide +kernel))), va_Nw.of rfl (hts _ (lt2 21 (by decide +kernel))), va_Nw.of rfl (hts _ (lt1 40 (by decide +kernel))), va_Nw.of rfl (hts _ (lt1 91 (by decide +kernel))), va_Nw.of rfl (hts _ (lt1 129 (by decide +kernel))), va_Nw.of rfl (hts _ (lt1 237 (by decide +kernel)))⟩
