/-! p27, THE LAW: what holds at its entry (rows of the skeleton), what the tables say at the start, its calls -/
def R_law : String := "CarpetCounterLaw"
def lw_P (b : Addr) (xs : List Int32) (args : Array Value) (s : State) : Prop := args = #[.ref b] ∧ s.IntsAt b xs ∧ xs.length ≤ 260 ∧ (Jvm.Cond.and given_1 narrow_1).before args s = true
/-- what a walk over the start with the record d0 says of its end, said of the start itself -/
theorem lw_closed {s t : State} {o : Outcome} {d0 : Drawn} {L : List Loc} {k n : Nat} (hd0 : s.drawn.sameBut d0 lw_cs) (hv : ∃ v, o = .returned v) (hW : (s.setDrawn d0).WarmedH t.vm) (hs : (s.setDrawn d0).sameButNew ({ t with vm := s.vm } : State) L k n) : State.butDraws s t lw_cs (fun t1 => Framed s o t1 L k n) := by
  have h2 : t.drawn = d0 := congrArg State.drawn hs.1
  refine ⟨⟨hv, hW, State.sameButNew.setDrawn hs s.drawn⟩, ?_, by decide⟩
  rw [h2]
  exact hd0
def lw_Q (_ : Array Value) (s : State) (o : Outcome) (t : State) : Prop := o = .returned (some (.int 1)) ∧ State.butDraws s t lw_cs (fun t1 => Framed s o t1 [] 600000 7302250)
def lw_Z (below : List Frame) (a : Array Value) (s : State) : State → Prop := fun t => ∃ o, t.status = .running ∧ Ended t below o ∧ lw_Q a s o t
/-- the law's own end, with 1 on the stack, nothing written that was there before, its room as the claim has it; d0: the record of draws at this point (at the entry s.drawn: begin with 'refine W.base ?_' and 'have hd0 := Drawn.sameBut.refl s.drawn lw_cs') -/
theorem lw_ret {p : Program} {l : Launch} {e : Env} {s : State} {m : MethodId} {below : List Frame} {meth : Method} {c : Code} {b : Nat} {d0 : Drawn} (hd0 : s.drawn.sameBut d0 lw_cs) (hx : p.tables.exec = Jvm.exec) (hb : c.code = code) (hr : meth.sig.returnType = ret) (hlocks : meth.locks = false) {pc : Nat} {H : Heap} {ls : Array Slot} (hdg : decode code pc = .ok (.ireturn, 1)) : W p l e room_1 (s.setDrawn d0) m #[Value.ref b] below meth c H [] 600000 7302250 (lw_Z below #[Value.ref b] s) (F0 m pc ls [.int 1]) := by
  intro T hT X
  obtain ⟨fs, hret, hrun, hended, hW, hframe⟩ := X.leave (v := some (.int 1)) (hlocks := hlocks) (fun h => by rw [hr] at h; cases h)
  have hmeth' : T.vm.method? m = some meth := X.method'
  refine ⟨T.setFrames fs, ?_, .returned (some (.int 1)), hrun, hended, rfl, lw_closed hd0 ⟨_, rfl⟩ hW hframe⟩
  jvm_step X.here [X.here.top, hx, hb, hdg, hmeth', hr, ret, narrow_b1]
  (try refine ⟨rfl, ?_⟩); (try refine ⟨rfl, ?_⟩)
  first | (intro acts; rw [hret _ acts rfl rfl rfl]) | rw [hret _ _ rfl rfl rfl]
  exact Steps.refl _
/-- what holds at the law's entry: the machine, the code, the tables' words (any of lw_tbl by 'hts w (by decide +kernel)'), the script of L ints xs at the cell b, what the Statement gives of the start (any of its parts by flat_of_before) -/
def lw_At (p : Program) (s : State) (m : MethodId) (meth : Method) (c : Code) (b L : Nat) (xs : Nat → Int32) : Prop :=
  p.tables.exec = Jvm.exec ∧ c.code = code ∧ meth.sig.returnType = ret ∧ c.maxLocals = 10 ∧ s.vm.findClass R_law = some m.cls ∧ (∀ w ∈ lw_tbl, w.before #[Value.ref b] s = true) ∧ va_X b L xs s s.heap ∧ b < s.heap.size ∧ meth.locks = false ∧ (Jvm.Cond.and given_1 narrow_1).before #[Value.ref b] s = true
abbrev M_law (nm : String) : Mt := (R_La, ⟨R_La, nm, "([I)Z"⟩, c_La_law, 10, ret, room_1)
def SX (g : XG) (b Ls : Nat) (xs : Nat → Int32) (args : Array Value) (s : State) : Prop := va_X b Ls xs s s.heap ∧ b < s.heap.size ∧ g.2.1 = s.heap.size ∧ args = #[Value.ref b]
abbrev LF (g : XG) (b Ls : Nat) (xs : Nat → Int32) : XFin := GF (SX g b Ls xs) (fun below args s t => lw_Z below args s t)
theorem sx_scr {g : XG} {b Ls : Nat} {xs : Nat → Int32} (args : Array Value) (s : State) (hx : SX g b Ls xs args s) : Scr g b Ls xs s := by
  obtain ⟨h1, h2, h3, h4⟩ := hx
  refine ⟨h1, h2, ?_⟩
  show ¬ g.2.1 ≤ b
  omega
theorem x_lwret {l : Launch} {g : XG} {pc b Ls : Nat} {xs : Nat → Int32} {nm : String} {L : List (Option Value)} {N : Option Nat} {sh : Nat → Sh} {mem : Mem} {c n : Nat} (hc : c ≤ 600000) (hn : n ≤ 7302250) (hdg : decode c_La_law pc = .ok (.ireturn, 1)) : X l g (M_law nm) (LF g b Ls xs) pc L [.int (nI 1)] N sh mem c n := by
  intro p e s m args below meth cd H locs ls C hW hS hL
  refine gf_by (fun hx => ?_)
  obtain ⟨h1, h2, h3, rfl⟩ := hx
  refine va_forget (fun q hq => ?_) ?_
  · have h4 : g.2.1 ≤ q.base := hS.2.2 q hq
    omega
  refine W.widen hc hn ?_
  have h := lw_ret (l := l) (e := e) (m := m) (below := below) (b := b) (H := H) (ls := ls) (Drawn.sameBut.refl s.drawn lw_cs) C.1 C.2.1 C.2.2.2.2.1 C.2.2.2.2.2.1 hdg
  have h := W.base h
  intro T hT X
  obtain ⟨t, st, z⟩ := h T hT X
  exact ⟨t, st, fun _ => z⟩
theorem lroom {M M' : Mt} {c n C N : Nat} (h : roomB M M' C N = true) (hc : c ≤ C) (hn : n ≤ N) : roomB M M' c n = true := by
  unfold roomB at h ⊢
  simp only [Bool.and_eq_true] at h ⊢
  exact ⟨h.1, Nat.ble_eq_true_of_le (Nat.le_trans (Nat.add_le_add_right hc _) (Nat.le_of_ble_eq_true h.2.1)), Nat.ble_eq_true_of_le (Nat.le_trans (Nat.add_le_add_right hn _) (Nat.le_of_ble_eq_true h.2.2))⟩
section
variable {l : Launch} {g : XG} {pc b Ls : Nat} {xs : Nat → Int32} {nm : String} {L : List (Option Value)} {rest : List Value} {sh : Nat → Sh} {mem : Mem} {c n : Nat} {G : GS}
theorem x_cellI {k : Nat} (hk : k < 1000) (hLs : Ls ≤ 260) (hc : c ≤ 1000) (hn : n ≤ 200000) (hdg : decode c_La_law pc = .ok (.invokestatic 80, 3)) (hw : (rest.map fun v => v.category).sum ≤ 8) (kk : ∀ u : Int32, X l g (M_law nm) (LF g b Ls xs) (pc + 3) L (.int u :: rest) none sh mem c n) : X l g (M_law nm) (LF g b Ls xs) pc L (.int (nI k) :: .ref b :: rest) none sh mem c n := by
  refine x_callSS (M' := M_La_cell) (As := [.ref b, .int (nI k)]) (rest := rest) sx_scr hdg ml_La_80 v_La_cell (lroom (C := 1000) (N := 200000) rfl hc hn) rfl rfl hw (ct_La_cell hk hLs) (fun v N' sh' mem' q => ?_)
  obtain ⟨u, rfl, rfl, rfl, rfl⟩ := q
  exact kk u
theorem x_tellI (hL : LayCc sh 0) (hC : CR mem 0 G) (hc : c ≤ 1000) (hn : n ≤ 200000) (hdg : decode c_La_law pc = .ok (.invokestatic 84, 3)) (hw : (rest.map fun v => v.category).sum ≤ 8) (kk : ∀ (o : Nat) (m : Mem), sh o = sh0 → TI 0 o mem G 62 m → X l g (M_law nm) (LF g b Ls xs) (pc + 3) L (rf g o :: rest) none (us sh o (.inr (.inl 64))) m (c + 1) (n + 64)) : X l g (M_law nm) (LF g b Ls xs) pc L (rf g 0 :: rest) none sh mem c n := by
  refine x_callS (M' := M_La_tell) (As := [rf g 0]) (rest := rest) hdg ml_La_84 v_La_tell (lroom (C := 1000) (N := 200000) rfl hc hn) rfl rfl hw (ct_La_tell hL hC) (fun v N' sh' mem' q => ?_)
  obtain ⟨o, rfl, rfl, h0, rfl, hT⟩ := q
  exact kk o mem' h0 hT
end
/-- a row of numbers that were told -/
def AT (sh : Nat → Sh) (m : Mem) (o : Nat) (R : RS) : Prop := sh o = .inr (.inl 64) ∧ 410 ≤ o ∧ ∀ k, k < 62 → m o k = tellV R k
theorem AT.st {sh : Nat → Sh} {m m' : Mem} {o : Nat} {R : RS} (h : AT sh m o R) (hF : Fr 0 (0 + 410) m m') : AT sh m' o R := ⟨h.1, h.2.1, fun k hk => by rw [hF o (Or.inr (by have := h.2.1; omega))]; exact h.2.2 k hk⟩
theorem AT.tell {sh : Nat → Sh} {m m' : Mem} {o a : Nat} {R : RS} {G : GS} (h : AT sh m o R) (ha : sh a = sh0) (hT : TI 0 a m G 62 m') : AT (us sh a (.inr (.inl 64))) m' o R := by
  have hne : o ≠ a := fun z => by
    have h1 := h.1
    rw [z, ha] at h1
    cases h1
  refine ⟨by rw [us_ne _ _ hne]; exact h.1, h.2.1, fun k hk => by rw [hT.2.2 o hne (Or.inr (by have := h.2.1; omega))]; exact h.2.2 k hk⟩
theorem AT.new {sh : Nat → Sh} {m m' : Mem} {a : Nat} {G : GS} (hL : LayCc sh 0) (ha : sh a = sh0) (hT : TI 0 a m G 62 m') : AT (us sh a (.inr (.inl 64))) m' a G.1 ∧ LayCc (us sh a (.inr (.inl 64))) 0 := by
  have ho := layCc_out hL ha
  refine ⟨⟨us_at _ _ _, by omega, hT.2.1⟩, fun i hi => ?_⟩
  rw [us_ne _ _ (by omega)]
  exact hL i hi
theorem AT.eq {sh : Nat → Sh} {m : Mem} {o a : Nat} {R : RS} (h : AT sh m o R) (k : AT sh m a R) : ∀ j, j < 62 → m o j = m a j := fun j hj => (h.2.2 j hj).trans (k.2.2 j hj).symm
def HJ (G : GS) : Prop := JJ G.1 ∧ ∀ a ∈ G.2.1, JJ a
theorem lt1 {w : Cond} (j : Nat) (h : tables_1_1[j]? = some w) : w ∈ lw_tbl := List.mem_append_right _ (List.mem_append_left _ (List.mem_of_getElem? h))
theorem lt2 {w : Cond} (j : Nat) (h : tables_1_2[j]? = some w) : w ∈ lw_tbl := List.mem_append_right _ (List.mem_append_right _ (List.mem_append_left _ (List.mem_of_getElem? h)))
theorem lt3 {w : Cond} (j : Nat) (h : tables_1_3[j]? = some w) : w ∈ lw_tbl := List.mem_append_right _ (List.mem_append_right _ (List.mem_append_right _ (List.mem_of_getElem? h)))
theorem kd_start {args : Array Value} {s : State} (hts : ∀ w ∈ lw_tbl, w.before args s = true) : ∃ (D : va_G) (cI cB : ClassId), ∀ n : Nat, Kd (D, n, cI, cB) s := by
  have htb := tbG_hts hts
  obtain ⟨c0, i0, k0⟩ := u_known htb in_Bk (htb (.instantiable R_Bk 7) (tg1 21 (by decide +kernel) rfl))
  obtain ⟨c1, i1, k1⟩ := u_known htb in_Ch (htb (.instantiable R_Ch 5) (tg2 17 (by decide +kernel) rfl))
  obtain ⟨c2, i2, k2⟩ := u_known htb in_Hi (htb (.instantiable R_Hi 3) (tg1 206 (by decide +kernel) rfl))
  obtain ⟨c3, i3, k3⟩ := u_known htb in_Of (htb (.instantiable R_Of 6) (tg1 89 (by decide +kernel) rfl))
  obtain ⟨c4, i4, k4⟩ := u_known htb in_Ro (htb (.instantiable R_Ro 9) (tg1 38 (by decide +kernel) rfl))
  obtain ⟨c5, i5, k5⟩ := u_known htb in_Te (htb (.instantiable R_Te 6) (tg1 226 (by decide +kernel) rfl))
  obtain ⟨c6, i6, k6⟩ := u_known htb in_Rm (htb (.instantiable R_Rm 10) (tg1 126 (by decide +kernel) rfl))
  obtain ⟨c7, i7, k7⟩ := u_known htb in_Rw (htb (.instantiable R_Rw 1) (tg1 27 (by decide +kernel) rfl))
  obtain ⟨c8, i8, k8⟩ := u_known htb in_Cc (htb (.instantiable R_Cc 8) (tg1 13 (by decide +kernel) rfl))
  obtain ⟨cI, kI, compI, a1, a2, a3⟩ := Cond.arrayClass_spec (htb _ ac_int)
  have hAO : (Cond.arrayOver (.object "CarpetCounter$Book")).before args s = true := hts _ (lt1 212 (by decide +kernel))
  obtain ⟨comp, cB, kB, b1, b2, b3, b4, b5⟩ := Cond.arrayOver_spec hAO
  refine ⟨(fun k => if k = 0 then c0 else if k = 1 then c1 else if k = 2 then c2 else if k = 3 then c3 else if k = 4 then c4 else if k = 5 then c5 else if k = 6 then c6 else if k = 7 then c7 else c8, fun k => if k = 0 then i0 else if k = 1 then i1 else if k = 2 then i2 else if k = 3 then i3 else if k = 4 then i4 else if k = 5 then i5 else if k = 6 then i6 else if k = 7 then i7 else i8), cI, cB, fun n => ⟨⟨fun k q hq => ?_, fun k q hq => ?_⟩, va_AO.of hAO, ?_⟩⟩
  · match k, hq with
    | 0, hq => cases hq; exact k0
    | 1, hq => cases hq; exact k1
    | 2, hq => cases hq; exact k2
    | 3, hq => cases hq; exact k3
    | 4, hq => cases hq; exact k4
    | 5, hq => cases hq; exact k5
    | 6, hq => cases hq; exact k6
    | 7, hq => cases hq; exact k7
    | 8, hq => cases hq; exact k8
    | k + 9, hq => simp at hq
  · match k, hq with
    | 0, hq => cases hq; exact ⟨fun N z => ⟨(fun k h => by cases h), kI, a2, compI, a3⟩, a1⟩
    | 1, hq => cases hq; exact ⟨fun N z => ⟨(fun k h => by cases h), kB, b3, comp, b4⟩, kB, comp, b3, b4, b1, b5⟩
    | k + 2, hq => simp at hq
  · exact ⟨va_Nw.of rfl (hts _ (lt1 227 (by decide +kernel))), va_Nw.of rfl (hts _ (lt2 18 (by decide +kernel))), va_Nw.of rfl (hts _ (lt1 39 (by decide +kernel))), va_Nw.of rfl (hts _ (lt1 90 (by decide +kernel))), va_Nw.of rfl (hts _ (lt1 127 (by decide +kernel))), va_Nw.of rfl (hts _ (lt1 234 (by decide +kernel)))⟩
theorem cd_La_106 : Cond.constantDouble R_La 106 MD1 ∈ tbG := tg3 227 (by decide +kernel) rfl
