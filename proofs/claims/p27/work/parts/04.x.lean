/-! THE X LAYER: a judgement over cells by position. A heap is: how many cells (where it is counted), their shapes, their ints. -/
abbrev XG : Type := va_G × Nat × ClassId × ClassId
abbrev Sh : Type := (Nat × List (Option (Option Nat))) ⊕ (Nat ⊕ (Nat × (Nat → Option Nat)))
abbrev Mem : Type := Nat → Nat → Int32
abbrev Mt : Type := String × MethodName × ByteArray × Nat × Option FieldType × Room
abbrev XP : Type := Option Value → Option Nat → (Nat → Sh) → Mem → Prop
def sh0 : Sh := .inl (0, [])
def rf (g : XG) (o : Nat) : Value := .ref (g.2.1 + o)
def fv (g : XG) (f : Nat → Int32) (k : Nat) (x : Option (Option Nat)) : Value := match x with
  | none => .int (f k)
  | some none => .null
  | some (some r) => .ref (g.2.1 + r)
def ent (g : XG) (x : Sh) (f : Nat → Int32) : va_E := match x with
  | .inl (ci, fs) => .inr (ci, fs.mapIdx (fv g f))
  | .inr (.inl n) => .inl (g.2.2.1, n, .inl f)
  | .inr (.inr (n, q)) => .inl (g.2.2.2, n, .inr (.inr (.inr (.inr (fun j => (q j).map (fun r => g.2.1 + r))))))
def xA (g : XG) : Nat → Prop := fun q => g.2.1 ≤ q
def Wd (g : XG) (N : Option Nat) (sh : Nat → Sh) (mem : Mem) (H : Heap) : Prop := (∀ n, N = some n → H.size = g.2.1 + n) ∧ ∀ o, sh o ≠ sh0 → va_at g.1 vwCl (g.2.1 + o, ent g (sh o) (mem o)) H
def nestK (U : State) : Prop := va_Nw (.methodLinkNest "CarpetCounter" 34 ⟨"CarpetCounter$RoomText", "<init>", "()V"⟩ "CarpetCounter") U ∧ va_Nw (.methodLinkNest "CarpetCounter" 41 ⟨"CarpetCounter$Choice", "<init>", "()V"⟩ "CarpetCounter") U ∧ va_Nw (.methodLinkNest "CarpetCounter$Book" 22 ⟨"CarpetCounter$Rolls", "<init>", "()V"⟩ "CarpetCounter") U ∧ va_Nw (.methodLinkNest "CarpetCounter$Book" 29 ⟨"CarpetCounter$Offcuts", "<init>", "()V"⟩ "CarpetCounter") U ∧ va_Nw (.methodLinkNest "CarpetCounter$Book" 36 ⟨"CarpetCounter$Rooms", "<init>", "()V"⟩ "CarpetCounter") U ∧ va_Nw (.methodLinkNest "CarpetCounter$RoomText" 22 ⟨"CarpetCounter$Rooms", "<init>", "()V"⟩ "CarpetCounter") U
theorem nestK.warm {s U : State} (hW : s.WarmedH U.vm) (h : nestK s) : nestK U := ⟨va_Nw.warmM hW h.1, va_Nw.warmM hW h.2.1, va_Nw.warmM hW h.2.2.1, va_Nw.warmM hW h.2.2.2.1, va_Nw.warmM hW h.2.2.2.2.1, va_Nw.warmM hW h.2.2.2.2.2⟩
theorem nestK.same {u U : State} (hv : u.vm = U.vm) (h : nestK u) : nestK U := ⟨va_Nw.same rfl hv h.1, va_Nw.same rfl hv h.2.1, va_Nw.same rfl hv h.2.2.1, va_Nw.same rfl hv h.2.2.2.1, va_Nw.same rfl hv h.2.2.2.2.1, va_Nw.same rfl hv h.2.2.2.2.2⟩
def Kd (g : XG) (U : State) : Prop := va_K g.1 vwCl [(g.2.2.1, .int), (g.2.2.2, .object "CarpetCounter$Book")] U ∧ va_AO "CarpetCounter$Book" U ∧ nestK U
theorem Kd.warm {g : XG} {s U : State} (hW : s.WarmedH U.vm) (h : Kd g s) : Kd g U := ⟨va_K.moved hW.alike h.1, va_AO.moved hW.alike h.2.1, nestK.warm hW h.2.2⟩
theorem Kd.same {g : XG} {u U : State} (hv : u.vm = U.vm) (h : Kd g u) : Kd g U := ⟨va_K.moved (by rw [hv]; exact Vm.Alike.refl U.vm) h.1, va_AO.moved (by rw [hv]; exact Vm.Alike.refl U.vm) h.2.1, nestK.same hv h.2.2⟩
def QQ (g : XG) (Q : XP) : Array Value → State → Outcome → State → Prop := fun _ st oc t => (∃ (v : Option Value) (N : Option Nat) (sh : Nat → Sh) (mem : Mem), oc = .returned v ∧ Q v N sh mem ∧ Wd g N sh mem t.heap) ∧ va_F (xA g) st t
def xPre (g : XG) (N : Option Nat) (sh : Nat → Sh) (mem : Mem) (U : State) : Prop := Wd g N sh mem U.heap ∧ Kd g U ∧ g.2.1 ≤ U.heap.size
def Ct (l : Launch) (g : XG) (M : Mt) (as : List Value) (N : Option Nat) (sh : Nat → Sh) (mem : Mem) (Q : XP) : Prop := Met l M.2.1 (Cond.code M.2.1 M.2.2.1 M.2.2.2.1 M.2.2.2.2.1 :: tbG) M.2.2.2.2.2 (va_Pc as (xPre g N sh mem)) (QQ g Q) M.2.2.2.2.2.cells M.2.2.2.2.2.slots (xA g)
def Cx (g : XG) (M : Mt) (p : Program) (s : State) (m : MethodId) (args : Array Value) (meth : Method) (c : Code) : Prop := p.tables.exec = Jvm.exec ∧ c.code = M.2.2.1 ∧ c.maxLocals = M.2.2.2.1 ∧ s.vm.findClass M.1 = some m.cls ∧ meth.sig.returnType = M.2.2.2.2.1 ∧ meth.locks = false ∧ meth.name = M.2.1.name ∧ (∀ w ∈ tbG, w.before args s = true) ∧ Kd g s ∧ g.2.1 ≤ s.heap.size
def Lh (nL : Nat) (ls : Array Slot) (L : List (Option Value)) : Prop := ls.size = nL ∧ lv_wf ls ∧ ∀ (i : Nat) (v : Value), L[i]? = some (some v) → ls[i]? = some (.val v) ∧ v.category = 1
abbrev XFin : Type := List Frame → Array Value → State → State → Prop
def XF (g : XG) (Q : XP) (M : Mt) : XFin := fun below args s => MQ below (QQ g Q) args s M.2.2.2.2.2.cells M.2.2.2.2.2.slots (xA g)
def X (l : Launch) (g : XG) (M : Mt) (F : XFin) (pc : Nat) (L : List (Option Value)) (st : List Value) (N : Option Nat) (sh : Nat → Sh) (mem : Mem) (k n : Nat) : Prop :=
  ∀ (p : Program) (e : Env) (s : State) (m : MethodId) (args : Array Value) (below : List Frame) (meth : Method) (c : Code) (H : Heap) (locs : List Loc) (ls : Array Slot), Cx g M p s m args meth c → Wd g N sh mem H → va_S (xA g) s.heap H locs → Lh M.2.2.2.1 ls L → W p l e M.2.2.2.2.2 s m args below meth c H locs k n (F below args s) (F0 m pc ls st)
-- locals
def Lp (L : List (Option Value)) : List (Nat × Value) := (List.range L.length).filterMap (fun i => match L[i]? with | some (some v) => some (i, v) | _ => none)
theorem Lp_mem {L : List (Option Value)} {i : Nat} {v : Value} : (i, v) ∈ Lp L ↔ L[i]? = some (some v) := by
  unfold Lp
  rw [List.mem_filterMap]
  constructor
  · rintro ⟨j, -, hj⟩
    split at hj
    · rename_i w hw
      simp only [Option.some.injEq, Prod.mk.injEq] at hj
      rw [← hj.1, hw, hj.2]
    · cases hj
  · intro h
    refine ⟨i, List.mem_range.mpr (List.getElem?_eq_some_iff.mp h).1, ?_⟩
    rw [h]
theorem Lh.has {nL : Nat} {ls : Array Slot} {L : List (Option Value)} (h : Lh nL ls L) : lv_has ls nL (Lp L) := ⟨h.1, h.2.1, fun q hq => (h.2.2 q.1 q.2 (Lp_mem.mp hq)).1⟩
theorem Lh.put {nL i : Nat} {ls ls' : Array Slot} {L : List (Option Value)} {v : Value} (h : Lh nL ls L) (hc : v.category = 1) (h' : lv_has ls' nL ((i, v) :: (Lp L).filter (fun q => !(q.1 == i) && !(q.1 + 1 == i && q.2.category == 2)))) : Lh nL ls' (L.set i (some v)) := by
  refine ⟨h'.1, h'.2.1, fun j w hj => ?_⟩
  rw [List.getElem?_set] at hj
  by_cases hij : i = j
  · subst hij
    by_cases hl : i < L.length
    · rw [if_pos rfl, if_pos hl] at hj
      cases hj
      exact ⟨h'.2.2 _ List.mem_cons_self, hc⟩
    · rw [if_pos rfl, if_neg hl] at hj
      cases hj
  · rw [if_neg hij] at hj
    have hw := (h.2.2 j w hj).2
    refine ⟨h'.2.2 (j, w) (List.mem_cons_of_mem _ (List.mem_filter.mpr ⟨Lp_mem.mpr hj, ?_⟩)), hw⟩
    have h1 : (j == i) = false := by simpa using fun q => hij q.symm
    have h2 : (w.category == 2) = false := by rw [hw]; rfl
    simp [h1, h2]
section XR
variable {l : Launch} {g : XG} {M : Mt} {F : XFin} {pc : Nat} {L : List (Option Value)} {st : List Value} {N : Option Nat} {sh : Nat → Sh} {mem : Mem} {c n : Nat}
theorem x_iload_n {k : Fin 4} {x : Int32} (hdg : decode M.2.2.1 pc = .ok (.iload_n k, 1)) (hl : L[(k : Nat)]? = some (some (.int x))) (kk : X l g M F (pc + 1) L (.int x :: st) N sh mem c n) : X l g M F pc L st N sh mem c n :=
  fun p e s m args below meth cd H locs ls C hW hS hL => lv_iload_n C.1 C.2.1 hdg rfl (hL.2.2 _ _ hl).1 (kk _ _ _ _ _ _ _ _ _ _ _ C hW hS hL)
theorem x_iload {i : Nat} {x : Int32} (hdg : decode M.2.2.1 pc = .ok (.iload i, 2)) (hl : L[i]? = some (some (.int x))) (kk : X l g M F (pc + 2) L (.int x :: st) N sh mem c n) : X l g M F pc L st N sh mem c n :=
  fun p e s m args below meth cd H locs ls C hW hS hL => lv_iload C.1 C.2.1 hdg (hL.2.2 _ _ hl).1 (kk _ _ _ _ _ _ _ _ _ _ _ C hW hS hL)
theorem x_aload_n {k : Fin 4} {o : Nat} (hdg : decode M.2.2.1 pc = .ok (.aload_n k, 1)) (hl : L[(k : Nat)]? = some (some (rf g o))) (kk : X l g M F (pc + 1) L (rf g o :: st) N sh mem c n) : X l g M F pc L st N sh mem c n :=
  fun p e s m args below meth cd H locs ls C hW hS hL => lv_aload_n C.1 C.2.1 hdg rfl (hL.2.2 _ _ hl).1 (kk _ _ _ _ _ _ _ _ _ _ _ C hW hS hL)
theorem x_aload {i : Nat} {o : Nat} (hdg : decode M.2.2.1 pc = .ok (.aload i, 2)) (hl : L[i]? = some (some (rf g o))) (kk : X l g M F (pc + 2) L (rf g o :: st) N sh mem c n) : X l g M F pc L st N sh mem c n :=
  fun p e s m args below meth cd H locs ls C hW hS hL => lv_aload C.1 C.2.1 hdg (hL.2.2 _ _ hl).1 (kk _ _ _ _ _ _ _ _ _ _ _ C hW hS hL)
theorem x_iconst {k : Int} {v : Int32} (hdg : decode M.2.2.1 pc = .ok (.iconst k, 1)) (hv : Int32.ofInt k = v) (kk : X l g M F (pc + 1) L (.int v :: st) N sh mem c n) : X l g M F pc L st N sh mem c n :=
  fun p e s m args below meth cd H locs ls C hW hS hL => lv_iconst C.1 C.2.1 hdg hv (kk _ _ _ _ _ _ _ _ _ _ _ C hW hS hL)
theorem x_istore_n {k : Fin 4} {x : Int32} (hdg : decode M.2.2.1 pc = .ok (.istore_n k, 1)) (hn : (k : Nat) < M.2.2.2.1) (kk : X l g M F (pc + 1) (L.set k (some (.int x))) st N sh mem c n) : X l g M F pc L (.int x :: st) N sh mem c n :=
  fun p e s m args below meth cd H locs ls C hW hS hL => lv_istore_n C.1 C.2.1 hdg rfl hL.has hn rfl (fun ls' h => kk _ _ _ _ _ _ _ _ _ _ _ C hW hS (hL.put rfl h))
theorem x_istore {i : Nat} {x : Int32} (hdg : decode M.2.2.1 pc = .ok (.istore i, 2)) (hn : i < M.2.2.2.1) (kk : X l g M F (pc + 2) (L.set i (some (.int x))) st N sh mem c n) : X l g M F pc L (.int x :: st) N sh mem c n :=
  fun p e s m args below meth cd H locs ls C hW hS hL => lv_istore C.1 C.2.1 hdg hL.has hn rfl (fun ls' h => kk _ _ _ _ _ _ _ _ _ _ _ C hW hS (hL.put rfl h))
theorem x_astore_n {k : Fin 4} {o : Nat} (hdg : decode M.2.2.1 pc = .ok (.astore_n k, 1)) (hn : (k : Nat) < M.2.2.2.1) (kk : X l g M F (pc + 1) (L.set k (some (rf g o))) st N sh mem c n) : X l g M F pc L (rf g o :: st) N sh mem c n :=
  fun p e s m args below meth cd H locs ls C hW hS hL => lv_astore_n C.1 C.2.1 hdg rfl hL.has hn rfl (fun ls' h => kk _ _ _ _ _ _ _ _ _ _ _ C hW hS (hL.put rfl h))
theorem x_astore {i : Nat} {o : Nat} (hdg : decode M.2.2.1 pc = .ok (.astore i, 2)) (hn : i < M.2.2.2.1) (kk : X l g M F (pc + 2) (L.set i (some (rf g o))) st N sh mem c n) : X l g M F pc L (rf g o :: st) N sh mem c n :=
  fun p e s m args below meth cd H locs ls C hW hS hL => lv_astore C.1 C.2.1 hdg hL.has hn rfl (fun ls' h => kk _ _ _ _ _ _ _ _ _ _ _ C hW hS (hL.put rfl h))
theorem x_iinc {i : Nat} {k : Int} {x v : Int32} (hdg : decode M.2.2.1 pc = .ok (.iinc i k, 3)) (hl : L[i]? = some (some (.int x))) (hv : x + Int32.ofInt k = v) (hn : i < M.2.2.2.1) (kk : X l g M F (pc + 3) (L.set i (some (.int v))) st N sh mem c n) : X l g M F pc L st N sh mem c n := by
  intro p e s m args below meth cd H locs ls C hW hS hL
  obtain ⟨j, hj⟩ := List.getElem?_of_mem (Lp_mem.mpr hl)
  exact lv_iinc C.1 C.2.1 hdg hL.has hj hv hn rfl (fun ls' h => kk _ _ _ _ _ _ _ _ _ _ _ C hW hS (hL.put rfl h))
end XR
section XR2
variable {l : Launch} {g : XG} {M : Mt} {F : XFin} {pc : Nat} {L : List (Option Value)} {st : List Value} {N : Option Nat} {sh : Nat → Sh} {mem : Mem} {c n : Nat}
theorem x_iadd {x y : Int32} (hdg : decode M.2.2.1 pc = .ok (.iadd, 1)) (kk : X l g M F (pc + 1) L (.int (x + y) :: st) N sh mem c n) : X l g M F pc L (.int y :: .int x :: st) N sh mem c n :=
  fun p e s m args below meth cd H locs ls C hW hS hL => lv_iadd C.1 C.2.1 hdg (kk _ _ _ _ _ _ _ _ _ _ _ C hW hS hL)
theorem x_isub {x y : Int32} (hdg : decode M.2.2.1 pc = .ok (.isub, 1)) (kk : X l g M F (pc + 1) L (.int (x - y) :: st) N sh mem c n) : X l g M F pc L (.int y :: .int x :: st) N sh mem c n :=
  fun p e s m args below meth cd H locs ls C hW hS hL => lv_isub C.1 C.2.1 hdg (kk _ _ _ _ _ _ _ _ _ _ _ C hW hS hL)
theorem x_imul {x y : Int32} (hdg : decode M.2.2.1 pc = .ok (.imul, 1)) (kk : X l g M F (pc + 1) L (.int (x * y) :: st) N sh mem c n) : X l g M F pc L (.int y :: .int x :: st) N sh mem c n :=
  fun p e s m args below meth cd H locs ls C hW hS hL => lv_imul C.1 C.2.1 hdg (kk _ _ _ _ _ _ _ _ _ _ _ C hW hS hL)
theorem x_iand {x y : Int32} (hdg : decode M.2.2.1 pc = .ok (.iand, 1)) (kk : X l g M F (pc + 1) L (.int (x &&& y) :: st) N sh mem c n) : X l g M F pc L (.int y :: .int x :: st) N sh mem c n :=
  fun p e s m args below meth cd H locs ls C hW hS hL => lv_iand C.1 C.2.1 hdg (kk _ _ _ _ _ _ _ _ _ _ _ C hW hS hL)
theorem x_ixor {x y : Int32} (hdg : decode M.2.2.1 pc = .ok (.ixor, 1)) (kk : X l g M F (pc + 1) L (.int (x ^^^ y) :: st) N sh mem c n) : X l g M F pc L (.int y :: .int x :: st) N sh mem c n :=
  fun p e s m args below meth cd H locs ls C hW hS hL => lv_ixor C.1 C.2.1 hdg (kk _ _ _ _ _ _ _ _ _ _ _ C hW hS hL)
theorem x_idiv {x y : Int32} (hdg : decode M.2.2.1 pc = .ok (.idiv, 1)) (hne : ¬ y = 0) (kk : X l g M F (pc + 1) L (.int (x / y) :: st) N sh mem c n) : X l g M F pc L (.int y :: .int x :: st) N sh mem c n :=
  fun p e s m args below meth cd H locs ls C hW hS hL => lv_idiv C.1 C.2.1 hdg hne (kk _ _ _ _ _ _ _ _ _ _ _ C hW hS hL)
theorem x_irem {x y : Int32} (hdg : decode M.2.2.1 pc = .ok (.irem, 1)) (hne : ¬ y = 0) (kk : X l g M F (pc + 1) L (.int (x - x / y * y) :: st) N sh mem c n) : X l g M F pc L (.int y :: .int x :: st) N sh mem c n :=
  fun p e s m args below meth cd H locs ls C hW hS hL => lv_irem C.1 C.2.1 hdg hne (kk _ _ _ _ _ _ _ _ _ _ _ C hW hS hL)
theorem x_ineg {x : Int32} (hdg : decode M.2.2.1 pc = .ok (.ineg, 1)) (kk : X l g M F (pc + 1) L (.int (-x) :: st) N sh mem c n) : X l g M F pc L (.int x :: st) N sh mem c n :=
  fun p e s m args below meth cd H locs ls C hW hS hL => lv_ineg C.1 C.2.1 hdg (kk _ _ _ _ _ _ _ _ _ _ _ C hW hS hL)
theorem x_i2c {x v : Int32} (hdg : decode M.2.2.1 pc = .ok (.i2c, 1)) (hv : (x.toUInt32 % 65536).toInt32 = v) (kk : X l g M F (pc + 1) L (.int v :: st) N sh mem c n) : X l g M F pc L (.int x :: st) N sh mem c n :=
  fun p e s m args below meth cd H locs ls C hW hS hL => lv_i2c C.1 C.2.1 hdg hv (kk _ _ _ _ _ _ _ _ _ _ _ C hW hS hL)
theorem x_i2d {x : Int32} (hdg : decode M.2.2.1 pc = .ok (.i2d, 1)) (kk : X l g M F (pc + 1) L (.double (FP.i2d x) :: st) N sh mem c n) : X l g M F pc L (.int x :: st) N sh mem c n :=
  fun p e s m args below meth cd H locs ls C hW hS hL => lv_i2d C.1 C.2.1 hdg (kk _ _ _ _ _ _ _ _ _ _ _ C hW hS hL)
theorem x_ddiv {x y : UInt64} (hdg : decode M.2.2.1 pc = .ok (.ddiv, 1)) (hne : vf_n64 (FP.ddiv x y)) (kk : X l g M F (pc + 1) L (.double (FP.ddiv x y) :: st) N sh mem c n) : X l g M F pc L (.double y :: .double x :: st) N sh mem c n :=
  fun p e s m args below meth cd H locs ls C hW hS hL => lv_ddiv C.1 C.2.1 hdg hne (kk _ _ _ _ _ _ _ _ _ _ _ C hW hS hL)
theorem x_bipush {k : Int} {v : Int32} (hdg : decode M.2.2.1 pc = .ok (.bipush k, 2)) (hv : (Int8.ofInt k).toInt32 = v) (kk : X l g M F (pc + 2) L (.int v :: st) N sh mem c n) : X l g M F pc L st N sh mem c n :=
  fun p e s m args below meth cd H locs ls C hW hS hL => lv_bipush C.1 C.2.1 hdg hv (kk _ _ _ _ _ _ _ _ _ _ _ C hW hS hL)
theorem x_sipush {k : Int} {v : Int32} (hdg : decode M.2.2.1 pc = .ok (.sipush k, 3)) (hv : (Int16.ofInt k).toInt32 = v) (kk : X l g M F (pc + 3) L (.int v :: st) N sh mem c n) : X l g M F pc L st N sh mem c n :=
  fun p e s m args below meth cd H locs ls C hW hS hL => lv_sipush C.1 C.2.1 hdg hv (kk _ _ _ _ _ _ _ _ _ _ _ C hW hS hL)
theorem x_dup {v : Value} (hdg : decode M.2.2.1 pc = .ok (.dup, 1)) (hv : v.category = 1) (kk : X l g M F (pc + 1) L (v :: v :: st) N sh mem c n) : X l g M F pc L (v :: st) N sh mem c n :=
  fun p e s m args below meth cd H locs ls C hW hS hL => lv_dup C.1 C.2.1 hdg hv (kk _ _ _ _ _ _ _ _ _ _ _ C hW hS hL)
theorem x_pop {v : Value} (hdg : decode M.2.2.1 pc = .ok (.pop, 1)) (hv : v.category = 1) (kk : X l g M F (pc + 1) L st N sh mem c n) : X l g M F pc L (v :: st) N sh mem c n :=
  fun p e s m args below meth cd H locs ls C hW hS hL => lv_pop C.1 C.2.1 hdg hv (kk _ _ _ _ _ _ _ _ _ _ _ C hW hS hL)
theorem x_dup2 {v w : Value} (hdg : decode M.2.2.1 pc = .ok (.dup2, 1)) (hv : v.category = 1) (hw : w.category = 1) (kk : X l g M F (pc + 1) L (v :: w :: v :: w :: st) N sh mem c n) : X l g M F pc L (v :: w :: st) N sh mem c n :=
  fun p e s m args below meth cd H locs ls C hW hS hL => lv_dup2_11 C.1 C.2.1 hdg hv hw (kk _ _ _ _ _ _ _ _ _ _ _ C hW hS hL)
theorem x_goto {off : Int} {tgt : Nat} (hdg : decode M.2.2.1 pc = .ok (.goto off, 3)) (ht : (pc : Int) + off = (tgt : Int)) (kk : X l g M F tgt L st N sh mem c n) : X l g M F pc L st N sh mem c n :=
  fun p e s m args below meth cd H locs ls C hW hS hL => lv_goto C.1 C.2.1 hdg ht (kk _ _ _ _ _ _ _ _ _ _ _ C hW hS hL)
theorem x_if_eq {x : Int32} {off : Int} {tgt : Nat} (hdg : decode M.2.2.1 pc = .ok (.ifCond .eq off, 3)) (ht : (pc : Int) + off = (tgt : Int)) (kt : x = 0 → X l g M F tgt L st N sh mem c n) (kf : ¬ (x = 0) → X l g M F (pc + 3) L st N sh mem c n) : X l g M F pc L (.int x :: st) N sh mem c n :=
  fun p e s m args below meth cd H locs ls C hW hS hL => lv_if_eq C.1 C.2.1 hdg ht (fun h => kt h _ _ _ _ _ _ _ _ _ _ _ C hW hS hL) (fun h => kf h _ _ _ _ _ _ _ _ _ _ _ C hW hS hL)
theorem x_icmp_eq {x y : Int32} {off : Int} {tgt : Nat} (hdg : decode M.2.2.1 pc = .ok (.if_icmp .eq off, 3)) (ht : (pc : Int) + off = (tgt : Int)) (kt : x = y → X l g M F tgt L st N sh mem c n) (kf : ¬ (x = y) → X l g M F (pc + 3) L st N sh mem c n) : X l g M F pc L (.int y :: .int x :: st) N sh mem c n :=
  fun p e s m args below meth cd H locs ls C hW hS hL => lv_icmp_eq C.1 C.2.1 hdg ht (fun h => kt h _ _ _ _ _ _ _ _ _ _ _ C hW hS hL) (fun h => kf h _ _ _ _ _ _ _ _ _ _ _ C hW hS hL)
theorem x_if_ne {x : Int32} {off : Int} {tgt : Nat} (hdg : decode M.2.2.1 pc = .ok (.ifCond .ne off, 3)) (ht : (pc : Int) + off = (tgt : Int)) (kt : ¬ x = 0 → X l g M F tgt L st N sh mem c n) (kf : x = 0 → X l g M F (pc + 3) L st N sh mem c n) : X l g M F pc L (.int x :: st) N sh mem c n :=
  fun p e s m args below meth cd H locs ls C hW hS hL => lv_if_ne C.1 C.2.1 hdg ht (fun h => kt h _ _ _ _ _ _ _ _ _ _ _ C hW hS hL) (fun h => kf h _ _ _ _ _ _ _ _ _ _ _ C hW hS hL)
theorem x_icmp_ne {x y : Int32} {off : Int} {tgt : Nat} (hdg : decode M.2.2.1 pc = .ok (.if_icmp .ne off, 3)) (ht : (pc : Int) + off = (tgt : Int)) (kt : ¬ x = y → X l g M F tgt L st N sh mem c n) (kf : x = y → X l g M F (pc + 3) L st N sh mem c n) : X l g M F pc L (.int y :: .int x :: st) N sh mem c n :=
  fun p e s m args below meth cd H locs ls C hW hS hL => lv_icmp_ne C.1 C.2.1 hdg ht (fun h => kt h _ _ _ _ _ _ _ _ _ _ _ C hW hS hL) (fun h => kf h _ _ _ _ _ _ _ _ _ _ _ C hW hS hL)
theorem x_if_lt {x : Int32} {off : Int} {tgt : Nat} (hdg : decode M.2.2.1 pc = .ok (.ifCond .lt off, 3)) (ht : (pc : Int) + off = (tgt : Int)) (kt : x < 0 → X l g M F tgt L st N sh mem c n) (kf : ¬ (x < 0) → X l g M F (pc + 3) L st N sh mem c n) : X l g M F pc L (.int x :: st) N sh mem c n :=
  fun p e s m args below meth cd H locs ls C hW hS hL => lv_if_lt C.1 C.2.1 hdg ht (fun h => kt h _ _ _ _ _ _ _ _ _ _ _ C hW hS hL) (fun h => kf h _ _ _ _ _ _ _ _ _ _ _ C hW hS hL)
theorem x_icmp_lt {x y : Int32} {off : Int} {tgt : Nat} (hdg : decode M.2.2.1 pc = .ok (.if_icmp .lt off, 3)) (ht : (pc : Int) + off = (tgt : Int)) (kt : x < y → X l g M F tgt L st N sh mem c n) (kf : ¬ (x < y) → X l g M F (pc + 3) L st N sh mem c n) : X l g M F pc L (.int y :: .int x :: st) N sh mem c n :=
  fun p e s m args below meth cd H locs ls C hW hS hL => lv_icmp_lt C.1 C.2.1 hdg ht (fun h => kt h _ _ _ _ _ _ _ _ _ _ _ C hW hS hL) (fun h => kf h _ _ _ _ _ _ _ _ _ _ _ C hW hS hL)
theorem x_if_ge {x : Int32} {off : Int} {tgt : Nat} (hdg : decode M.2.2.1 pc = .ok (.ifCond .ge off, 3)) (ht : (pc : Int) + off = (tgt : Int)) (kt : 0 ≤ x → X l g M F tgt L st N sh mem c n) (kf : ¬ (0 ≤ x) → X l g M F (pc + 3) L st N sh mem c n) : X l g M F pc L (.int x :: st) N sh mem c n :=
  fun p e s m args below meth cd H locs ls C hW hS hL => lv_if_ge C.1 C.2.1 hdg ht (fun h => kt h _ _ _ _ _ _ _ _ _ _ _ C hW hS hL) (fun h => kf h _ _ _ _ _ _ _ _ _ _ _ C hW hS hL)
theorem x_icmp_ge {x y : Int32} {off : Int} {tgt : Nat} (hdg : decode M.2.2.1 pc = .ok (.if_icmp .ge off, 3)) (ht : (pc : Int) + off = (tgt : Int)) (kt : y ≤ x → X l g M F tgt L st N sh mem c n) (kf : ¬ (y ≤ x) → X l g M F (pc + 3) L st N sh mem c n) : X l g M F pc L (.int y :: .int x :: st) N sh mem c n :=
  fun p e s m args below meth cd H locs ls C hW hS hL => lv_icmp_ge C.1 C.2.1 hdg ht (fun h => kt h _ _ _ _ _ _ _ _ _ _ _ C hW hS hL) (fun h => kf h _ _ _ _ _ _ _ _ _ _ _ C hW hS hL)
theorem x_if_gt {x : Int32} {off : Int} {tgt : Nat} (hdg : decode M.2.2.1 pc = .ok (.ifCond .gt off, 3)) (ht : (pc : Int) + off = (tgt : Int)) (kt : 0 < x → X l g M F tgt L st N sh mem c n) (kf : ¬ (0 < x) → X l g M F (pc + 3) L st N sh mem c n) : X l g M F pc L (.int x :: st) N sh mem c n :=
  fun p e s m args below meth cd H locs ls C hW hS hL => lv_if_gt C.1 C.2.1 hdg ht (fun h => kt h _ _ _ _ _ _ _ _ _ _ _ C hW hS hL) (fun h => kf h _ _ _ _ _ _ _ _ _ _ _ C hW hS hL)
theorem x_icmp_gt {x y : Int32} {off : Int} {tgt : Nat} (hdg : decode M.2.2.1 pc = .ok (.if_icmp .gt off, 3)) (ht : (pc : Int) + off = (tgt : Int)) (kt : y < x → X l g M F tgt L st N sh mem c n) (kf : ¬ (y < x) → X l g M F (pc + 3) L st N sh mem c n) : X l g M F pc L (.int y :: .int x :: st) N sh mem c n :=
  fun p e s m args below meth cd H locs ls C hW hS hL => lv_icmp_gt C.1 C.2.1 hdg ht (fun h => kt h _ _ _ _ _ _ _ _ _ _ _ C hW hS hL) (fun h => kf h _ _ _ _ _ _ _ _ _ _ _ C hW hS hL)
theorem x_if_le {x : Int32} {off : Int} {tgt : Nat} (hdg : decode M.2.2.1 pc = .ok (.ifCond .le off, 3)) (ht : (pc : Int) + off = (tgt : Int)) (kt : x ≤ 0 → X l g M F tgt L st N sh mem c n) (kf : ¬ (x ≤ 0) → X l g M F (pc + 3) L st N sh mem c n) : X l g M F pc L (.int x :: st) N sh mem c n :=
  fun p e s m args below meth cd H locs ls C hW hS hL => lv_if_le C.1 C.2.1 hdg ht (fun h => kt h _ _ _ _ _ _ _ _ _ _ _ C hW hS hL) (fun h => kf h _ _ _ _ _ _ _ _ _ _ _ C hW hS hL)
theorem x_icmp_le {x y : Int32} {off : Int} {tgt : Nat} (hdg : decode M.2.2.1 pc = .ok (.if_icmp .le off, 3)) (ht : (pc : Int) + off = (tgt : Int)) (kt : x ≤ y → X l g M F tgt L st N sh mem c n) (kf : ¬ (x ≤ y) → X l g M F (pc + 3) L st N sh mem c n) : X l g M F pc L (.int y :: .int x :: st) N sh mem c n :=
  fun p e s m args below meth cd H locs ls C hW hS hL => lv_icmp_le C.1 C.2.1 hdg ht (fun h => kt h _ _ _ _ _ _ _ _ _ _ _ C hW hS hL) (fun h => kf h _ _ _ _ _ _ _ _ _ _ _ C hW hS hL)
theorem x_tableIn {dflt lo hi : Int} {offs : Array Int} {len : Nat} {x : Int32} {off : Int} {tgt : Nat} (hdg : decode M.2.2.1 pc = .ok (.tableswitch dflt lo hi offs, len)) (h1 : ¬ x.toInt < lo) (h2 : ¬ hi < x.toInt) (ho : offs[(x.toInt - lo).toNat]? = some off) (ht : (pc : Int) + off = (tgt : Int)) (kk : X l g M F tgt L st N sh mem c n) : X l g M F pc L (.int x :: st) N sh mem c n :=
  fun p e s m args below meth cd H locs ls C hW hS hL => lv_tableIn C.1 C.2.1 hdg h1 h2 ho ht (kk _ _ _ _ _ _ _ _ _ _ _ C hW hS hL)
theorem x_tableOut {dflt lo hi : Int} {offs : Array Int} {len : Nat} {x : Int32} {tgt : Nat} (hdg : decode M.2.2.1 pc = .ok (.tableswitch dflt lo hi offs, len)) (h : x.toInt < lo ∨ hi < x.toInt) (ht : (pc : Int) + dflt = (tgt : Int)) (kk : X l g M F tgt L st N sh mem c n) : X l g M F pc L (.int x :: st) N sh mem c n :=
  fun p e s m args below meth cd H locs ls C hW hS hL => lv_tableOut C.1 C.2.1 hdg h ht (kk _ _ _ _ _ _ _ _ _ _ _ C hW hS hL)
theorem x_lookup {dflt : Int} {ps : Array (Int × Int)} {len : Nat} {x : Int32} {off : Int} {tgt : Nat} (hdg : decode M.2.2.1 pc = .ok (.lookupswitch dflt ps, len)) (hp : (ps.toList.zip (ps.toList.drop 1)).all (fun (a, next) => a.1 < next.1) = true) (ho : Op.lookupswitch.offset ps.toList dflt x.toInt = off) (ht : (pc : Int) + off = (tgt : Int)) (kk : X l g M F tgt L st N sh mem c n) : X l g M F pc L (.int x :: st) N sh mem c n :=
  fun p e s m args below meth cd H locs ls C hW hS hL => lv_lookup C.1 C.2.1 hdg hp ho ht (kk _ _ _ _ _ _ _ _ _ _ _ C hW hS hL)
theorem x_null (hdg : decode M.2.2.1 pc = .ok (.aconst_null, 1)) (kk : X l g M F (pc + 1) L (.null :: st) N sh mem c n) : X l g M F pc L st N sh mem c n :=
  fun p e s m args below meth cd H locs ls C hW hS hL => lv_null C.1 C.2.1 hdg (kk _ _ _ _ _ _ _ _ _ _ _ C hW hS hL)
theorem x_ifnonnull {o : Nat} {off : Int} {tgt : Nat} (hdg : decode M.2.2.1 pc = .ok (.ifnonnull off, 3)) (ht : (pc : Int) + off = (tgt : Int)) (kk : X l g M F tgt L st N sh mem c n) : X l g M F pc L (rf g o :: st) N sh mem c n :=
  fun p e s m args below meth cd H locs ls C hW hS hL => lv_ifnonnull C.1 C.2.1 hdg ht (kk _ _ _ _ _ _ _ _ _ _ _ C hW hS hL)
theorem x_ifnull {o : Nat} {off : Int} (hdg : decode M.2.2.1 pc = .ok (.ifnull off, 3)) (kk : X l g M F (pc + 3) L st N sh mem c n) : X l g M F pc L (rf g o :: st) N sh mem c n :=
  fun p e s m args below meth cd H locs ls C hW hS hL => lv_ifnull C.1 C.2.1 hdg (kk _ _ _ _ _ _ _ _ _ _ _ C hW hS hL)
end XR2
