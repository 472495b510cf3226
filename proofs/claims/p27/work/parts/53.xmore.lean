/-! p27: further rows of the X layer -/
section
variable {l : Launch} {g : XG} {M M' : Mt} {F : XFin} {pc : Nat} {L : List (Option Value)} {st rest : List Value} {N : Option Nat} {sh : Nat → Sh} {mem : Mem} {c n : Nat}
theorem x_ishr {x y : Int32} (hdg : decode M.2.2.1 pc = .ok (.ishr, 1)) (kk : X l g M F (pc + 1) L (.int (x >>> (y &&& 31)) :: st) N sh mem c n) : X l g M F pc L (.int y :: .int x :: st) N sh mem c n :=
  fun p e s m args below meth cd H locs ls C hW hS hL => lv_ishr C.1 C.2.1 hdg (kk _ _ _ _ _ _ _ _ _ _ _ C hW hS hL)
theorem x_ldc {idx : Nat} {v : Int32} (hw : Cond.constant M.1 idx v ∈ tbG) (hdg : decode M.2.2.1 pc = .ok (.ldc idx, 2)) (kk : X l g M F (pc + 2) L (.int v :: st) N sh mem c n) : X l g M F pc L st N sh mem c n :=
  fun p e s m args below meth cd H locs ls C hW hS hL => lv_ldc C.1 C.2.1 C.2.2.2.1 (C.2.2.2.2.2.2.2.1 _ hw) hdg (kk _ _ _ _ _ _ _ _ _ _ _ C hW hS hL)
theorem x_dcmp {x y : UInt64} {op : CmpOp} (hdg : decode M.2.2.1 pc = .ok (.dcmp op, 1)) (kk : X l g M F (pc + 1) L (.int (Op.cmpValue (FP.dcmp x y) op) :: st) N sh mem c n) : X l g M F pc L (.double y :: .double x :: st) N sh mem c n :=
  fun p e s m args below meth cd H locs ls C hW hS hL => lv_dcmp C.1 C.2.1 hdg (kk _ _ _ _ _ _ _ _ _ _ _ C hW hS hL)
theorem x_noN {N0 : Nat} (kk : X l g M F pc L st none sh mem c n) : X l g M F pc L st (some N0) sh mem c n := fun p e s m args below meth cd H locs ls C hW hS hL => kk _ _ _ _ _ _ _ _ _ _ _ C ⟨fun n h => (by cases h), hW.2⟩ hS hL
theorem x_widen {c' n' : Nat} (h1 : c ≤ c') (h2 : n ≤ n') (kk : X l g M F pc L st N sh mem c' n') : X l g M F pc L st N sh mem c n := fun p e s m args below meth cd H locs ls C hW hS hL => W.widen h1 h2 (kk _ _ _ _ _ _ _ _ _ _ _ C hW hS hL)
/-- an array made where the heap's size isn't counted: it lies where nothing lay -/
theorem x_newaF {k : Int32} {na : Nat} (ha : Cond.arrayClass .int ∈ tbG) (hn : ¬ k < 0) (hN : k.toNatClampNeg = na) (hb : na * 4 ≤ 536870912) (hdg : decode M.2.2.1 pc = .ok (.newarray .int, 2)) (hcl : c + 1 ≤ M.2.2.2.2.2.cells) (hsl : n + na ≤ M.2.2.2.2.2.slots) (kk : ∀ N0, sh N0 = sh0 → X l g M F (pc + 2) L (rf g N0 :: st) none (us sh N0 (.inr (.inl na))) (zm mem N0) (c + 1) (n + na)) : X l g M F pc L (.int k :: st) none sh mem c n := by
  intro p e s m args below meth cd H locs ls C hW hS hL
  have h0 := C.2.2.2.2.2.2.2.2.2
  have hsz : g.2.1 ≤ H.size := Nat.le_trans h0 hS.1
  have hf : sh (H.size - g.2.1) = sh0 := by
    by_cases h : sh (H.size - g.2.1) = sh0
    · exact h
    · have h1 := (hW.2 _ h).lt
      have h2 : g.2.1 + (H.size - g.2.1) < H.size := h1
      omega
  exact x_newa (N0 := H.size - g.2.1) ha hn hN hb hdg hcl hsl (x_noN (kk _ hf)) p e s m args below meth cd H locs ls C ⟨fun n hn => by cases hn; omega, hW.2⟩ hS hL
theorem x_aretA {Q : XP} {o : Nat} {ty : FieldType} (hr : M.2.2.2.2.1 = some (.array ty)) (hdg : decode M.2.2.1 pc = .ok (.areturn, 1)) (hc : c ≤ M.2.2.2.2.2.cells) (hs : n ≤ M.2.2.2.2.2.slots) (hQ : Q (some (rf g o)) N sh mem) : X l g M (XF g Q M) pc L [rf g o] N sh mem c n := by
  intro p e s m args below meth cd H locs ls C hW hS hL
  refine W.widen hc hs ?_
  exact W.aret C.1 C.2.1 (by rw [C.2.2.2.2.1]; exact hr) (Or.inr ⟨_, rfl⟩) (Or.inr ⟨_, rfl⟩) (fun t ht hW1 => ⟨⟨_, _, _, _, rfl, hQ, by rw [ht]; exact hW⟩, hS.F ht⟩) hS.2.2 hdg C.2.2.2.2.2.1
end
/-- an end that is owed if something holds of the start -/
def GF (Φ : Array Value → State → Prop) (F : XFin) : XFin := fun below args s t => Φ args s → F below args s t
theorem gf_by {Φ : Array Value → State → Prop} {F : XFin} {p : Program} {l : Launch} {e : Env} {R : Room} {s : State} {m : MethodId} {args : Array Value} {below : List Frame} {meth : Method} {c : Code} {H : Heap} {locs : List Loc} {k n : Nat} {f : JFrame} (h : Φ args s → W p l e R s m args below meth c H locs k n (GF Φ F below args s) f) : W p l e R s m args below meth c H locs k n (GF Φ F below args s) f := by
  intro T hT X
  by_cases hx : Φ args s
  · exact h hx T hT X
  · exact ⟨T.setTop f, Steps.refl _, fun z => absurd z hx⟩
theorem gf_end {Φ : Array Value → State → Prop} {F : XFin} {p : Program} {l : Launch} {e : Env} {R : Room} {s : State} {m : MethodId} {args : Array Value} {below : List Frame} {meth : Method} {c : Code} {H : Heap} {locs : List Loc} {k n : Nat} {f : JFrame} (h : W p l e R s m args below meth c H locs k n (F below args s) f) : W p l e R s m args below meth c H locs k n (GF Φ F below args s) f := by
  intro T hT X
  obtain ⟨t, st, z⟩ := h T hT X
  exact ⟨t, st, fun _ => z⟩
/-- the script lies at b, below the law's own cells -/
def Scr (g : XG) (b Ls : Nat) (xs : Nat → Int32) (s : State) : Prop := va_X b Ls xs s s.heap ∧ b < s.heap.size ∧ ¬ xA g b
section
variable {l : Launch} {g : XG} {M : Mt} {F : XFin} {Φ : Array Value → State → Prop} {pc : Nat} {L : List (Option Value)} {st : List Value} {N : Option Nat} {sh : Nat → Sh} {mem : Mem} {c n b Ls : Nat} {xs : Nat → Int32}
theorem x_aload_b {k : Fin 4} {o : Nat} (hdg : decode M.2.2.1 pc = .ok (.aload_n k, 1)) (hl : L[(k : Nat)]? = some (some (.ref o))) (kk : X l g M F (pc + 1) L (.ref o :: st) N sh mem c n) : X l g M F pc L st N sh mem c n :=
  fun p e s m args below meth cd H locs ls C hW hS hL => lv_aload_n C.1 C.2.1 hdg rfl (hL.2.2 _ _ hl).1 (kk _ _ _ _ _ _ _ _ _ _ _ C hW hS hL)
theorem x_sld {i : Nat} (hΦ : ∀ args s, Φ args s → Scr g b Ls xs s) (hi : i < Ls) (hLs : Ls ≤ 260) (hdg : decode M.2.2.1 pc = .ok (.iaload, 1)) (kk : X l g M (GF Φ F) (pc + 1) L (.int (xs i) :: st) N sh mem c n) : X l g M (GF Φ F) pc L (.int (nI i) :: .ref b :: st) N sh mem c n := by
  intro p e s m args below meth cd H locs ls C hW hS hL
  refine gf_by (fun hx => ?_)
  obtain ⟨h1, h2, h3⟩ := hΦ _ _ hx
  refine va_sld C.1 C.2.1 h1 h2 h3 hS (vp_in_nI hi (by omega)) hdg ?_
  rw [nI_clamp (by omega)]
  exact kk _ _ _ _ _ _ _ _ _ _ _ C hW hS hL
theorem x_slen (hΦ : ∀ args s, Φ args s → Scr g b Ls xs s) (hdg : decode M.2.2.1 pc = .ok (.arraylength, 1)) (kk : X l g M (GF Φ F) (pc + 1) L (.int (nI Ls) :: st) N sh mem c n) : X l g M (GF Φ F) pc L (.ref b :: st) N sh mem c n := by
  intro p e s m args below meth cd H locs ls C hW hS hL
  refine gf_by (fun hx => ?_)
  obtain ⟨h1, h2, h3⟩ := hΦ _ _ hx
  exact va_slen C.1 C.2.1 h1 h2 h3 hS hdg (kk _ _ _ _ _ _ _ _ _ _ _ C hW hS hL)
end
-- a double that lies in a local for a while
def XD (l : Launch) (g : XG) (M : Mt) (F : XFin) (pc : Nat) (L : List (Option Value)) (i : Nat) (q : UInt64) (st : List Value) (N : Option Nat) (sh : Nat → Sh) (mem : Mem) (k n : Nat) : Prop :=
  ∀ (p : Program) (e : Env) (s : State) (m : MethodId) (args : Array Value) (below : List Frame) (meth : Method) (c : Code) (H : Heap) (locs : List Loc) (ls : Array Slot), Cx g M p s m args meth c → Wd g N sh mem H → va_S (xA g) s.heap H locs → Lh M.2.2.2.1 ls L → ls[i]? = some (.val (.double q)) → W p l e M.2.2.2.2.2 s m args below meth c H locs k n (F below args s) (F0 m pc ls st)
section
variable {l : Launch} {g : XG} {M M' : Mt} {F : XFin} {pc i : Nat} {q : UInt64} {L : List (Option Value)} {st rest : List Value} {N : Option Nat} {sh : Nat → Sh} {mem : Mem} {c n : Nat}
theorem y_end (kk : X l g M F pc L st N sh mem c n) : XD l g M F pc L i q st N sh mem c n := fun p e s m args below meth cd H locs ls C hW hS hL _ => kk _ _ _ _ _ _ _ _ _ _ _ C hW hS hL
theorem x_dstore (hdg : decode M.2.2.1 pc = .ok (.dstore i, 2)) (hn : i + 1 < M.2.2.2.1) (hLi : ∀ k : Nat, k = i ∨ k = i + 1 → ∀ v, L[k]? ≠ some (some v)) (kk : XD l g M F (pc + 2) L i q st N sh mem c n) : X l g M F pc L (.double q :: st) N sh mem c n := by
  intro p e s m args below meth cd H locs ls C hW hS hL
  refine lv_dstore C.1 C.2.1 hdg hL.has hn rfl (fun ls' h => ?_)
  refine kk _ _ _ _ _ _ _ _ _ _ _ C hW hS ⟨h.1, h.2.1, fun j w hj => ?_⟩ (h.2.2 _ List.mem_cons_self)
  have hw := (hL.2.2 j w hj).2
  refine ⟨h.2.2 (j, w) (List.mem_cons_of_mem _ (List.mem_filter.mpr ⟨Lp_mem.mpr hj, ?_⟩)), hw⟩
  have h1 : (j == i) = false := by simpa using fun z => hLi j (Or.inl z) w hj
  have h2 : (j == i + 1) = false := by simpa using fun z => hLi j (Or.inr z) w hj
  have h3 : (w.category == 2) = false := by rw [hw]; rfl
  simp [h1, h2, h3]
theorem y_dload (hdg : decode M.2.2.1 pc = .ok (.dload i, 2)) (kk : XD l g M F (pc + 2) L i q (.double q :: st) N sh mem c n) : XD l g M F pc L i q st N sh mem c n :=
  fun p e s m args below meth cd H locs ls C hW hS hL hq => lv_dload C.1 C.2.1 hdg hq (kk _ _ _ _ _ _ _ _ _ _ _ C hW hS hL hq)
theorem y_aload_n {k : Fin 4} {o : Nat} (hdg : decode M.2.2.1 pc = .ok (.aload_n k, 1)) (hl : L[(k : Nat)]? = some (some (rf g o))) (kk : XD l g M F (pc + 1) L i q (rf g o :: st) N sh mem c n) : XD l g M F pc L i q st N sh mem c n :=
  fun p e s m args below meth cd H locs ls C hW hS hL hq => lv_aload_n C.1 C.2.1 hdg rfl (hL.2.2 _ _ hl).1 (kk _ _ _ _ _ _ _ _ _ _ _ C hW hS hL hq)
theorem y_iload {k : Nat} {x : Int32} (hdg : decode M.2.2.1 pc = .ok (.iload k, 2)) (hl : L[k]? = some (some (.int x))) (kk : XD l g M F (pc + 2) L i q (.int x :: st) N sh mem c n) : XD l g M F pc L i q st N sh mem c n :=
  fun p e s m args below meth cd H locs ls C hW hS hL hq => lv_iload C.1 C.2.1 hdg (hL.2.2 _ _ hl).1 (kk _ _ _ _ _ _ _ _ _ _ _ C hW hS hL hq)
theorem y_bipush {k : Int} {v : Int32} (hdg : decode M.2.2.1 pc = .ok (.bipush k, 2)) (hv : (Int8.ofInt k).toInt32 = v) (kk : XD l g M F (pc + 2) L i q (.int v :: st) N sh mem c n) : XD l g M F pc L i q st N sh mem c n :=
  fun p e s m args below meth cd H locs ls C hW hS hL hq => lv_bipush C.1 C.2.1 hdg hv (kk _ _ _ _ _ _ _ _ _ _ _ C hW hS hL hq)
theorem y_i2d {x : Int32} (hdg : decode M.2.2.1 pc = .ok (.i2d, 1)) (kk : XD l g M F (pc + 1) L i q (.double (FP.i2d x) :: st) N sh mem c n) : XD l g M F pc L i q (.int x :: st) N sh mem c n :=
  fun p e s m args below meth cd H locs ls C hW hS hL hq => lv_i2d C.1 C.2.1 hdg (kk _ _ _ _ _ _ _ _ _ _ _ C hW hS hL hq)
theorem y_ddiv {x y : UInt64} (hdg : decode M.2.2.1 pc = .ok (.ddiv, 1)) (hne : vf_n64 (FP.ddiv x y)) (kk : XD l g M F (pc + 1) L i q (.double (FP.ddiv x y) :: st) N sh mem c n) : XD l g M F pc L i q (.double y :: .double x :: st) N sh mem c n :=
  fun p e s m args below meth cd H locs ls C hW hS hL hq => lv_ddiv C.1 C.2.1 hdg hne (kk _ _ _ _ _ _ _ _ _ _ _ C hW hS hL hq)
theorem y_dcmp {x y : UInt64} {op : CmpOp} (hdg : decode M.2.2.1 pc = .ok (.dcmp op, 1)) (kk : XD l g M F (pc + 1) L i q (.int (Op.cmpValue (FP.dcmp x y) op) :: st) N sh mem c n) : XD l g M F pc L i q (.double y :: .double x :: st) N sh mem c n :=
  fun p e s m args below meth cd H locs ls C hW hS hL hq => lv_dcmp C.1 C.2.1 hdg (kk _ _ _ _ _ _ _ _ _ _ _ C hW hS hL hq)
theorem y_dconst0 (hdg : decode M.2.2.1 pc = .ok (.dconst 0, 1)) (kk : XD l g M F (pc + 1) L i q (.double FP.dconst0 :: st) N sh mem c n) : XD l g M F pc L i q st N sh mem c n :=
  fun p e s m args below meth cd H locs ls C hW hS hL hq => lv_dconst0 C.1 C.2.1 hdg (kk _ _ _ _ _ _ _ _ _ _ _ C hW hS hL hq)
theorem y_dconst1 (hdg : decode M.2.2.1 pc = .ok (.dconst 1, 1)) (kk : XD l g M F (pc + 1) L i q (.double FP.dconst1 :: st) N sh mem c n) : XD l g M F pc L i q st N sh mem c n :=
  fun p e s m args below meth cd H locs ls C hW hS hL hq => lv_dconst1 C.1 C.2.1 hdg (kk _ _ _ _ _ _ _ _ _ _ _ C hW hS hL hq)
theorem y_if_ne {x : Int32} {off : Int} {tgt : Nat} (hdg : decode M.2.2.1 pc = .ok (.ifCond .ne off, 3)) (ht : (pc : Int) + off = (tgt : Int)) (hx : x = 0) (kf : XD l g M F (pc + 3) L i q st N sh mem c n) : XD l g M F pc L i q (.int x :: st) N sh mem c n :=
  fun p e s m args below meth cd H locs ls C hW hS hL hq => lv_if_ne C.1 C.2.1 hdg ht (fun h => absurd hx h) (fun _ => kf _ _ _ _ _ _ _ _ _ _ _ C hW hS hL hq)
theorem y_if_lt {x : Int32} {off : Int} {tgt : Nat} (hdg : decode M.2.2.1 pc = .ok (.ifCond .lt off, 3)) (ht : (pc : Int) + off = (tgt : Int)) (hx : ¬ x < 0) (kf : XD l g M F (pc + 3) L i q st N sh mem c n) : XD l g M F pc L i q (.int x :: st) N sh mem c n :=
  fun p e s m args below meth cd H locs ls C hW hS hL hq => lv_if_lt C.1 C.2.1 hdg ht (fun h => absurd h hx) (fun _ => kf _ _ _ _ _ _ _ _ _ _ _ C hW hS hL hq)
theorem y_if_le {x : Int32} {off : Int} {tgt : Nat} (hdg : decode M.2.2.1 pc = .ok (.ifCond .le off, 3)) (ht : (pc : Int) + off = (tgt : Int)) (hx : x ≤ 0) (kt : X l g M F tgt L st N sh mem c n) : XD l g M F pc L i q (.int x :: st) N sh mem c n :=
  fun p e s m args below meth cd H locs ls C hW hS hL hq => lv_if_le C.1 C.2.1 hdg ht (fun _ => kt _ _ _ _ _ _ _ _ _ _ _ C hW hS hL) (fun h => absurd hx h)
theorem y_v2i {a1 a2 : Value} {o idx : Nat} {P : Int32 → Mem → Prop} (hdg : decode M.2.2.1 pc = .ok (.invokevirtual idx, 3)) (hl : Cond.methodLink M.1 idx M'.2.1 ∈ tbG) (hv : VI M'.2.1 M'.2.2.1 M'.2.2.2.1 M'.2.2.2.2.1 2) (hR : roomB M M' c n = true) (h0 : M'.2.2.2.2.2.cells = 0 ∧ M'.2.2.2.2.2.slots = 0) (ho : IsObj sh o M'.2.1.cls) (hw : (rest.map fun v => v.category).sum ≤ 8) (hc : Ct l g M' [rf g o, a1, a2] N sh mem (Ri N sh P)) (kk : ∀ (r : Int32) (mem' : Mem), P r mem' → XD l g M F (pc + 3) L i q (.int r :: rest) N sh mem' c n) : XD l g M F pc L i q (a2 :: a1 :: rf g o :: rest) N sh mem c n := by
  intro p e s m args below meth cd H locs ls C hW hS hL hq
  obtain ⟨ci, fs, h1, h2, h3⟩ := ho
  have hts := C.2.2.2.2.2.2.2.1
  have hK := C.2.2.2.2.2.2.2.2.1
  obtain ⟨hd, hv1, hv2, hv3, hv4⟩ := hv
  obtain ⟨hR1, hR2⟩ := roomB_ok hR
  have hat := hW.2 o (obj_ne h1 h2)
  rw [h1] at hat
  obtain ⟨q0, hq0⟩ : ∃ q, vwCl[ci]? = some q := by
    cases h : vwCl[ci]? with
    | none => rw [h] at h3; cases h3
    | some q => exact ⟨q, rfl⟩
  have hq1 : q0.1 = M'.2.1.cls := by rw [hq0] at h3; exact Option.some.inj h3
  have hrv := va_recv hK.1 (va_P1 hat) hq0 (q0 := 0) rfl
  rw [hq1] at hrv
  refine w_call (va_runV (S := ⟨C.1, C.2.1, rfl, C.2.2.2.1, hts⟩) (hM := hc) (As := [a1, a2]) (rest := rest) (b := g.2.1 + o) (C := M'.2.1.cls) (cwV 2 hts (good_ws (own := M.1) (idx := idx) [.methodLink M.1 idx M'.2.1, .instanceMethod M'.2.1, .selects M'.2.1.cls M'.2.1 M'.2.1, .initialized M'.2.1.cls] (fun w hw => by
      simp only [List.mem_cons, List.not_mem_nil, or_false] at hw
      rcases hw with h | h | h | h <;> rw [h]
      · exact hl
      · exact hv1
      · exact hv2
      · exact hv3) hv4) rfl rfl rfl ⟨rfl, hd⟩ hR1) ⟨xPre_blind g _ N sh mem, hrv, fun U hU hW1 => ⟨rfl, by rw [hU]; exact hW, hK.warm hW1, by rw [hU]; exact Nat.le_trans C.2.2.2.2.2.2.2.2.2 hS.1⟩⟩ rfl rfl (by rw [C.2.2.1]; exact hL.1) rfl (by show 2 * 0 + _ ≤ 8; omega) hdg hR2) hS fun v N' sh' mem' H1 locs1 hQ hW1 hS1 => ?_
  obtain ⟨r, rfl, rfl, rfl, hP⟩ := hQ
  rw [h0.1, h0.2]
  exact kk r mem' hP _ _ _ _ _ _ _ _ _ _ _ C hW1 hS1 hL hq
end
