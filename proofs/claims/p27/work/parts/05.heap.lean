/-! fields, arrays, what is new -/
def um (mem : Mem) (o k : Nat) (x : Int32) : Mem := fun o' k' => if o' = o then (if k' = k then x else mem o' k') else mem o' k'
def us (sh : Nat → Sh) (o : Nat) (x : Sh) : Nat → Sh := fun o' => if o' = o then x else sh o'
def zm (mem : Mem) (o : Nat) : Mem := fun o' k' => if o' = o then 0 else mem o' k'
theorem um_at (mem : Mem) (o k : Nat) (x : Int32) : um mem o k x o = upd (mem o) k x := by funext j; simp only [um, upd, if_true]
theorem um_ne (mem : Mem) {o o' : Nat} (k : Nat) (x : Int32) (h : o' ≠ o) : um mem o k x o' = mem o' := by funext j; simp only [um, if_neg h]
theorem us_at (sh : Nat → Sh) (o : Nat) (x : Sh) : us sh o x o = x := if_pos rfl
theorem us_ne (sh : Nat → Sh) {o o' : Nat} (x : Sh) (h : o' ≠ o) : us sh o x o' = sh o' := if_neg h
theorem zm_at (mem : Mem) (o : Nat) : zm mem o o = fun _ => 0 := by funext j; simp only [zm, if_true]
theorem zm_ne (mem : Mem) {o o' : Nat} (h : o' ≠ o) : zm mem o o' = mem o' := by funext j; simp only [zm, if_neg h]
theorem va_P1 {D : va_G} {cl : List vw_C} {a : Nat} {e : va_E} {H : Heap} (h : va_at D cl (a, e) H) : va_P D cl [(a, e)] H := by
  intro k q hk
  match k, hk with
  | 0, hk => cases hk; exact h
  | k + 1, hk => simp at hk
theorem obj_ne {sh : Nat → Sh} {o ci : Nat} {fs : List (Option (Option Nat))} (hs : sh o = .inl (ci, fs)) (hf : fs ≠ []) : sh o ≠ sh0 := by
  rw [hs]
  intro h
  have h1 := Sum.inl.inj h
  exact hf (congrArg Prod.snd h1)
theorem fs_ne {α : Type} {fs : List α} {k : Nat} {x : α} (h : fs[k]? = some x) : fs ≠ [] := fun e => by rw [e] at h; simp at h
theorem arr_ne {sh : Nat → Sh} {o : Nat} {y : Nat ⊕ (Nat × (Nat → Option Nat))} (hs : sh o = .inr y) : sh o ≠ sh0 := by
  rw [hs]
  intro h
  cases h
def FS (own : String) (idx ci k : Nat) : Prop := ∃ (C : String) (T : u_T) (nf : Nat), vwCl[ci]? = some (C, T, nf) ∧ (∀ w ∈ u_ws C T nf, w ∈ tbG) ∧ k < nf ∧ Cond.fieldLink own idx (T k).1 (T k).2.1 (T k).2.2.1 ∈ tbG
def PS (own : String) (idx ci k : Nat) (ty : FieldType) (fin : Bool) : Prop := ∃ (C : String) (T : u_T) (nf : Nat) (ty0 : Nat → FieldType), vwCl[ci]? = some (C, T, nf) ∧ (∀ w ∈ u_ws C T nf, w ∈ tbG) ∧ k < nf ∧ Cond.fieldLink own idx (T k).1 (T k).2.1 (T k).2.2.1 ∈ tbG ∧ (∀ k, k < nf → parseFieldDescriptor (T k).2.2.1 = some (ty0 k)) ∧ (∀ a, a < nf → ∀ b, b < nf → a ≠ b → (T a).2.1 ≠ (T b).2.1) ∧ (T k).2.2.2 = fin ∧ ty0 k = ty ∧ (fin = true → (T k).1 = own)
def NS (own : String) (idx ci : Nat) (fs : List (Option (Option Nat))) : Prop := ∃ (C : String) (T : u_T) (nf : Nat) (ty0 : Nat → FieldType), vwCl[ci]? = some (C, T, nf) ∧ (∀ w ∈ u_ws C T nf, w ∈ tbG) ∧ (∀ k, k < nf → parseFieldDescriptor (T k).2.2.1 = some (ty0 k)) ∧ Cond.classLink own idx C ∈ tbG ∧ Cond.instantiable C nf ∈ tbG ∧ Cond.initialized C ∈ tbG ∧ fs.length = nf ∧ ∀ j, j < nf → (fs[j]? = some none ∧ defaultValue (ty0 j) = .int 0) ∨ (fs[j]? = some (some none) ∧ defaultValue (ty0 j) = .null)
theorem vp_mapIdx (g : XG) (f : Nat → Int32) (fs : List (Option (Option Nat))) {j : Nat} {x : Option (Option Nat)} (h : fs[j]? = some x) : vp_V (fs.mapIdx (fv g f)) j = fv g f j x := by
  show (fs.mapIdx (fv g f)).getD j .null = _
  rw [List.getD_eq_getElem?_getD, List.getElem?_mapIdx, h]
  rfl
theorem vp_mapIdx_none (g : XG) (f : Nat → Int32) (fs : List (Option (Option Nat))) {j : Nat} (h : fs[j]? = none) : vp_V (fs.mapIdx (fv g f)) j = .null := by
  show (fs.mapIdx (fv g f)).getD j .null = _
  rw [List.getD_eq_getElem?_getD, List.getElem?_mapIdx, h]
  rfl
section XH
variable {l : Launch} {g : XG} {M : Mt} {F : XFin} {pc : Nat} {L : List (Option Value)} {st : List Value} {N : Option Nat} {sh : Nat → Sh} {mem : Mem} {c n : Nat}
theorem x_getV {o ci k idx : Nat} {fs : List (Option (Option Nat))} {x : Option (Option Nat)} (hs : sh o = .inl (ci, fs)) (hx : fs[k]? = some x) (hf : FS M.1 idx ci k) (hdg : decode M.2.2.1 pc = .ok (.getfield idx, 3)) (kk : X l g M F (pc + 3) L (fv g (mem o) k x :: st) N sh mem c n) : X l g M F pc L (rf g o :: st) N sh mem c n := by
  intro p e s m args below meth cd H locs ls C hW hS hL
  obtain ⟨Cn, T, nf, hc, hin, hk, hlk⟩ := hf
  have hat := hW.2 o (obj_ne hs (fs_ne hx))
  rw [hs] at hat
  have hts := C.2.2.2.2.2.2.2.1
  refine va_get C.1 C.2.1 hts hin C.2.2.2.1 C.2.2.2.2.2.2.2.2.1.1 (va_P1 hat) 0 rfl hc k hk (hts _ hlk) (fun _ h => h) ?_ hdg (kk _ _ _ _ _ _ _ _ _ _ _ C hW hS hL)
  rw [List.getElem?_mapIdx, hx]
  rfl
theorem x_getI {o ci k idx : Nat} {fs : List (Option (Option Nat))} (hs : sh o = .inl (ci, fs)) (hx : fs[k]? = some none) (hf : FS M.1 idx ci k) (hdg : decode M.2.2.1 pc = .ok (.getfield idx, 3)) (kk : X l g M F (pc + 3) L (.int (mem o k) :: st) N sh mem c n) : X l g M F pc L (rf g o :: st) N sh mem c n := x_getV hs hx hf hdg kk
theorem x_getR {o ci k idx r : Nat} {fs : List (Option (Option Nat))} (hs : sh o = .inl (ci, fs)) (hx : fs[k]? = some (some (some r))) (hf : FS M.1 idx ci k) (hdg : decode M.2.2.1 pc = .ok (.getfield idx, 3)) (kk : X l g M F (pc + 3) L (rf g r :: st) N sh mem c n) : X l g M F pc L (rf g o :: st) N sh mem c n := x_getV hs hx hf hdg kk
theorem x_putI {o ci k idx : Nat} {fs : List (Option (Option Nat))} {ty : FieldType} {v : Int32} (hs : sh o = .inl (ci, fs)) (hx : fs[k]? = some none) (hf : PS M.1 idx ci k ty false) (hn : narrow ty (.int v) = .int v) (hfit : fits ty (.int v) = true) (hdg : decode M.2.2.1 pc = .ok (.putfield idx, 3)) (kk : X l g M F (pc + 3) L st N sh (um mem o k v) c n) : X l g M F pc L (.int v :: rf g o :: st) N sh mem c n := by
  intro p e s m args below meth cd H locs ls C hW hS hL
  obtain ⟨Cn, T, nf, ty0, hc, hin, hk, hlk, hty, hnm, hfin, hty0, -⟩ := hf
  have hts := C.2.2.2.2.2.2.2.1
  have hK := C.2.2.2.2.2.2.2.2.1.1
  have hown := C.2.2.2.1
  have hap := va_apart (own := M.1) hts hin ty0 hty hnm hK hc
  have hat := hW.2 o (obj_ne hs (fs_ne hx))
  rw [hs] at hat
  obtain ⟨r, h1, cell, q1, q2, q3, q4⟩ := hat
  have hr : r = (Cn, T, nf) := Option.some.inj (h1.symm.trans hc)
  subst hr
  obtain ⟨hSl, hfc, kC, hkC, hkind⟩ := hK.1 ci _ hc
  obtain ⟨cf, kf, fi, f, hi, hsl⟩ := hSl k hk
  have hlay := hts _ (hin _ (u_in_lay hk))
  unfold u_lay at hlay
  rw [if_neg (by rw [hfin]; decide)] at hlay
  have hst := (u_facts hfc hkC (u_lays hts hin hk) hi).1
  have h6 := u_store hfc hkC hkind hlay hi (by rw [hty k hk, hty0]) hn hfit
  refine W.putK C.1 C.2.1 (f := f) ⟨hown, hts _ hlk, ⟨_, _, _, hi⟩, hst⟩ (by rw [q2]; exact h6) q1 q3 (by rw [hsl]; exact k2_hasslot (q4 k hk)) rfl rfl hdg fun H' e1 e2 e3 => ?_
  rw [hsl] at e1 ⊢
  refine kk _ _ _ _ _ _ _ _ _ _ _ C ⟨fun n hn => by rw [e2]; exact hW.1 n hn, fun o' ho' => ?_⟩ (hS.put e2 e3 (Nat.le_add_right _ _)) hL
  by_cases ho : o' = o
  · subst ho
    rw [hs]
    refine ⟨_, hc, t_OB.to (V := updV (vp_V (fs.mapIdx (fv g (mem o')))) k (.int v)) ⟨_, e1, q2, q3, t_set q4 hap hk (.int v)⟩ (fun j hj => ?_)⟩
    by_cases hjk : j = k
    · subst hjk
      rw [vp_mapIdx g _ fs hx]
      simp [updV, fv, um]
    · show updV _ k _ j = _
      simp only [updV, if_neg hjk]
      cases hfj : fs[j]? with
      | none => rw [vp_mapIdx_none g _ fs hfj, vp_mapIdx_none g _ fs hfj]
      | some x =>
        rw [vp_mapIdx g _ fs hfj, vp_mapIdx g _ fs hfj]
        cases x with
        | none => simp [fv, um, hjk]
        | some y => cases y <;> rfl
  · rw [um_ne mem k v ho]
    exact (hW.2 o' ho').kept (e3 _ (by show g.2.1 + o' ≠ g.2.1 + o; omega))
theorem x_putR {o ci k idx r : Nat} {fs : List (Option (Option Nat))} {ty : FieldType} {x0 : Option (Option Nat)} (hs : sh o = .inl (ci, fs)) (hx : fs[k]? = some x0) (hf : PS M.1 idx ci k ty true) (hn : ∀ a : Nat, narrow ty (.ref a) = .ref a) (hfit : ∀ a : Nat, fits ty (.ref a) = true) (hin2 : M.2.1.name = "<init>") (hdg : decode M.2.2.1 pc = .ok (.putfield idx, 3)) (kk : X l g M F (pc + 3) L st N (us sh o (.inl (ci, fs.set k (some (some r))))) mem c n) : X l g M F pc L (rf g r :: rf g o :: st) N sh mem c n := by
  intro p e s m args below meth cd H locs ls C hW hS hL
  obtain ⟨Cn, T, nf, ty0, hc, hin, hk, hlk, hty, hnm, hfin, hty0, hdecl⟩ := hf
  have hts := C.2.2.2.2.2.2.2.1
  have hK := C.2.2.2.2.2.2.2.2.1.1
  have hown := C.2.2.2.1
  have hap := va_apart (own := M.1) hts hin ty0 hty hnm hK hc
  have hat := hW.2 o (obj_ne hs (fs_ne hx))
  rw [hs] at hat
  obtain ⟨r1, h1, cell, q1, q2, q3, q4⟩ := hat
  have hr : r1 = (Cn, T, nf) := Option.some.inj (h1.symm.trans hc)
  subst hr
  obtain ⟨hSl, hfc, kC, hkC, hkind⟩ := hK.1 ci _ hc
  obtain ⟨cf, kf, fi, f, hi, hsl⟩ := hSl k hk
  have hlay := hts _ (hin _ (u_in_lay hk))
  unfold u_lay at hlay
  rw [if_pos hfin] at hlay
  have hst := (u_facts hfc hkC (u_lays hts hin hk) hi).1
  have hcf : m.cls = cf := by
    obtain ⟨_, _, c', _, _, _, -, -, hf', -, -, -, hown2, -⟩ := Cond.laysFinal_spec hlay
    have e1 : c' = cf := by have := hi.symm.trans hf'; simp at this; exact this.1.symm
    rw [hdecl rfl] at hown2
    rw [← e1]; exact Option.some.inj (hown.symm.trans hown2)
  have h6 := u_fits hfc hkC hkind (Or.inr hlay) hi (by rw [hty k hk, hty0]) (hn (g.2.1 + r)) (hfit (g.2.1 + r))
  refine W.putFinK C.1 C.2.1 hown (hts _ hlk) hi hst hcf (C.2.2.2.2.2.2.1.trans hin2) (by rw [q2]; exact h6) q1 q3 (by rw [hsl]; exact k2_hasslot (q4 k hk)) rfl rfl hdg fun H' e1 e2 e3 => ?_
  rw [hsl] at e1 ⊢
  refine kk _ _ _ _ _ _ _ _ _ _ _ C ⟨fun n hn => by rw [e2]; exact hW.1 n hn, fun o' ho' => ?_⟩ (hS.put e2 e3 (Nat.le_add_right _ _)) hL
  by_cases ho : o' = o
  · subst ho
    rw [us_at]
    refine ⟨_, hc, t_OB.to (V := updV (vp_V (fs.mapIdx (fv g (mem o')))) k (.ref (g.2.1 + r))) ⟨_, e1, q2, q3, t_set q4 hap hk (.ref (g.2.1 + r))⟩ (fun j hj => ?_)⟩
    by_cases hjk : j = k
    · subst hjk
      have h9 : (fs.set j (some (some r)))[j]? = some (some (some r)) := by rw [List.getElem?_set_self (List.getElem?_eq_some_iff.mp hx).1]
      rw [vp_mapIdx g _ _ h9]
      simp [updV, fv]
    · have h9 : (fs.set k (some (some r)))[j]? = fs[j]? := by rw [List.getElem?_set_ne (fun q => hjk q.symm)]
      show updV _ k _ j = _
      simp only [updV, if_neg hjk]
      cases hfj : fs[j]? with
      | none => rw [vp_mapIdx_none g _ fs hfj, vp_mapIdx_none g _ _ (h9.trans hfj)]
      | some x => rw [vp_mapIdx g _ fs hfj, vp_mapIdx g _ _ (h9.trans hfj)]
  · rw [us_ne sh _ ho] at ho' ⊢
    exact (hW.2 o' ho').kept (e3 _ (by show g.2.1 + o' ≠ g.2.1 + o; omega))
theorem x_iald {o na : Nat} {i : Int32} (hs : sh o = .inr (.inl na)) (hi : vp_in i na) (hdg : decode M.2.2.1 pc = .ok (.iaload, 1)) (kk : X l g M F (pc + 1) L (.int (mem o i.toNatClampNeg) :: st) N sh mem c n) : X l g M F pc L (.int i :: rf g o :: st) N sh mem c n := by
  intro p e s m args below meth cd H locs ls C hW hS hL
  have hat := hW.2 o (arr_ne hs)
  rw [hs] at hat
  exact va_iald C.1 C.2.1 C.2.2.2.2.2.2.2.2.1.1 (va_P1 hat) 0 0 rfl rfl hi hdg (kk _ _ _ _ _ _ _ _ _ _ _ C hW hS hL)
theorem x_alen {o na : Nat} (hs : sh o = .inr (.inl na)) (hdg : decode M.2.2.1 pc = .ok (.arraylength, 1)) (kk : X l g M F (pc + 1) L (.int (nI na) :: st) N sh mem c n) : X l g M F pc L (rf g o :: st) N sh mem c n := by
  intro p e s m args below meth cd H locs ls C hW hS hL
  have hat := hW.2 o (arr_ne hs)
  rw [hs] at hat
  exact va_alen C.1 C.2.1 C.2.2.2.2.2.2.2.2.1.1 (va_P1 hat) 0 0 rfl rfl rfl hdg (kk _ _ _ _ _ _ _ _ _ _ _ C hW hS hL)
theorem x_alenR {o na : Nat} {q : Nat → Option Nat} (hs : sh o = .inr (.inr (na, q))) (hdg : decode M.2.2.1 pc = .ok (.arraylength, 1)) (kk : X l g M F (pc + 1) L (.int (nI na) :: st) N sh mem c n) : X l g M F pc L (rf g o :: st) N sh mem c n := by
  intro p e s m args below meth cd H locs ls C hW hS hL
  have hat := hW.2 o (arr_ne hs)
  rw [hs] at hat
  exact va_alen C.1 C.2.1 C.2.2.2.2.2.2.2.2.1.1 (va_P1 hat) 0 1 rfl rfl rfl hdg (kk _ _ _ _ _ _ _ _ _ _ _ C hW hS hL)
theorem x_aald {o na r : Nat} {q : Nat → Option Nat} {i : Int32} (hs : sh o = .inr (.inr (na, q))) (hi : vp_in i na) (hq : q i.toNatClampNeg = some r) (hdg : decode M.2.2.1 pc = .ok (.aaload, 1)) (kk : X l g M F (pc + 1) L (rf g r :: st) N sh mem c n) : X l g M F pc L (.int i :: rf g o :: st) N sh mem c n := by
  intro p e s m args below meth cd H locs ls C hW hS hL
  have hat := hW.2 o (arr_ne hs)
  rw [hs] at hat
  refine va_aldq C.1 C.2.1 C.2.2.2.2.2.2.2.2.1.1 (va_P1 hat) 0 1 rfl rfl hi hdg ?_
  rw [hq]
  exact kk _ _ _ _ _ _ _ _ _ _ _ C hW hS hL
theorem x_iast {o na : Nat} {i x : Int32} (hs : sh o = .inr (.inl na)) (hi : vp_in i na) (hdg : decode M.2.2.1 pc = .ok (.iastore, 1)) (kk : X l g M F (pc + 1) L st N sh (um mem o i.toNatClampNeg x) c n) : X l g M F pc L (.int x :: .int i :: rf g o :: st) N sh mem c n := by
  intro p e s m args below meth cd H locs ls C hW hS hL
  have hat := hW.2 o (arr_ne hs)
  rw [hs] at hat
  have hK := C.2.2.2.2.2.2.2.2.1.1
  refine W.iast C.1 C.2.1 hat ((hK.2 0 _ rfl).1 na (fun j => .int (mem o j))) (fun q => by cases q) (by show ¬ (i < 0 ∨ (arrV _ _ _).slots.size ≤ _); rw [arrV_size]; exact hi) rfl rfl hdg fun H1 e1 z oq => ?_
  refine kk _ _ _ _ _ _ _ _ _ _ _ C ⟨fun n hn => by rw [z]; exact hW.1 n hn, fun o' ho' => ?_⟩ (hS.put z oq (Nat.le_add_right _ _)) hL
  by_cases ho : o' = o
  · subst ho
    rw [hs, um_at]
    show H1[g.2.1 + o']? = some (vp_cell _ _)
    rw [e1]
    have hlt : i.toNatClampNeg < na := Nat.not_le.mp fun q => hi (Or.inr q)
    show some ((arrV g.2.2.1 na (fun j => .int (mem o' j))).setSlot i.toNatClampNeg (.int x)) = some (arrV g.2.2.1 na (fun j => .int (upd (mem o') i.toNatClampNeg x j)))
    rw [arrV_store]
    congr 2
    funext q
    by_cases hq : q = i.toNatClampNeg
    · subst hq; simp [updV, upd]
    · simp [updV, upd, hq]
  · rw [um_ne mem _ x ho]
    exact (hW.2 o' ho').kept (oq _ (by show g.2.1 + o' ≠ g.2.1 + o; omega))
end XH
