/-! what is made; calls; a method's start and end -/
section XN
variable {l : Launch} {g : XG} {M : Mt} {F : XFin} {pc : Nat} {L : List (Option Value)} {st : List Value} {N0 : Nat} {sh : Nat → Sh} {mem : Mem} {c n : Nat}
theorem x_new {ci idx : Nat} {fs : List (Option (Option Nat))} (hf : NS M.1 idx ci fs) (hne : fs ≠ []) (hdg : decode M.2.2.1 pc = .ok (.new idx, 3)) (hcl : c + 1 ≤ M.2.2.2.2.2.cells) (hsl : n + fs.length ≤ M.2.2.2.2.2.slots) (kk : X l g M F (pc + 3) L (rf g N0 :: st) (some (N0 + 1)) (us sh N0 (.inl (ci, fs))) (zm mem N0) (c + 1) (n + fs.length)) : X l g M F pc L st (some N0) sh mem c n := by
  intro p e s m args below meth cd H locs ls C hW hS hL
  obtain ⟨Cn, T, nf, ty0, hc, hin, hty, hcl2, hins, hini, hlen, hfs⟩ := hf
  have hts := C.2.2.2.2.2.2.2.1
  have hK := C.2.2.2.2.2.2.2.2.1.1
  have hKn := hK.1 ci _ hc
  have hz := hW.1 N0 rfl
  rw [hlen] at hsl kk
  refine W.newcK C.1 C.2.1 C.2.2.2.1 (hts _ hcl2) (hts _ hins) (hts _ hini) rfl hdg hcl hsl hKn.2.1 hz fun H1 kC hkC e1 z1 o1 => ?_
  refine kk _ _ _ _ _ _ _ _ _ _ _ C ⟨fun n hn => ?_, fun o' ho' => ?_⟩ ⟨?_, fun x h1 h2 => ?_, hS.2.2⟩ hL
  · cases hn
    rw [z1]
    omega
  · by_cases ho : o' = N0
    · subst ho
      rw [us_at, zm_at]
      refine ⟨_, hc, (u_born ty0 hts hin hKn hkC e1 hty).to fun j hj => ?_⟩
      rcases hfs j hj with ⟨h1, h2⟩ | ⟨h1, h2⟩
      · rw [vp_mapIdx g _ _ h1]
        exact h2
      · rw [vp_mapIdx g _ _ h1]
        exact h2
    · rw [us_ne sh _ ho] at ho' ⊢
      rw [zm_ne mem ho]
      have h9 := (hW.2 o' ho').lt
      exact (hW.2 o' ho').kept (o1 _ (by rw [← hz]; exact h9))
  · have := hS.1
    omega
  · have h3 := hS.1
    exact (o1 x (by omega)).trans (hS.2.1 x h1 h2)
theorem x_newa {k : Int32} {na : Nat} (ha : Cond.arrayClass .int ∈ tbG) (hn : ¬ k < 0) (hN : k.toNatClampNeg = na) (hb : na * 4 ≤ 536870912) (hdg : decode M.2.2.1 pc = .ok (.newarray .int, 2)) (hcl : c + 1 ≤ M.2.2.2.2.2.cells) (hsl : n + na ≤ M.2.2.2.2.2.slots) (kk : X l g M F (pc + 2) L (rf g N0 :: st) (some (N0 + 1)) (us sh N0 (.inr (.inl na))) (zm mem N0) (c + 1) (n + na)) : X l g M F pc L (.int k :: st) (some N0) sh mem c n := by
  intro p e s m args below meth cd H locs ls C hW hS hL
  have hts := C.2.2.2.2.2.2.2.1
  have hK := C.2.2.2.2.2.2.2.2.1.1
  have hz := hW.1 N0 rfl
  refine va_newaK (atype := .int) C.1 C.2.1 (hts _ ha) rfl hdg rfl hn hN hb hcl hsl hz fun H1 cA e1 z1 o1 hAr hNm => ?_
  have hcA : cA = g.2.2.1 := Option.some.inj (hNm.symm.trans (hK.2 0 (g.2.2.1, .int) rfl).2)
  subst hcA
  refine kk _ _ _ _ _ _ _ _ _ _ _ C ⟨fun n hn => ?_, fun o' ho' => ?_⟩ ⟨?_, fun x h1 h2 => ?_, hS.2.2⟩ hL
  · cases hn
    rw [z1]
    omega
  · by_cases ho : o' = N0
    · subst ho
      rw [us_at, zm_at]
      exact e1
    · rw [us_ne sh _ ho] at ho' ⊢
      rw [zm_ne mem ho]
      have h9 := (hW.2 o' ho').lt
      exact (hW.2 o' ho').kept (o1 _ (by rw [← hz]; exact h9))
  · have := hS.1
    omega
  · have h3 := hS.1
    exact (o1 x (by omega)).trans (hS.2.1 x h1 h2)
theorem x_anew {k : Int32} {na idx : Nat} (hcl2 : Cond.classLink M.1 idx "CarpetCounter$Book" ∈ tbG) (hn : ¬ k < 0) (hN : k.toNatClampNeg = na) (hb : na * 4 ≤ 536870912) (hdg : decode M.2.2.1 pc = .ok (.anewarray idx, 3)) (hcl : c + 1 ≤ M.2.2.2.2.2.cells) (hsl : n + na ≤ M.2.2.2.2.2.slots) (kk : X l g M F (pc + 3) L (rf g N0 :: st) (some (N0 + 1)) (us sh N0 (.inr (.inr (na, fun _ => none)))) (zm mem N0) (c + 1) (n + na)) : X l g M F pc L (.int k :: st) (some N0) sh mem c n := by
  intro p e s m args below meth cd H locs ls C hW hS hL
  have hts := C.2.2.2.2.2.2.2.1
  have hK := C.2.2.2.2.2.2.2.2.1
  have hz := hW.1 N0 rfl
  subst hN
  refine W.anew C.1 C.2.1 C.2.2.2.1 (hts _ hcl2) (va_AO.use hK.2.1) rfl hdg rfl hn hb hcl hsl fun cA kA comp f1 f2 f3 f4 => ?_
  obtain ⟨kA', comp', k1, k2, k3, k4⟩ := (hK.1.2 1 (g.2.2.2, .object "CarpetCounter$Book") rfl).2
  have hcA : cA = g.2.2.2 := Option.some.inj (f1.symm.trans k4)
  subst hcA
  generalize hH1 : H.push ({ cls := g.2.2.2, slots := Array.replicate k.toNatClampNeg .null, vm := .none } : Cell) = H1
  have z1 : H1.size = H.size + 1 := by rw [← hH1, Array.size_push]
  have e1 : H1[H.size]? = some (arrV g.2.2.2 k.toNatClampNeg (fun _ => .null)) := by rw [← hH1, Array.getElem?_push_size, ← arrV_new]
  have o1 : ∀ q : Nat, q < H.size → H1[q]? = H[q]? := fun q hq => by rw [← hH1, Array.getElem?_push, if_neg (Nat.ne_of_lt hq)]
  rw [hz] at e1 ⊢
  refine kk _ _ _ _ _ _ _ _ _ _ _ C ⟨fun n hn => ?_, fun o' ho' => ?_⟩ ⟨?_, fun x h1 h2 => ?_, hS.2.2⟩ hL
  · cases hn
    omega
  · by_cases ho : o' = N0
    · subst ho
      rw [us_at, zm_at]
      exact e1
    · rw [us_ne sh _ ho] at ho' ⊢
      rw [zm_ne mem ho]
      exact (hW.2 o' ho').kept (o1 _ (hW.2 o' ho').lt)
  · have := hS.1
    omega
  · have h3 := hS.1
    exact (o1 x (by omega)).trans (hS.2.1 x h1 h2)
end XN
section XC
variable {l : Launch} {g : XG} {M : Mt} {F : XFin} {pc : Nat} {L : List (Option Value)} {st : List Value} {N : Option Nat} {sh : Nat → Sh} {mem : Mem} {c n : Nat}
theorem x_aast {o na r ci : Nat} {q : Nat → Option Nat} {fs : List (Option (Option Nat))} {i : Int32} (hs : sh o = .inr (.inr (na, q))) (hr : sh r = .inl (0, fs)) (hfs : fs ≠ []) (hi : vp_in i na) (hdg : decode M.2.2.1 pc = .ok (.aastore, 1)) (kk : X l g M F (pc + 1) L st N (us sh o (.inr (.inr (na, fun j => if j = i.toNatClampNeg then some r else q j)))) mem c n) : X l g M F pc L (rf g r :: .int i :: rf g o :: st) N sh mem c n := by
  intro p e s m args below meth cd H locs ls C hW hS hL
  have hK := C.2.2.2.2.2.2.2.2.1.1
  have hlt : i.toNatClampNeg < na := Nat.not_le.mp fun q => hi (Or.inr q)
  have h0 : ¬ i < 0 := fun q => hi (Or.inl q)
  have hat := hW.2 o (arr_ne hs)
  rw [hs] at hat
  have hat2 := hW.2 r (obj_ne hr hfs)
  rw [hr] at hat2
  obtain ⟨r', hr', cellV, g1, g2, g3, -⟩ := hat2
  have hr2 : r' = (R_Bk, T_Bk, 7) := Option.some.inj (hr'.symm.trans rfl)
  subst hr2
  have hcls := (hK.1 0 (R_Bk, T_Bk, 7) rfl).2
  obtain ⟨kA, comp, k1, k2, k3, -⟩ := (hK.2 1 (g.2.2.2, .object "CarpetCounter$Book") rfl).2
  have hcomp : comp = g.1.1 0 := Option.some.inj (k3.symm.trans hcls.1)
  subst hcomp
  obtain ⟨kC, hkC, -⟩ := hcls.2
  refine W.aast C.1 C.2.1 hat (fun q h => by cases h) (fun h => by cases h) k1 k2 rfl hkC ⟨h0, by show _ < (arrV _ _ _).slots.size; rw [arrV_size]; exact hlt⟩ g1 (fun q h => by rw [g3] at h; cases h) (by rw [g2]; exact hkC) (by rw [g2]; exact va_assign hcls) rfl rfl hdg fun H1 e1 z oq => ?_
  refine kk _ _ _ _ _ _ _ _ _ _ _ C ⟨fun n hn => by rw [z]; exact hW.1 n hn, fun o' ho' => ?_⟩ (hS.put z oq (Nat.le_add_right _ _)) hL
  by_cases ho : o' = o
  · subst ho
    rw [us_at]
    show H1[g.2.1 + o']? = some (vp_cell _ _)
    rw [e1]
    rw [vp_cell_q, vp_cell_q, arrV_store]
    congr 2
    funext q
    by_cases hq : q = i.toNatClampNeg
    · subst hq; simp [updV, va_rf]
    · simp [updV, hq]
  · rw [us_ne sh _ ho] at ho' ⊢
    exact (hW.2 o' ho').kept (oq _ (by show g.2.1 + o' ≠ g.2.1 + o; omega))
theorem x_objInit {idx o : Nat} (h1 : Cond.methodLink M.1 idx Lib.objectInit ∈ tbG) (h2 : Cond.instanceMethod Lib.objectInit ∈ tbG) (h3 : Cond.code Lib.objectInit ⟨#[0xb1]⟩ 1 none ∈ tbG) (hdg : decode M.2.2.1 pc = .ok (.invokespecial idx, 3)) (hfr : 1 ≤ M.2.2.2.2.2.frames) (hlo : (st.map fun v => v.category).sum + 12 ≤ M.2.2.2.2.2.locals) (kk : X l g M F (pc + 3) L st N sh mem c n) : X l g M F pc L (rf g o :: st) N sh mem c n := by
  intro p e s m args below meth cd H locs ls C hW hS hL
  have hts := C.2.2.2.2.2.2.2.1
  refine W.objInit C.1 C.2.1 C.2.2.2.1 (hts _ h1) (hts _ h2) (hts _ h3) rfl (by rw [C.2.2.1]; exact hL.1) rfl hdg hfr (by show 2 * 0 + _ + _ ≤ _; omega) ?_
  exact W.eq (g2 := F0 m (pc + 3) ls st) rfl (kk _ _ _ _ _ _ _ _ _ _ _ C hW hS hL)
theorem x_max {idx : Nat} {x y : Int32} (h1 : Cond.methodLink M.1 idx Lib.Math.max.name ∈ tbG) (h2 : Cond.static Lib.Math.max.name ∈ tbG) (h3 : Cond.initialized "java/lang/Math" ∈ tbG) (h4 : Cond.code Lib.Math.max.name Lib.Math.max.code 2 (some .int) ∈ tbG) (hdg : decode M.2.2.1 pc = .ok (.invokestatic idx, 3)) (hfr : 1 ≤ M.2.2.2.2.2.frames) (hlo : (st.map fun v => v.category).sum + 13 ≤ M.2.2.2.2.2.locals) (hcl : c ≤ M.2.2.2.2.2.cells) (hsl : n ≤ M.2.2.2.2.2.slots) (kk : X l g M F (pc + 3) L (.int (if x < y then y else x) :: st) N sh mem c n) : X l g M F pc L (.int y :: .int x :: st) N sh mem c n := by
  intro p e s m args below meth cd H locs ls C hW hS hL
  have hts := C.2.2.2.2.2.2.2.1
  exact va_mmax C.1 C.2.1 (by rw [C.2.2.1]; exact hL.1.symm) C.2.2.2.1 (hts _ h1) (hts _ h2) (hts _ h3) (hts _ h4) hfr hlo hcl hsl hdg (kk _ _ _ _ _ _ _ _ _ _ _ C hW hS hL)
theorem x_min {idx : Nat} {x y : Int32} (h1 : Cond.methodLink M.1 idx Lib.Math.min.name ∈ tbG) (h2 : Cond.static Lib.Math.min.name ∈ tbG) (h3 : Cond.initialized "java/lang/Math" ∈ tbG) (h4 : Cond.code Lib.Math.min.name Lib.Math.min.code 2 (some .int) ∈ tbG) (hdg : decode M.2.2.1 pc = .ok (.invokestatic idx, 3)) (hfr : 1 ≤ M.2.2.2.2.2.frames) (hlo : (st.map fun v => v.category).sum + 13 ≤ M.2.2.2.2.2.locals) (hcl : c ≤ M.2.2.2.2.2.cells) (hsl : n ≤ M.2.2.2.2.2.slots) (kk : X l g M F (pc + 3) L (.int (if y < x then y else x) :: st) N sh mem c n) : X l g M F pc L (.int y :: .int x :: st) N sh mem c n := by
  intro p e s m args below meth cd H locs ls C hW hS hL
  have hts := C.2.2.2.2.2.2.2.1
  exact va_mmin C.1 C.2.1 (by rw [C.2.2.1]; exact hL.1.symm) C.2.2.2.1 (hts _ h1) (hts _ h2) (hts _ h3) (hts _ h4) hfr hlo hcl hsl hdg (kk _ _ _ _ _ _ _ _ _ _ _ C hW hS hL)
end XC
