/-! calls by number of arguments and kind of end; copying a row; counting up -/
def IsObj (sh : Nat → Sh) (o : Nat) (C : String) : Prop := ∃ (ci : Nat) (fs : List (Option (Option Nat))), sh o = .inl (ci, fs) ∧ fs ≠ [] ∧ (vwCl[ci]?).map (fun q => q.1) = some C
def Pq (w : Value) (N : Option Nat) (sh : Nat → Sh) (mem : Mem) : XP := fun v N' sh' mem' => v = some w ∧ N' = N ∧ sh' = sh ∧ mem' = mem
def Rv (N : Option Nat) (sh : Nat → Sh) (P : Mem → Prop) : XP := fun v N' sh' mem' => v = none ∧ N' = N ∧ sh' = sh ∧ P mem'
def Ri (N : Option Nat) (sh : Nat → Sh) (P : Int32 → Mem → Prop) : XP := fun v N' sh' mem' => ∃ r : Int32, v = some (.int r) ∧ N' = N ∧ sh' = sh ∧ P r mem'
theorem up_ind {P : Nat → Prop} (K : Nat) (h : ∀ i, i ≤ K → (i < K → P (i + 1)) → P i) : ∀ i, i ≤ K → P i := by
  have key : ∀ k i, i + k = K → P i := by
    intro k
    induction k with
    | zero => intro i hi; exact h i (by omega) (fun q => absurd q (by omega))
    | succ k ih => intro i hi; exact h i (by omega) (fun _ => ih (i + 1) (by omega))
  intro i hi
  exact key (K - i) i (by omega)
section XK
variable {l : Launch} {g : XG} {M M' : Mt} {F : XFin} {pc : Nat} {L : List (Option Value)} {rest : List Value} {N : Option Nat} {sh : Nat → Sh} {mem : Mem} {c n idx : Nat}
theorem x_v0p {o : Nat} {w : Value} (hdg : decode M.2.2.1 pc = .ok (.invokevirtual idx, 3)) (hl : Cond.methodLink M.1 idx M'.2.1 ∈ tbG) (hv : VI M'.2.1 M'.2.2.1 M'.2.2.2.1 M'.2.2.2.2.1 0) (hR : roomB M M' c n = true) (h0 : M'.2.2.2.2.2.cells = 0 ∧ M'.2.2.2.2.2.slots = 0) (ho : IsObj sh o M'.2.1.cls) (hw : (rest.map fun v => v.category).sum ≤ 8) (hc : Ct l g M' [rf g o] N sh mem (Pq w N sh mem)) (kk : X l g M F (pc + 3) L (w :: rest) N sh mem c n) : X l g M F pc L (rf g o :: rest) N sh mem c n := by
  obtain ⟨ci, fs, h1, h2, h3⟩ := ho
  refine x_callV (As := []) hdg hl hv hR h1 h2 h3 rfl hw hc ?_
  intro v N' sh' mem' hq
  obtain ⟨rfl, rfl, rfl, rfl⟩ := hq
  rw [h0.1, h0.2]
  exact kk
theorem x_v0i {o : Nat} {P : Int32 → Mem → Prop} (hdg : decode M.2.2.1 pc = .ok (.invokevirtual idx, 3)) (hl : Cond.methodLink M.1 idx M'.2.1 ∈ tbG) (hv : VI M'.2.1 M'.2.2.1 M'.2.2.2.1 M'.2.2.2.2.1 0) (hR : roomB M M' c n = true) (h0 : M'.2.2.2.2.2.cells = 0 ∧ M'.2.2.2.2.2.slots = 0) (ho : IsObj sh o M'.2.1.cls) (hw : (rest.map fun v => v.category).sum ≤ 8) (hc : Ct l g M' [rf g o] N sh mem (Ri N sh P)) (kk : ∀ (r : Int32) (mem' : Mem), P r mem' → X l g M F (pc + 3) L (.int r :: rest) N sh mem' c n) : X l g M F pc L (rf g o :: rest) N sh mem c n := by
  obtain ⟨ci, fs, h1, h2, h3⟩ := ho
  refine x_callV (As := []) hdg hl hv hR h1 h2 h3 rfl hw hc ?_
  intro v N' sh' mem' hq
  obtain ⟨r, rfl, rfl, rfl, hq⟩ := hq
  rw [h0.1, h0.2]
  exact kk r mem' hq
theorem x_v0v {o : Nat} {P : Mem → Prop} (hdg : decode M.2.2.1 pc = .ok (.invokevirtual idx, 3)) (hl : Cond.methodLink M.1 idx M'.2.1 ∈ tbG) (hv : VI M'.2.1 M'.2.2.1 M'.2.2.2.1 M'.2.2.2.2.1 0) (hR : roomB M M' c n = true) (h0 : M'.2.2.2.2.2.cells = 0 ∧ M'.2.2.2.2.2.slots = 0) (ho : IsObj sh o M'.2.1.cls) (hw : (rest.map fun v => v.category).sum ≤ 8) (hc : Ct l g M' [rf g o] N sh mem (Rv N sh P)) (kk : ∀ mem' : Mem, P mem' → X l g M F (pc + 3) L rest N sh mem' c n) : X l g M F pc L (rf g o :: rest) N sh mem c n := by
  obtain ⟨ci, fs, h1, h2, h3⟩ := ho
  refine x_callV (As := []) hdg hl hv hR h1 h2 h3 rfl hw hc ?_
  intro v N' sh' mem' hq
  obtain ⟨rfl, rfl, rfl, hq⟩ := hq
  rw [h0.1, h0.2]
  exact kk mem' hq
theorem x_v1p {o : Nat} {a1 : Value} {w : Value} (hdg : decode M.2.2.1 pc = .ok (.invokevirtual idx, 3)) (hl : Cond.methodLink M.1 idx M'.2.1 ∈ tbG) (hv : VI M'.2.1 M'.2.2.1 M'.2.2.2.1 M'.2.2.2.2.1 1) (hR : roomB M M' c n = true) (h0 : M'.2.2.2.2.2.cells = 0 ∧ M'.2.2.2.2.2.slots = 0) (ho : IsObj sh o M'.2.1.cls) (hw : (rest.map fun v => v.category).sum ≤ 8) (hc : Ct l g M' [rf g o, a1] N sh mem (Pq w N sh mem)) (kk : X l g M F (pc + 3) L (w :: rest) N sh mem c n) : X l g M F pc L (a1 :: rf g o :: rest) N sh mem c n := by
  obtain ⟨ci, fs, h1, h2, h3⟩ := ho
  refine x_callV (As := [a1]) hdg hl hv hR h1 h2 h3 rfl hw hc ?_
  intro v N' sh' mem' hq
  obtain ⟨rfl, rfl, rfl, rfl⟩ := hq
  rw [h0.1, h0.2]
  exact kk
theorem x_s1p {a1 : Value} {w : Value} (hdg : decode M.2.2.1 pc = .ok (.invokestatic idx, 3)) (hl : Cond.methodLink M.1 idx M'.2.1 ∈ tbG) (hv : VS M'.2.1 M'.2.2.1 M'.2.2.2.1 M'.2.2.2.2.1 1) (hR : roomB M M' c n = true) (h0 : M'.2.2.2.2.2.cells = 0 ∧ M'.2.2.2.2.2.slots = 0) (hown : M'.2.1.cls = M.1) (hw : (rest.map fun v => v.category).sum ≤ 8) (hc : Ct l g M' [a1] N sh mem (Pq w N sh mem)) (kk : X l g M F (pc + 3) L (w :: rest) N sh mem c n) : X l g M F pc L (a1 :: rest) N sh mem c n := by
  refine x_callS (As := [a1]) hdg hl hv hR hown rfl hw hc ?_
  intro v N' sh' mem' hq
  obtain ⟨rfl, rfl, rfl, rfl⟩ := hq
  rw [h0.1, h0.2]
  exact kk
theorem x_v1i {o : Nat} {a1 : Value} {P : Int32 → Mem → Prop} (hdg : decode M.2.2.1 pc = .ok (.invokevirtual idx, 3)) (hl : Cond.methodLink M.1 idx M'.2.1 ∈ tbG) (hv : VI M'.2.1 M'.2.2.1 M'.2.2.2.1 M'.2.2.2.2.1 1) (hR : roomB M M' c n = true) (h0 : M'.2.2.2.2.2.cells = 0 ∧ M'.2.2.2.2.2.slots = 0) (ho : IsObj sh o M'.2.1.cls) (hw : (rest.map fun v => v.category).sum ≤ 8) (hc : Ct l g M' [rf g o, a1] N sh mem (Ri N sh P)) (kk : ∀ (r : Int32) (mem' : Mem), P r mem' → X l g M F (pc + 3) L (.int r :: rest) N sh mem' c n) : X l g M F pc L (a1 :: rf g o :: rest) N sh mem c n := by
  obtain ⟨ci, fs, h1, h2, h3⟩ := ho
  refine x_callV (As := [a1]) hdg hl hv hR h1 h2 h3 rfl hw hc ?_
  intro v N' sh' mem' hq
  obtain ⟨r, rfl, rfl, rfl, hq⟩ := hq
  rw [h0.1, h0.2]
  exact kk r mem' hq
theorem x_s1i {a1 : Value} {P : Int32 → Mem → Prop} (hdg : decode M.2.2.1 pc = .ok (.invokestatic idx, 3)) (hl : Cond.methodLink M.1 idx M'.2.1 ∈ tbG) (hv : VS M'.2.1 M'.2.2.1 M'.2.2.2.1 M'.2.2.2.2.1 1) (hR : roomB M M' c n = true) (h0 : M'.2.2.2.2.2.cells = 0 ∧ M'.2.2.2.2.2.slots = 0) (hown : M'.2.1.cls = M.1) (hw : (rest.map fun v => v.category).sum ≤ 8) (hc : Ct l g M' [a1] N sh mem (Ri N sh P)) (kk : ∀ (r : Int32) (mem' : Mem), P r mem' → X l g M F (pc + 3) L (.int r :: rest) N sh mem' c n) : X l g M F pc L (a1 :: rest) N sh mem c n := by
  refine x_callS (As := [a1]) hdg hl hv hR hown rfl hw hc ?_
  intro v N' sh' mem' hq
  obtain ⟨r, rfl, rfl, rfl, hq⟩ := hq
  rw [h0.1, h0.2]
  exact kk r mem' hq
theorem x_v1v {o : Nat} {a1 : Value} {P : Mem → Prop} (hdg : decode M.2.2.1 pc = .ok (.invokevirtual idx, 3)) (hl : Cond.methodLink M.1 idx M'.2.1 ∈ tbG) (hv : VI M'.2.1 M'.2.2.1 M'.2.2.2.1 M'.2.2.2.2.1 1) (hR : roomB M M' c n = true) (h0 : M'.2.2.2.2.2.cells = 0 ∧ M'.2.2.2.2.2.slots = 0) (ho : IsObj sh o M'.2.1.cls) (hw : (rest.map fun v => v.category).sum ≤ 8) (hc : Ct l g M' [rf g o, a1] N sh mem (Rv N sh P)) (kk : ∀ mem' : Mem, P mem' → X l g M F (pc + 3) L rest N sh mem' c n) : X l g M F pc L (a1 :: rf g o :: rest) N sh mem c n := by
  obtain ⟨ci, fs, h1, h2, h3⟩ := ho
  refine x_callV (As := [a1]) hdg hl hv hR h1 h2 h3 rfl hw hc ?_
  intro v N' sh' mem' hq
  obtain ⟨rfl, rfl, rfl, hq⟩ := hq
  rw [h0.1, h0.2]
  exact kk mem' hq
theorem x_s1v {a1 : Value} {P : Mem → Prop} (hdg : decode M.2.2.1 pc = .ok (.invokestatic idx, 3)) (hl : Cond.methodLink M.1 idx M'.2.1 ∈ tbG) (hv : VS M'.2.1 M'.2.2.1 M'.2.2.2.1 M'.2.2.2.2.1 1) (hR : roomB M M' c n = true) (h0 : M'.2.2.2.2.2.cells = 0 ∧ M'.2.2.2.2.2.slots = 0) (hown : M'.2.1.cls = M.1) (hw : (rest.map fun v => v.category).sum ≤ 8) (hc : Ct l g M' [a1] N sh mem (Rv N sh P)) (kk : ∀ mem' : Mem, P mem' → X l g M F (pc + 3) L rest N sh mem' c n) : X l g M F pc L (a1 :: rest) N sh mem c n := by
  refine x_callS (As := [a1]) hdg hl hv hR hown rfl hw hc ?_
  intro v N' sh' mem' hq
  obtain ⟨rfl, rfl, rfl, hq⟩ := hq
  rw [h0.1, h0.2]
  exact kk mem' hq
theorem x_v2p {o : Nat} {a1 a2 : Value} {w : Value} (hdg : decode M.2.2.1 pc = .ok (.invokevirtual idx, 3)) (hl : Cond.methodLink M.1 idx M'.2.1 ∈ tbG) (hv : VI M'.2.1 M'.2.2.1 M'.2.2.2.1 M'.2.2.2.2.1 2) (hR : roomB M M' c n = true) (h0 : M'.2.2.2.2.2.cells = 0 ∧ M'.2.2.2.2.2.slots = 0) (ho : IsObj sh o M'.2.1.cls) (hw : (rest.map fun v => v.category).sum ≤ 8) (hc : Ct l g M' [rf g o, a1, a2] N sh mem (Pq w N sh mem)) (kk : X l g M F (pc + 3) L (w :: rest) N sh mem c n) : X l g M F pc L (a2 :: a1 :: rf g o :: rest) N sh mem c n := by
  obtain ⟨ci, fs, h1, h2, h3⟩ := ho
  refine x_callV (As := [a1, a2]) hdg hl hv hR h1 h2 h3 rfl hw hc ?_
  intro v N' sh' mem' hq
  obtain ⟨rfl, rfl, rfl, rfl⟩ := hq
  rw [h0.1, h0.2]
  exact kk
theorem x_s2p {a1 a2 : Value} {w : Value} (hdg : decode M.2.2.1 pc = .ok (.invokestatic idx, 3)) (hl : Cond.methodLink M.1 idx M'.2.1 ∈ tbG) (hv : VS M'.2.1 M'.2.2.1 M'.2.2.2.1 M'.2.2.2.2.1 2) (hR : roomB M M' c n = true) (h0 : M'.2.2.2.2.2.cells = 0 ∧ M'.2.2.2.2.2.slots = 0) (hown : M'.2.1.cls = M.1) (hw : (rest.map fun v => v.category).sum ≤ 8) (hc : Ct l g M' [a1, a2] N sh mem (Pq w N sh mem)) (kk : X l g M F (pc + 3) L (w :: rest) N sh mem c n) : X l g M F pc L (a2 :: a1 :: rest) N sh mem c n := by
  refine x_callS (As := [a1, a2]) hdg hl hv hR hown rfl hw hc ?_
  intro v N' sh' mem' hq
  obtain ⟨rfl, rfl, rfl, rfl⟩ := hq
  rw [h0.1, h0.2]
  exact kk
theorem x_v2i {o : Nat} {a1 a2 : Value} {P : Int32 → Mem → Prop} (hdg : decode M.2.2.1 pc = .ok (.invokevirtual idx, 3)) (hl : Cond.methodLink M.1 idx M'.2.1 ∈ tbG) (hv : VI M'.2.1 M'.2.2.1 M'.2.2.2.1 M'.2.2.2.2.1 2) (hR : roomB M M' c n = true) (h0 : M'.2.2.2.2.2.cells = 0 ∧ M'.2.2.2.2.2.slots = 0) (ho : IsObj sh o M'.2.1.cls) (hw : (rest.map fun v => v.category).sum ≤ 8) (hc : Ct l g M' [rf g o, a1, a2] N sh mem (Ri N sh P)) (kk : ∀ (r : Int32) (mem' : Mem), P r mem' → X l g M F (pc + 3) L (.int r :: rest) N sh mem' c n) : X l g M F pc L (a2 :: a1 :: rf g o :: rest) N sh mem c n := by
  obtain ⟨ci, fs, h1, h2, h3⟩ := ho
  refine x_callV (As := [a1, a2]) hdg hl hv hR h1 h2 h3 rfl hw hc ?_
  intro v N' sh' mem' hq
  obtain ⟨r, rfl, rfl, rfl, hq⟩ := hq
  rw [h0.1, h0.2]
  exact kk r mem' hq
theorem x_s2i {a1 a2 : Value} {P : Int32 → Mem → Prop} (hdg : decode M.2.2.1 pc = .ok (.invokestatic idx, 3)) (hl : Cond.methodLink M.1 idx M'.2.1 ∈ tbG) (hv : VS M'.2.1 M'.2.2.1 M'.2.2.2.1 M'.2.2.2.2.1 2) (hR : roomB M M' c n = true) (h0 : M'.2.2.2.2.2.cells = 0 ∧ M'.2.2.2.2.2.slots = 0) (hown : M'.2.1.cls = M.1) (hw : (rest.map fun v => v.category).sum ≤ 8) (hc : Ct l g M' [a1, a2] N sh mem (Ri N sh P)) (kk : ∀ (r : Int32) (mem' : Mem), P r mem' → X l g M F (pc + 3) L (.int r :: rest) N sh mem' c n) : X l g M F pc L (a2 :: a1 :: rest) N sh mem c n := by
  refine x_callS (As := [a1, a2]) hdg hl hv hR hown rfl hw hc ?_
  intro v N' sh' mem' hq
  obtain ⟨r, rfl, rfl, rfl, hq⟩ := hq
  rw [h0.1, h0.2]
  exact kk r mem' hq
theorem x_v2v {o : Nat} {a1 a2 : Value} {P : Mem → Prop} (hdg : decode M.2.2.1 pc = .ok (.invokevirtual idx, 3)) (hl : Cond.methodLink M.1 idx M'.2.1 ∈ tbG) (hv : VI M'.2.1 M'.2.2.1 M'.2.2.2.1 M'.2.2.2.2.1 2) (hR : roomB M M' c n = true) (h0 : M'.2.2.2.2.2.cells = 0 ∧ M'.2.2.2.2.2.slots = 0) (ho : IsObj sh o M'.2.1.cls) (hw : (rest.map fun v => v.category).sum ≤ 8) (hc : Ct l g M' [rf g o, a1, a2] N sh mem (Rv N sh P)) (kk : ∀ mem' : Mem, P mem' → X l g M F (pc + 3) L rest N sh mem' c n) : X l g M F pc L (a2 :: a1 :: rf g o :: rest) N sh mem c n := by
  obtain ⟨ci, fs, h1, h2, h3⟩ := ho
  refine x_callV (As := [a1, a2]) hdg hl hv hR h1 h2 h3 rfl hw hc ?_
  intro v N' sh' mem' hq
  obtain ⟨rfl, rfl, rfl, hq⟩ := hq
  rw [h0.1, h0.2]
  exact kk mem' hq
theorem x_s2v {a1 a2 : Value} {P : Mem → Prop} (hdg : decode M.2.2.1 pc = .ok (.invokestatic idx, 3)) (hl : Cond.methodLink M.1 idx M'.2.1 ∈ tbG) (hv : VS M'.2.1 M'.2.2.1 M'.2.2.2.1 M'.2.2.2.2.1 2) (hR : roomB M M' c n = true) (h0 : M'.2.2.2.2.2.cells = 0 ∧ M'.2.2.2.2.2.slots = 0) (hown : M'.2.1.cls = M.1) (hw : (rest.map fun v => v.category).sum ≤ 8) (hc : Ct l g M' [a1, a2] N sh mem (Rv N sh P)) (kk : ∀ mem' : Mem, P mem' → X l g M F (pc + 3) L rest N sh mem' c n) : X l g M F pc L (a2 :: a1 :: rest) N sh mem c n := by
  refine x_callS (As := [a1, a2]) hdg hl hv hR hown rfl hw hc ?_
  intro v N' sh' mem' hq
  obtain ⟨rfl, rfl, rfl, hq⟩ := hq
  rw [h0.1, h0.2]
  exact kk mem' hq
theorem x_v3p {o : Nat} {a1 a2 a3 : Value} {w : Value} (hdg : decode M.2.2.1 pc = .ok (.invokevirtual idx, 3)) (hl : Cond.methodLink M.1 idx M'.2.1 ∈ tbG) (hv : VI M'.2.1 M'.2.2.1 M'.2.2.2.1 M'.2.2.2.2.1 3) (hR : roomB M M' c n = true) (h0 : M'.2.2.2.2.2.cells = 0 ∧ M'.2.2.2.2.2.slots = 0) (ho : IsObj sh o M'.2.1.cls) (hw : (rest.map fun v => v.category).sum ≤ 8) (hc : Ct l g M' [rf g o, a1, a2, a3] N sh mem (Pq w N sh mem)) (kk : X l g M F (pc + 3) L (w :: rest) N sh mem c n) : X l g M F pc L (a3 :: a2 :: a1 :: rf g o :: rest) N sh mem c n := by
  obtain ⟨ci, fs, h1, h2, h3⟩ := ho
  refine x_callV (As := [a1, a2, a3]) hdg hl hv hR h1 h2 h3 rfl hw hc ?_
  intro v N' sh' mem' hq
  obtain ⟨rfl, rfl, rfl, rfl⟩ := hq
  rw [h0.1, h0.2]
  exact kk
theorem x_s3p {a1 a2 a3 : Value} {w : Value} (hdg : decode M.2.2.1 pc = .ok (.invokestatic idx, 3)) (hl : Cond.methodLink M.1 idx M'.2.1 ∈ tbG) (hv : VS M'.2.1 M'.2.2.1 M'.2.2.2.1 M'.2.2.2.2.1 3) (hR : roomB M M' c n = true) (h0 : M'.2.2.2.2.2.cells = 0 ∧ M'.2.2.2.2.2.slots = 0) (hown : M'.2.1.cls = M.1) (hw : (rest.map fun v => v.category).sum ≤ 8) (hc : Ct l g M' [a1, a2, a3] N sh mem (Pq w N sh mem)) (kk : X l g M F (pc + 3) L (w :: rest) N sh mem c n) : X l g M F pc L (a3 :: a2 :: a1 :: rest) N sh mem c n := by
  refine x_callS (As := [a1, a2, a3]) hdg hl hv hR hown rfl hw hc ?_
  intro v N' sh' mem' hq
  obtain ⟨rfl, rfl, rfl, rfl⟩ := hq
  rw [h0.1, h0.2]
  exact kk
theorem x_v3i {o : Nat} {a1 a2 a3 : Value} {P : Int32 → Mem → Prop} (hdg : decode M.2.2.1 pc = .ok (.invokevirtual idx, 3)) (hl : Cond.methodLink M.1 idx M'.2.1 ∈ tbG) (hv : VI M'.2.1 M'.2.2.1 M'.2.2.2.1 M'.2.2.2.2.1 3) (hR : roomB M M' c n = true) (h0 : M'.2.2.2.2.2.cells = 0 ∧ M'.2.2.2.2.2.slots = 0) (ho : IsObj sh o M'.2.1.cls) (hw : (rest.map fun v => v.category).sum ≤ 8) (hc : Ct l g M' [rf g o, a1, a2, a3] N sh mem (Ri N sh P)) (kk : ∀ (r : Int32) (mem' : Mem), P r mem' → X l g M F (pc + 3) L (.int r :: rest) N sh mem' c n) : X l g M F pc L (a3 :: a2 :: a1 :: rf g o :: rest) N sh mem c n := by
  obtain ⟨ci, fs, h1, h2, h3⟩ := ho
  refine x_callV (As := [a1, a2, a3]) hdg hl hv hR h1 h2 h3 rfl hw hc ?_
  intro v N' sh' mem' hq
  obtain ⟨r, rfl, rfl, rfl, hq⟩ := hq
  rw [h0.1, h0.2]
  exact kk r mem' hq
theorem x_s3i {a1 a2 a3 : Value} {P : Int32 → Mem → Prop} (hdg : decode M.2.2.1 pc = .ok (.invokestatic idx, 3)) (hl : Cond.methodLink M.1 idx M'.2.1 ∈ tbG) (hv : VS M'.2.1 M'.2.2.1 M'.2.2.2.1 M'.2.2.2.2.1 3) (hR : roomB M M' c n = true) (h0 : M'.2.2.2.2.2.cells = 0 ∧ M'.2.2.2.2.2.slots = 0) (hown : M'.2.1.cls = M.1) (hw : (rest.map fun v => v.category).sum ≤ 8) (hc : Ct l g M' [a1, a2, a3] N sh mem (Ri N sh P)) (kk : ∀ (r : Int32) (mem' : Mem), P r mem' → X l g M F (pc + 3) L (.int r :: rest) N sh mem' c n) : X l g M F pc L (a3 :: a2 :: a1 :: rest) N sh mem c n := by
  refine x_callS (As := [a1, a2, a3]) hdg hl hv hR hown rfl hw hc ?_
  intro v N' sh' mem' hq
  obtain ⟨r, rfl, rfl, rfl, hq⟩ := hq
  rw [h0.1, h0.2]
  exact kk r mem' hq
theorem x_v3v {o : Nat} {a1 a2 a3 : Value} {P : Mem → Prop} (hdg : decode M.2.2.1 pc = .ok (.invokevirtual idx, 3)) (hl : Cond.methodLink M.1 idx M'.2.1 ∈ tbG) (hv : VI M'.2.1 M'.2.2.1 M'.2.2.2.1 M'.2.2.2.2.1 3) (hR : roomB M M' c n = true) (h0 : M'.2.2.2.2.2.cells = 0 ∧ M'.2.2.2.2.2.slots = 0) (ho : IsObj sh o M'.2.1.cls) (hw : (rest.map fun v => v.category).sum ≤ 8) (hc : Ct l g M' [rf g o, a1, a2, a3] N sh mem (Rv N sh P)) (kk : ∀ mem' : Mem, P mem' → X l g M F (pc + 3) L rest N sh mem' c n) : X l g M F pc L (a3 :: a2 :: a1 :: rf g o :: rest) N sh mem c n := by
  obtain ⟨ci, fs, h1, h2, h3⟩ := ho
  refine x_callV (As := [a1, a2, a3]) hdg hl hv hR h1 h2 h3 rfl hw hc ?_
  intro v N' sh' mem' hq
  obtain ⟨rfl, rfl, rfl, hq⟩ := hq
  rw [h0.1, h0.2]
  exact kk mem' hq
theorem x_s3v {a1 a2 a3 : Value} {P : Mem → Prop} (hdg : decode M.2.2.1 pc = .ok (.invokestatic idx, 3)) (hl : Cond.methodLink M.1 idx M'.2.1 ∈ tbG) (hv : VS M'.2.1 M'.2.2.1 M'.2.2.2.1 M'.2.2.2.2.1 3) (hR : roomB M M' c n = true) (h0 : M'.2.2.2.2.2.cells = 0 ∧ M'.2.2.2.2.2.slots = 0) (hown : M'.2.1.cls = M.1) (hw : (rest.map fun v => v.category).sum ≤ 8) (hc : Ct l g M' [a1, a2, a3] N sh mem (Rv N sh P)) (kk : ∀ mem' : Mem, P mem' → X l g M F (pc + 3) L rest N sh mem' c n) : X l g M F pc L (a3 :: a2 :: a1 :: rest) N sh mem c n := by
  refine x_callS (As := [a1, a2, a3]) hdg hl hv hR hown rfl hw hc ?_
  intro v N' sh' mem' hq
  obtain ⟨rfl, rfl, rfl, hq⟩ := hq
  rw [h0.1, h0.2]
  exact kk mem' hq
theorem x_v4p {o : Nat} {a1 a2 a3 a4 : Value} {w : Value} (hdg : decode M.2.2.1 pc = .ok (.invokevirtual idx, 3)) (hl : Cond.methodLink M.1 idx M'.2.1 ∈ tbG) (hv : VI M'.2.1 M'.2.2.1 M'.2.2.2.1 M'.2.2.2.2.1 4) (hR : roomB M M' c n = true) (h0 : M'.2.2.2.2.2.cells = 0 ∧ M'.2.2.2.2.2.slots = 0) (ho : IsObj sh o M'.2.1.cls) (hw : (rest.map fun v => v.category).sum ≤ 8) (hc : Ct l g M' [rf g o, a1, a2, a3, a4] N sh mem (Pq w N sh mem)) (kk : X l g M F (pc + 3) L (w :: rest) N sh mem c n) : X l g M F pc L (a4 :: a3 :: a2 :: a1 :: rf g o :: rest) N sh mem c n := by
  obtain ⟨ci, fs, h1, h2, h3⟩ := ho
  refine x_callV (As := [a1, a2, a3, a4]) hdg hl hv hR h1 h2 h3 rfl hw hc ?_
  intro v N' sh' mem' hq
  obtain ⟨rfl, rfl, rfl, rfl⟩ := hq
  rw [h0.1, h0.2]
  exact kk
theorem x_s4p {a1 a2 a3 a4 : Value} {w : Value} (hdg : decode M.2.2.1 pc = .ok (.invokestatic idx, 3)) (hl : Cond.methodLink M.1 idx M'.2.1 ∈ tbG) (hv : VS M'.2.1 M'.2.2.1 M'.2.2.2.1 M'.2.2.2.2.1 4) (hR : roomB M M' c n = true) (h0 : M'.2.2.2.2.2.cells = 0 ∧ M'.2.2.2.2.2.slots = 0) (hown : M'.2.1.cls = M.1) (hw : (rest.map fun v => v.category).sum ≤ 8) (hc : Ct l g M' [a1, a2, a3, a4] N sh mem (Pq w N sh mem)) (kk : X l g M F (pc + 3) L (w :: rest) N sh mem c n) : X l g M F pc L (a4 :: a3 :: a2 :: a1 :: rest) N sh mem c n := by
  refine x_callS (As := [a1, a2, a3, a4]) hdg hl hv hR hown rfl hw hc ?_
  intro v N' sh' mem' hq
  obtain ⟨rfl, rfl, rfl, rfl⟩ := hq
  rw [h0.1, h0.2]
  exact kk
theorem x_v4i {o : Nat} {a1 a2 a3 a4 : Value} {P : Int32 → Mem → Prop} (hdg : decode M.2.2.1 pc = .ok (.invokevirtual idx, 3)) (hl : Cond.methodLink M.1 idx M'.2.1 ∈ tbG) (hv : VI M'.2.1 M'.2.2.1 M'.2.2.2.1 M'.2.2.2.2.1 4) (hR : roomB M M' c n = true) (h0 : M'.2.2.2.2.2.cells = 0 ∧ M'.2.2.2.2.2.slots = 0) (ho : IsObj sh o M'.2.1.cls) (hw : (rest.map fun v => v.category).sum ≤ 8) (hc : Ct l g M' [rf g o, a1, a2, a3, a4] N sh mem (Ri N sh P)) (kk : ∀ (r : Int32) (mem' : Mem), P r mem' → X l g M F (pc + 3) L (.int r :: rest) N sh mem' c n) : X l g M F pc L (a4 :: a3 :: a2 :: a1 :: rf g o :: rest) N sh mem c n := by
  obtain ⟨ci, fs, h1, h2, h3⟩ := ho
  refine x_callV (As := [a1, a2, a3, a4]) hdg hl hv hR h1 h2 h3 rfl hw hc ?_
  intro v N' sh' mem' hq
  obtain ⟨r, rfl, rfl, rfl, hq⟩ := hq
  rw [h0.1, h0.2]
  exact kk r mem' hq
theorem x_s4i {a1 a2 a3 a4 : Value} {P : Int32 → Mem → Prop} (hdg : decode M.2.2.1 pc = .ok (.invokestatic idx, 3)) (hl : Cond.methodLink M.1 idx M'.2.1 ∈ tbG) (hv : VS M'.2.1 M'.2.2.1 M'.2.2.2.1 M'.2.2.2.2.1 4) (hR : roomB M M' c n = true) (h0 : M'.2.2.2.2.2.cells = 0 ∧ M'.2.2.2.2.2.slots = 0) (hown : M'.2.1.cls = M.1) (hw : (rest.map fun v => v.category).sum ≤ 8) (hc : Ct l g M' [a1, a2, a3, a4] N sh mem (Ri N sh P)) (kk : ∀ (r : Int32) (mem' : Mem), P r mem' → X l g M F (pc + 3) L (.int r :: rest) N sh mem' c n) : X l g M F pc L (a4 :: a3 :: a2 :: a1 :: rest) N sh mem c n := by
  refine x_callS (As := [a1, a2, a3, a4]) hdg hl hv hR hown rfl hw hc ?_
  intro v N' sh' mem' hq
  obtain ⟨r, rfl, rfl, rfl, hq⟩ := hq
  rw [h0.1, h0.2]
  exact kk r mem' hq
theorem x_v4v {o : Nat} {a1 a2 a3 a4 : Value} {P : Mem → Prop} (hdg : decode M.2.2.1 pc = .ok (.invokevirtual idx, 3)) (hl : Cond.methodLink M.1 idx M'.2.1 ∈ tbG) (hv : VI M'.2.1 M'.2.2.1 M'.2.2.2.1 M'.2.2.2.2.1 4) (hR : roomB M M' c n = true) (h0 : M'.2.2.2.2.2.cells = 0 ∧ M'.2.2.2.2.2.slots = 0) (ho : IsObj sh o M'.2.1.cls) (hw : (rest.map fun v => v.category).sum ≤ 8) (hc : Ct l g M' [rf g o, a1, a2, a3, a4] N sh mem (Rv N sh P)) (kk : ∀ mem' : Mem, P mem' → X l g M F (pc + 3) L rest N sh mem' c n) : X l g M F pc L (a4 :: a3 :: a2 :: a1 :: rf g o :: rest) N sh mem c n := by
  obtain ⟨ci, fs, h1, h2, h3⟩ := ho
  refine x_callV (As := [a1, a2, a3, a4]) hdg hl hv hR h1 h2 h3 rfl hw hc ?_
  intro v N' sh' mem' hq
  obtain ⟨rfl, rfl, rfl, hq⟩ := hq
  rw [h0.1, h0.2]
  exact kk mem' hq
theorem x_s4v {a1 a2 a3 a4 : Value} {P : Mem → Prop} (hdg : decode M.2.2.1 pc = .ok (.invokestatic idx, 3)) (hl : Cond.methodLink M.1 idx M'.2.1 ∈ tbG) (hv : VS M'.2.1 M'.2.2.1 M'.2.2.2.1 M'.2.2.2.2.1 4) (hR : roomB M M' c n = true) (h0 : M'.2.2.2.2.2.cells = 0 ∧ M'.2.2.2.2.2.slots = 0) (hown : M'.2.1.cls = M.1) (hw : (rest.map fun v => v.category).sum ≤ 8) (hc : Ct l g M' [a1, a2, a3, a4] N sh mem (Rv N sh P)) (kk : ∀ mem' : Mem, P mem' → X l g M F (pc + 3) L rest N sh mem' c n) : X l g M F pc L (a4 :: a3 :: a2 :: a1 :: rest) N sh mem c n := by
  refine x_callS (As := [a1, a2, a3, a4]) hdg hl hv hR hown rfl hw hc ?_
  intro v N' sh' mem' hq
  obtain ⟨rfl, rfl, rfl, hq⟩ := hq
  rw [h0.1, h0.2]
  exact kk mem' hq
theorem x_v5p {o : Nat} {a1 a2 a3 a4 a5 : Value} {w : Value} (hdg : decode M.2.2.1 pc = .ok (.invokevirtual idx, 3)) (hl : Cond.methodLink M.1 idx M'.2.1 ∈ tbG) (hv : VI M'.2.1 M'.2.2.1 M'.2.2.2.1 M'.2.2.2.2.1 5) (hR : roomB M M' c n = true) (h0 : M'.2.2.2.2.2.cells = 0 ∧ M'.2.2.2.2.2.slots = 0) (ho : IsObj sh o M'.2.1.cls) (hw : (rest.map fun v => v.category).sum ≤ 8) (hc : Ct l g M' [rf g o, a1, a2, a3, a4, a5] N sh mem (Pq w N sh mem)) (kk : X l g M F (pc + 3) L (w :: rest) N sh mem c n) : X l g M F pc L (a5 :: a4 :: a3 :: a2 :: a1 :: rf g o :: rest) N sh mem c n := by
  obtain ⟨ci, fs, h1, h2, h3⟩ := ho
  refine x_callV (As := [a1, a2, a3, a4, a5]) hdg hl hv hR h1 h2 h3 rfl hw hc ?_
  intro v N' sh' mem' hq
  obtain ⟨rfl, rfl, rfl, rfl⟩ := hq
  rw [h0.1, h0.2]
  exact kk
theorem x_s5p {a1 a2 a3 a4 a5 : Value} {w : Value} (hdg : decode M.2.2.1 pc = .ok (.invokestatic idx, 3)) (hl : Cond.methodLink M.1 idx M'.2.1 ∈ tbG) (hv : VS M'.2.1 M'.2.2.1 M'.2.2.2.1 M'.2.2.2.2.1 5) (hR : roomB M M' c n = true) (h0 : M'.2.2.2.2.2.cells = 0 ∧ M'.2.2.2.2.2.slots = 0) (hown : M'.2.1.cls = M.1) (hw : (rest.map fun v => v.category).sum ≤ 8) (hc : Ct l g M' [a1, a2, a3, a4, a5] N sh mem (Pq w N sh mem)) (kk : X l g M F (pc + 3) L (w :: rest) N sh mem c n) : X l g M F pc L (a5 :: a4 :: a3 :: a2 :: a1 :: rest) N sh mem c n := by
  refine x_callS (As := [a1, a2, a3, a4, a5]) hdg hl hv hR hown rfl hw hc ?_
  intro v N' sh' mem' hq
  obtain ⟨rfl, rfl, rfl, rfl⟩ := hq
  rw [h0.1, h0.2]
  exact kk
theorem x_v5i {o : Nat} {a1 a2 a3 a4 a5 : Value} {P : Int32 → Mem → Prop} (hdg : decode M.2.2.1 pc = .ok (.invokevirtual idx, 3)) (hl : Cond.methodLink M.1 idx M'.2.1 ∈ tbG) (hv : VI M'.2.1 M'.2.2.1 M'.2.2.2.1 M'.2.2.2.2.1 5) (hR : roomB M M' c n = true) (h0 : M'.2.2.2.2.2.cells = 0 ∧ M'.2.2.2.2.2.slots = 0) (ho : IsObj sh o M'.2.1.cls) (hw : (rest.map fun v => v.category).sum ≤ 8) (hc : Ct l g M' [rf g o, a1, a2, a3, a4, a5] N sh mem (Ri N sh P)) (kk : ∀ (r : Int32) (mem' : Mem), P r mem' → X l g M F (pc + 3) L (.int r :: rest) N sh mem' c n) : X l g M F pc L (a5 :: a4 :: a3 :: a2 :: a1 :: rf g o :: rest) N sh mem c n := by
  obtain ⟨ci, fs, h1, h2, h3⟩ := ho
  refine x_callV (As := [a1, a2, a3, a4, a5]) hdg hl hv hR h1 h2 h3 rfl hw hc ?_
  intro v N' sh' mem' hq
  obtain ⟨r, rfl, rfl, rfl, hq⟩ := hq
  rw [h0.1, h0.2]
  exact kk r mem' hq
theorem x_s5i {a1 a2 a3 a4 a5 : Value} {P : Int32 → Mem → Prop} (hdg : decode M.2.2.1 pc = .ok (.invokestatic idx, 3)) (hl : Cond.methodLink M.1 idx M'.2.1 ∈ tbG) (hv : VS M'.2.1 M'.2.2.1 M'.2.2.2.1 M'.2.2.2.2.1 5) (hR : roomB M M' c n = true) (h0 : M'.2.2.2.2.2.cells = 0 ∧ M'.2.2.2.2.2.slots = 0) (hown : M'.2.1.cls = M.1) (hw : (rest.map fun v => v.category).sum ≤ 8) (hc : Ct l g M' [a1, a2, a3, a4, a5] N sh mem (Ri N sh P)) (kk : ∀ (r : Int32) (mem' : Mem), P r mem' → X l g M F (pc + 3) L (.int r :: rest) N sh mem' c n) : X l g M F pc L (a5 :: a4 :: a3 :: a2 :: a1 :: rest) N sh mem c n := by
  refine x_callS (As := [a1, a2, a3, a4, a5]) hdg hl hv hR hown rfl hw hc ?_
  intro v N' sh' mem' hq
  obtain ⟨r, rfl, rfl, rfl, hq⟩ := hq
  rw [h0.1, h0.2]
  exact kk r mem' hq
theorem x_v5v {o : Nat} {a1 a2 a3 a4 a5 : Value} {P : Mem → Prop} (hdg : decode M.2.2.1 pc = .ok (.invokevirtual idx, 3)) (hl : Cond.methodLink M.1 idx M'.2.1 ∈ tbG) (hv : VI M'.2.1 M'.2.2.1 M'.2.2.2.1 M'.2.2.2.2.1 5) (hR : roomB M M' c n = true) (h0 : M'.2.2.2.2.2.cells = 0 ∧ M'.2.2.2.2.2.slots = 0) (ho : IsObj sh o M'.2.1.cls) (hw : (rest.map fun v => v.category).sum ≤ 8) (hc : Ct l g M' [rf g o, a1, a2, a3, a4, a5] N sh mem (Rv N sh P)) (kk : ∀ mem' : Mem, P mem' → X l g M F (pc + 3) L rest N sh mem' c n) : X l g M F pc L (a5 :: a4 :: a3 :: a2 :: a1 :: rf g o :: rest) N sh mem c n := by
  obtain ⟨ci, fs, h1, h2, h3⟩ := ho
  refine x_callV (As := [a1, a2, a3, a4, a5]) hdg hl hv hR h1 h2 h3 rfl hw hc ?_
  intro v N' sh' mem' hq
  obtain ⟨rfl, rfl, rfl, hq⟩ := hq
  rw [h0.1, h0.2]
  exact kk mem' hq
theorem x_s5v {a1 a2 a3 a4 a5 : Value} {P : Mem → Prop} (hdg : decode M.2.2.1 pc = .ok (.invokestatic idx, 3)) (hl : Cond.methodLink M.1 idx M'.2.1 ∈ tbG) (hv : VS M'.2.1 M'.2.2.1 M'.2.2.2.1 M'.2.2.2.2.1 5) (hR : roomB M M' c n = true) (h0 : M'.2.2.2.2.2.cells = 0 ∧ M'.2.2.2.2.2.slots = 0) (hown : M'.2.1.cls = M.1) (hw : (rest.map fun v => v.category).sum ≤ 8) (hc : Ct l g M' [a1, a2, a3, a4, a5] N sh mem (Rv N sh P)) (kk : ∀ mem' : Mem, P mem' → X l g M F (pc + 3) L rest N sh mem' c n) : X l g M F pc L (a5 :: a4 :: a3 :: a2 :: a1 :: rest) N sh mem c n := by
  refine x_callS (As := [a1, a2, a3, a4, a5]) hdg hl hv hR hown rfl hw hc ?_
  intro v N' sh' mem' hq
  obtain ⟨rfl, rfl, rfl, hq⟩ := hq
  rw [h0.1, h0.2]
  exact kk mem' hq
end XK
def cpm (mem : Mem) (a b k : Nat) : Mem := fun o => if o = b then va_cpy (mem a) (mem b) 0 0 k else mem o
theorem all_ws {g : XG} {N : Option Nat} {sh : Nat → Sh} {mem : Mem} {H : Heap} (hW : Wd g N sh mem H) : ∃ ws : va_W, va_P g.1 vwCl ws H ∧ va_D (xA g) ws ∧ ∀ o, sh o ≠ sh0 → ∃ k : Nat, ws[k]? = some (g.2.1 + o, ent g (sh o) (mem o)) := by
  classical
  obtain ⟨f, hf⟩ : ∃ f : Nat → Option (Nat × va_E), ∀ o, f o = if sh o ≠ sh0 then some (g.2.1 + o, ent g (sh o) (mem o)) else none := ⟨_, fun _ => rfl⟩
  have h1 : ∀ (o : Nat) (q : Nat × va_E), f o = some q → sh o ≠ sh0 ∧ q = (g.2.1 + o, ent g (sh o) (mem o)) := by
    intro o q h
    rw [hf o] at h
    split at h
    · rename_i h2
      exact ⟨h2, (Option.some.inj h).symm⟩
    · cases h
  have hp : ((List.range H.size).filterMap f).Pairwise (fun a b => a.1 < b.1) := by
    refine List.Pairwise.filterMap (R := fun (a b : Nat) => a < b) f (fun a a' ha b hb b' hb' => ?_) List.pairwise_lt_range
    rw [(h1 a b hb).2, (h1 a' b' hb').2]
    show g.2.1 + a < g.2.1 + a'
    omega
  have hq := List.pairwise_iff_getElem.mp hp
  refine ⟨(List.range H.size).filterMap f, fun k q hk => ?_, ⟨fun i j p q hi hj hpq => ?_, fun k q hk => ?_⟩, fun o ho => ?_⟩
  · obtain ⟨o, -, hfo⟩ := List.mem_filterMap.mp (List.mem_of_getElem? hk)
    obtain ⟨h2, rfl⟩ := h1 o q hfo
    exact hW.2 o h2
  · obtain ⟨hi1, hi2⟩ := List.getElem?_eq_some_iff.mp hi
    obtain ⟨hj1, hj2⟩ := List.getElem?_eq_some_iff.mp hj
    rcases Nat.lt_trichotomy i j with h | h | h
    · have h3 := hq i j hi1 hj1 h
      rw [hi2, hj2, hpq] at h3
      exact absurd h3 (Nat.lt_irrefl _)
    · exact h
    · have h3 := hq j i hj1 hi1 h
      rw [hi2, hj2, hpq] at h3
      exact absurd h3 (Nat.lt_irrefl _)
  · obtain ⟨o, -, hfo⟩ := List.mem_filterMap.mp (List.mem_of_getElem? hk)
    obtain ⟨h2, rfl⟩ := h1 o q hfo
    exact Nat.le_add_right _ _
  · have h2 := (hW.2 o ho).lt
    have h3 : (g.2.1 + o, ent g (sh o) (mem o)) ∈ (List.range H.size).filterMap f := List.mem_filterMap.mpr ⟨o, List.mem_range.mpr (by have h4 : g.2.1 + o < H.size := h2; omega), by rw [hf o, if_pos ho]⟩
    exact List.getElem?_of_mem h3
theorem x_copy0 {l : Launch} {g : XG} {M : Mt} {F : XFin} {pc : Nat} {L : List (Option Value)} {rest : List Value} {sh : Nat → Sh} {mem : Mem} {c n idx : Nat} {a b na nb : Nat} {k : Int32} (hl : Cond.methodLink M.1 idx arraycopyName ∈ tbG) (ha : sh a = .inr (.inl na)) (hb : sh b = .inr (.inl nb)) (hk : ¬ k < 0) (h1 : k.toNatClampNeg ≤ na) (h2 : k.toNatClampNeg ≤ nb) (hdg : decode M.2.2.1 pc = .ok (.invokestatic idx, 3)) (hfr : 1 ≤ M.2.2.2.2.2.frames) (hlo : (rest.map fun v => v.category).sum + 18 ≤ M.2.2.2.2.2.locals) (kk : X l g M F (pc + 3) L rest none sh (cpm mem a b k.toNatClampNeg) c n) : X l g M F pc L (.int k :: .int 0 :: rf g b :: .int 0 :: rf g a :: rest) none sh mem c n := by
  intro p e s m args below meth cd H locs ls C hW hS hL
  have hts := C.2.2.2.2.2.2.2.1
  have hK := C.2.2.2.2.2.2.2.2.1.1
  obtain ⟨ws, hP, hD, hI⟩ := all_ws hW
  obtain ⟨ka, hka⟩ := hI a (arr_ne ha)
  obtain ⟨kb, hkb⟩ := hI b (arr_ne hb)
  rw [ha] at hka
  rw [hb] at hkb
  have z0 : (0 : Int32).toNatClampNeg = 0 := by decide
  refine va_copyi (H0 := s.heap) (A := xA g) C.1 C.2.1 (by rw [C.2.2.1]; exact hL.1.symm) C.2.2.2.1 (hts _ hl) (hts _ j_copy2) (hts _ j_copy1) (hts _ j_sys) hK hP hD hS ka kb 0 0 (ty := .int) hka hkb rfl rfl rfl (by decide) (by decide) hk (by rw [z0]; omega) (by rw [z0]; omega) (fun _ _ => rfl) hfr hlo hdg fun H1 locs1 hP1 hD1 hS1 => ?_
  rw [z0] at hP1
  refine kk _ _ _ _ _ _ _ _ _ _ _ C ⟨fun n hn => (by cases hn), fun o ho => ?_⟩ hS1 hL
  by_cases hob : o = b
  · subst hob
    have h5 := hP1 kb _ (List.getElem?_set_self (List.getElem?_eq_some_iff.mp hkb).1)
    rw [hb]
    have e5 : cpm mem a o k.toNatClampNeg o = va_cpy (mem a) (mem o) 0 0 k.toNatClampNeg := if_pos rfl
    rw [e5]
    exact h5
  · obtain ⟨ko, hko⟩ := hI o ho
    have hne : kb ≠ ko := by
      intro h6
      rw [h6, hko] at hkb
      have h7 := congrArg Prod.fst (Option.some.inj hkb)
      have h8 : g.2.1 + o = g.2.1 + b := h7
      omega
    have h5 := hP1 ko _ ((List.getElem?_set_ne hne).trans hko)
    have e5 : cpm mem a b k.toNatClampNeg o = mem o := if_neg hob
    rw [e5]
    exact h5
