/-! THE WHOLE STATE and what the acts answer; the counter's own state in its cells -/
abbrev GS : Type := RS × List RS × Option RS × List Nat
def actG (G : GS) (R' : RS) : GS := (R', pushH G.2.1 G.1, G.2.2.1, G.2.2.2)
def tN (x : Int32) : Nat := x.toNatClampNeg
theorem tN_nI {n : Nat} (h : n < 2 ^ 31) : tN (nI n) = n := nI_clamp h
abbrev hasI (x : Int32) (n : Nat) : Prop := ¬ x < 0 ∧ x < nI n
abbrev inI (x : Int32) (a b : Nat) : Prop := nI a ≤ x ∧ x ≤ nI b
theorem i_nlt {a b : Int32} : ¬ a < b ↔ b ≤ a := Int32.not_lt
theorem i_nle {a b : Int32} : ¬ a ≤ b ↔ b < a := Int32.not_le
theorem hasI_of {x : Int32} {n : Nat} (hn : n < 2 ^ 31) (h : hasI x n) : ∃ i, i < n ∧ x = nI i := by
  obtain ⟨j, h1, h2⟩ := nI_of h.1
  subst h2
  exact ⟨j, nI_lt' h1 hn h.2, rfl⟩
theorem hasI_nI {i n : Nat} (hn : n < 2 ^ 31) (h : i < n) : hasI (nI i) n := ⟨nI_pos (by omega), nI_lt h hn⟩
theorem inI_of {x : Int32} {a b : Nat} (ha : a < 2 ^ 31) (hb : b < 2 ^ 31) (h : inI x a b) : ∃ i, (a ≤ i ∧ i ≤ b) ∧ x = nI i := by
  have h0 : ¬ x < 0 := fun z => absurd (Int32.le_trans (nI_pos' ha) h.1) (i_nle.mpr z)
  obtain ⟨j, h1, h2⟩ := nI_of h0
  subst h2
  exact ⟨j, ⟨nI_le' ha h1 h.1, nI_le' h1 hb h.2⟩, rfl⟩
abbrev keptI (R : RS) (x : Int32) : Prop := hasI x (R 1) ∧ kp R (tN x) = true
theorem ff_no {p : Nat → Bool} : ∀ (n i : Nat), ff p n i = none → ∀ j, i ≤ j → j < i + n → p j = false
  | 0, i, _, j, h1, h2 => absurd h2 (by omega)
  | n + 1, i, h, j, h1, h2 => by
    rw [ff] at h
    by_cases hp : p i = true
    · rw [if_pos hp] at h
      cases h
    · rw [if_neg hp] at h
      by_cases hj : j = i
      · rw [hj]; simpa using hp
      · exact ff_no n (i + 1) h j (by omega) (by omega)
theorem placeOf_EL {R : RS} (h300 : R 1 ≤ 300) (x : Int32) : ff (fun i => decide (nI (eN (EL R) i) = x)) (EL R).length 0 = if keptI R x then some (cnt (kp R) (tN x)) else none := by
  have hlt : ∀ {k}, k < R 1 → kp R k = true → cnt (kp R) k < (EL R).length := fun {k} h1 h2 => by
    have := nK_cnt R
    unfold nK at this
    rw [this]
    exact cnt_lt _ h1 h2
  cases hf : ff (fun i => decide (nI (eN (EL R) i) = x)) (EL R).length 0 with
  | none =>
    have h1 := ff_no _ _ hf
    split
    · rename_i hk
      obtain ⟨k, k1, k2⟩ := hasI_of (by omega) hk.1
      subst k2
      have hk2 := hk.2
      rw [tN_nI (by omega)] at hk2
      have h2 := h1 _ (Nat.zero_le _) (by rw [Nat.zero_add]; exact hlt k1 hk2)
      rw [(EL_e R k1 hk2).1] at h2
      simp at h2
    · rfl
  | some i =>
    obtain ⟨-, h2, h3⟩ := ff_lt _ _ _ hf
    rw [Nat.zero_add] at h2
    obtain ⟨k, k1, k2, k3⟩ := EL_of R h2
    have h4 : nI k = x := by
      have h5 := of_decide_eq_true h3
      rw [← k3, (EL_e R k1 k2).1] at h5
      exact h5
    subst h4
    rw [if_pos ⟨hasI_nI (by omega) k1, by rw [tN_nI (by omega)]; exact k2⟩, tN_nI (by omega), k3]
/-- the counter's own state in its cells -/
def SnapRep (mem : Mem) (κ : Nat) (S : Option RS) : Prop := match S with
  | none => mem κ 7 = nI 0
  | some S => mem κ 7 = nI 1 ∧ Inv S ∧ BookRep mem (κ + 49) S
def CR (mem : Mem) (κ : Nat) (G : GS) : Prop := Inv G.1 ∧ BookRep mem (κ + 1) G.1 ∧ HistRep mem (κ + 193) G.2.1 ∧ TeRep mem (κ + 387) G.2.2.2 ∧ SnapRep mem κ G.2.2.1
theorem SnapRep.mv {mem m : Mem} {κ : Nat} {S : Option RS} (h : SnapRep mem κ S) (h0 : m κ = mem κ) (hm : ∀ o, κ + 49 ≤ o → o < κ + 97 → m o = mem o) : SnapRep m κ S := by
  cases S with
  | none => exact (congrFun h0 7).trans h
  | some S => exact ⟨(congrFun h0 7).trans h.1, h.2.1, h.2.2.mv h.2.1 (fun o h1 h2 => hm o h1 (by omega))⟩
theorem TeRep.mv {mem m : Mem} {τ : Nat} {T : List Nat} (h : TeRep mem τ T) (hm : ∀ o, τ ≤ o → o < τ + 3 → m o = mem o) : TeRep m τ T := ⟨h.1, by rw [hm _ (by omega) (by omega)]; exact h.2.1, fun i c hi => by rw [hm _ (by omega) (by omega)]; exact h.2.2 i c hi⟩
/-- other cells than those of the state change -/
theorem CR.mv {mem m : Mem} {κ : Nat} {G : GS} (h : CR mem κ G) (hm : ∀ o, κ ≤ o → o < κ + 97 ∨ (κ + 193 ≤ o ∧ o < κ + 390) → m o = mem o) : CR m κ G := ⟨h.1, h.2.1.mv h.1 (fun o h1 h2 => hm o (by omega) (by omega)), h.2.2.1.mv (fun o h1 h2 => hm o (by omega) (by omega)), h.2.2.2.1.mv (fun o h1 h2 => hm o (by omega) (by omega)), h.2.2.2.2.mv (hm κ (by omega) (by omega)) (fun o h1 h2 => hm o (by omega) (by omega))⟩
/-- an act that is recorded -/
theorem CR.acted {mem m1 m2 : Mem} {κ : Nat} {G : GS} {R' : RS} (h : CR mem κ G) (F1 : Fr (κ + 193) (κ + 193 + 194) mem m1) (hh : HistRep m1 (κ + 193) (pushH G.2.1 G.1)) (F2 : Fr (κ + 1) (κ + 1 + 48) m1 m2) (hI : Inv R') (hb : BookRep m2 (κ + 1) R') : CR m2 κ (actG G R') ∧ Fr κ (κ + 410) mem m2 := by
  have e : ∀ o, (o < κ + 193 ∨ κ + 193 + 194 ≤ o) → (o < κ + 1 ∨ κ + 1 + 48 ≤ o) → m2 o = mem o := fun o h1 h2 => (F2 o h2).trans (F1 o h1)
  exact ⟨⟨hI, hb, hh.mv (fun o h1 h2 => F2 o (by omega)), h.2.2.2.1.mv (fun o h1 h2 => e o (by omega) (by omega)), h.2.2.2.2.mv (e κ (by omega) (by omega)) (fun o h1 h2 => e o (by omega) (by omega))⟩, fun o ho => e o (by omega) (by omega)⟩
theorem CR.book1 {mem m1 : Mem} {κ : Nat} {G : GS} (h : CR mem κ G) (F1 : Fr (κ + 193) (κ + 193 + 194) mem m1) : BookRep m1 (κ + 1) G.1 := h.2.1.mv h.1 (fun o h1 h2 => F1 o (by omega))
def CP (κ : Nat) (mem : Mem) (q : Int32 × GS) (x : Int32) (m : Mem) : Prop := x = q.1 ∧ CR m κ q.2 ∧ Fr κ (κ + 410) mem m
-- rolls and settings in the book's cells
theorem BookRep.roll {mem : Mem} {β : Nat} {R : RS} (hI : Inv R) (hb : BookRep mem β R) {k w l p : Nat} (h12 : R 0 < 12) : BookRep (roApp mem (β + 3) (R 0) (nI k) (nI w) (nI l) (nI p)) β (rollS R k w l p) := by
  obtain ⟨a1, a2, a3, a4, a5, a6, a7⟩ := rollS_at (R := R) k w l p
  obtain ⟨⟨i1, i2, i3⟩, -, -, i12, i13, -, -⟩ := id hI
  obtain ⟨b1, b2, b3, b4, b5, b6⟩ := hb
  have z : ∀ f, f < 7 → ro R (R 0) f = 0 := fun f hf => i12 _ f (Nat.le_refl _) h12 hf
  rw [z 0 (by omega), Nat.zero_add] at a3
  rw [z 1 (by omega), Nat.zero_add] at a4
  rw [z 2 (by omega), Nat.zero_add] at a5
  rw [z 3 (by omega), Nat.zero_add] at a6
  rw [z 4 (by omega), Nat.zero_add] at a7
  have hne : ∀ o, o < β + 3 ∨ β + 3 + 11 ≤ o → roApp mem (β + 3) (R 0) (nI k) (nI w) (nI l) (nI p) o = mem o := fun o ho => by
    unfold roApp
    rw [um_ne _ _ _ (by omega), um_ne _ _ _ (by omega), um_ne _ _ _ (by omega), um_ne _ _ _ (by omega), um_ne _ _ _ (by omega), um_ne _ _ _ (by omega)]
  have hro : ∀ r f, f < 7 → r ≠ R 0 ∨ 5 ≤ f → ro (rollS R k w l p) r f = ro R r f := fun r f hf h => a1 _ (by omega) (by omega)
  have hq : ∀ i, i < 20 → rq (rollS R k w l p) i = rq R i := fun i hi => rq_cong (fun v hv => a1 _ (by omega) (by omega))
  have hEL : EL (rollS R k w l p) = EL R := EL_cong (a1 1 (by omega) (by omega)) (fun j d hj hd => a1 _ (by omega) (by omega))
  have e2 : rollS R k w l p 2 = R 2 := a1 2 (by omega) (by omega)
  refine ⟨fun j hj => by rw [hne _ (by omega), a1 _ (by omega) (by omega)]; exact b1 j hj, by rw [hne _ (by omega), a1 3 (by omega) (by omega)]; exact b2, ⟨?_, fun r hr => ?_⟩, ?_, by rw [hne _ (by omega), e2]; exact b5, fun i hi => ?_⟩
  · rw [a2]
    exact um_eq _ _ _ _
  · rw [laid_cg e2 i3 hq]
    obtain ⟨c1, c2, c3, c4, c5, c6, c7, c8⟩ := b3.2 r hr
    rw [hne (β + 3 + 12) (by omega), hne (β + 3 + 14) (by omega), hne (β + 3 + 16) (by omega)]
    unfold roApp
    by_cases hrc : r = R 0
    · subst hrc
      rw [a3, a4, a5, a6, a7, hro _ 5 (by omega) (by omega), hro _ 6 (by omega) (by omega)]
      refine ⟨?_, ?_, ?_, ?_, ?_, c6, c7, c8⟩
      · simp [um]
      · simp [um]
      · simp [um]
      · simp [um]
      · rw [um_o _ _ (by omega), um_eq, pk_mul]
    · rw [hro _ 0 (by omega) (by omega), hro _ 1 (by omega) (by omega), hro _ 2 (by omega) (by omega), hro _ 3 (by omega) (by omega), hro _ 4 (by omega) (by omega), hro _ 5 (by omega) (by omega), hro _ 6 (by omega) (by omega)]
      refine ⟨?_, ?_, ?_, ?_, ?_, c6, c7, c8⟩
      · simp [um, hrc, c1]
      · simp [um, hrc, c2]
      · simp [um, hrc, c3]
      · simp [um, hrc, c4]
      · simp [um, hrc, c5]
  · rw [hEL, a1 1 (by omega) (by omega)]
    exact b4.mv (fun o h1 h2 => hne _ (by omega))
  · rw [e2] at hi
    exact (b6 i hi).mv (fun h8 => ((i13 i hi).2.2 h8).2) (fun j hj => hne _ (by omega)) (fun s hs => by rw [hne _ (by omega)]) (hq i (by omega)) (fun h8 => hro _ 1 (by omega) (Or.inl (by have := ((i13 i hi).2.2 h8).1; omega))) (fun s hs => a1 _ (by omega) (by omega))
theorem BookRep.set {mem : Mem} {β : Nat} {R : RS} (hI : Inv R) (hb : BookRep mem β R) {k v : Nat} (hk : k < 5) : BookRep (um mem (β + 2) k (nI v)) β (un R (4 + k) v) := by
  obtain ⟨⟨i1, i2, i3⟩, -, -, -, i13, -, -⟩ := id hI
  obtain ⟨b1, b2, b3, b4, b5, b6⟩ := hb
  have a1 : ∀ j, j ≠ 4 + k → un R (4 + k) v j = R j := fun j hj => un_ne R v hj
  have hne : ∀ o, o ≠ β + 2 → um mem (β + 2) k (nI v) o = mem o := fun o ho => um_ne _ _ _ ho
  have hq : ∀ i, i < 20 → rq (un R (4 + k) v) i = rq R i := fun i hi => rq_cong (fun w hw => a1 _ (by omega))
  have e2 := a1 2 (by omega)
  refine ⟨fun j hj => ?_, by rw [hne _ (by omega), a1 3 (by omega)]; exact b2, ?_, ?_, by rw [hne _ (by omega), e2]; exact b5, fun i hi => ?_⟩
  · by_cases hjk : j = k
    · subst hjk
      rw [um_eq, un_at]
    · rw [um_k _ _ hjk, a1 _ (by omega)]
      exact b1 j hj
  · rw [laid_cg e2 i3 hq]
    exact b3.mv (fun o h1 h2 => hne _ (by omega)) (a1 0 (by omega)) (fun r f hr hf => a1 _ (by omega))
  · rw [EL_cong (a1 1 (by omega)) (fun j d hj hd => a1 _ (by omega)), a1 1 (by omega)]
    exact b4.mv (fun o h1 h2 => hne _ (by omega))
  · rw [e2] at hi
    exact (b6 i hi).mv (fun h8 => ((i13 i hi).2.2 h8).2) (fun j hj => hne _ (by omega)) (fun s hs => by rw [hne _ (by omega)]) (hq i (by omega)) (fun h8 => a1 _ (by have := ((i13 i hi).2.2 h8).1; omega)) (fun s hs => a1 _ (by omega))
