/-! RoomText -/
abbrev RoomS : Type := List (Nat × Nat) × Nat
abbrev PS5 : Type := Nat × Nat × Nat × List (Nat × Nat) × List RoomS
def digS (n c : Nat) : Option Nat := if (48 ≤ c ∧ c ≤ 57) ∧ 1 ≤ n * 10 + c - 48 ∧ n * 10 + c - 48 ≤ 60 then some (n * 10 + c - 48) else none
def stepP (s : PS5) (c : Nat) : Option PS5 := if s.1 = 0 then (match digS s.2.1 c with
    | some n' => some (0, n', s.2.2.1, s.2.2.2.1, s.2.2.2.2)
    | none => if c = 120 ∧ s.2.1 ≠ 0 then some (1, 0, s.2.1, s.2.2.2.1, s.2.2.2.2) else none) else if s.1 = 1 then (match digS s.2.1 c with
    | some n' => some (1, n', s.2.2.1, s.2.2.2.1, s.2.2.2.2)
    | none => if s.2.1 = 0 ∨ (c ≠ 43 ∧ c ≠ 64) ∨ (c = 43 ∧ 2 ≤ s.2.2.2.1.length) then none else some (if c = 43 then 0 else 2, 0, s.2.2.1, s.2.2.2.1 ++ [(s.2.2.1, s.2.1)], s.2.2.2.2)) else if s.1 = 2 then (if 48 ≤ c ∧ c ≤ 51 then some (3, s.2.1, s.2.2.1, [], s.2.2.2.2 ++ [(s.2.2.2.1, c - 48)]) else none) else (if c = 59 then some (0, 0, s.2.2.1, [], s.2.2.2.2) else none)
theorem stepP0 (n f c : Nat) (cur : List (Nat × Nat)) (done : List RoomS) : stepP (0, n, f, cur, done) c = (match digS n c with
    | some n' => some (0, n', f, cur, done)
    | none => if c = 120 ∧ n ≠ 0 then some (1, 0, n, cur, done) else none) := rfl
theorem stepP1 (n f c : Nat) (cur : List (Nat × Nat)) (done : List RoomS) : stepP (1, n, f, cur, done) c = (match digS n c with
    | some n' => some (1, n', f, cur, done)
    | none => if n = 0 ∨ (c ≠ 43 ∧ c ≠ 64) ∨ (c = 43 ∧ 2 ≤ cur.length) then none else some (if c = 43 then 0 else 2, 0, f, cur ++ [(f, n)], done)) := rfl
theorem stepP2 (n f c : Nat) (cur : List (Nat × Nat)) (done : List RoomS) : stepP (2, n, f, cur, done) c = if 48 ≤ c ∧ c ≤ 51 then some (3, n, f, [], done ++ [(cur, c - 48)]) else none := rfl
theorem stepP3 (n f c : Nat) (cur : List (Nat × Nat)) (done : List RoomS) : stepP (3, n, f, cur, done) c = if c = 59 then some (0, 0, f, [], done) else none := rfl
def runP : List Nat → Nat → PS5 → Nat ⊕ PS5
  | [], _, s => .inr s
  | c :: cs, i, s => match stepP s c with
    | none => .inl i
    | some s' => runP cs (i + 1) s'
def parseP (txt : List Nat) : Nat ⊕ List RoomS := match runP txt 0 (0, 0, 0, [], []) with
  | .inl i => .inl i
  | .inr s => if s.1 = 3 then .inr s.2.2.2.2 else .inl txt.length
def RsOk (rs : RoomS) : Prop := (1 ≤ rs.1.length ∧ rs.1.length ≤ 3) ∧ (∀ p ∈ rs.1, (1 ≤ p.1 ∧ p.1 ≤ 60) ∧ 1 ≤ p.2 ∧ p.2 ≤ 60) ∧ rs.2 ≤ 3
def PsOk (s : PS5) (i : Nat) : Prop := s.1 ≤ 3 ∧ s.2.1 ≤ 60 ∧ (s.1 = 1 → 1 ≤ s.2.2.1 ∧ s.2.2.1 ≤ 60) ∧ (∀ p ∈ s.2.2.2.1, (1 ≤ p.1 ∧ p.1 ≤ 60) ∧ 1 ≤ p.2 ∧ p.2 ≤ 60) ∧ (s.1 ≤ 1 → s.2.2.2.1.length ≤ 2) ∧ (s.1 = 2 → 1 ≤ s.2.2.2.1.length ∧ s.2.2.2.1.length ≤ 3) ∧ (∀ rs ∈ s.2.2.2.2, RsOk rs) ∧ ((s.1 = 0 → 6 * s.2.2.2.2.length + (if s.2.1 = 0 then 0 else 1) ≤ i) ∧ (s.1 = 1 → 6 * s.2.2.2.2.length + 2 + (if s.2.1 = 0 then 0 else 1) ≤ i) ∧ (s.1 = 2 → 6 * s.2.2.2.2.length + 4 ≤ i) ∧ (s.1 = 3 → 6 * s.2.2.2.2.length ≤ i + 1))
theorem digS_some {n c n' : Nat} (h : digS n c = some n') : (48 ≤ c ∧ c ≤ 57) ∧ n' = n * 10 + c - 48 ∧ 1 ≤ n' ∧ n' ≤ 60 := by
  unfold digS at h
  split at h
  · rename_i h1
    cases h
    exact ⟨h1.1, rfl, h1.2⟩
  · cases h
theorem PsOk.step {s s' : PS5} {c i : Nat} (h : PsOk s i) (hs : stepP s c = some s') : PsOk s' (i + 1) := by
  obtain ⟨st, n, f, cur, done⟩ := s
  obtain ⟨h1, h2, h3, h4, h5, h6, h7, h8, h9, h10, h11⟩ := h
  dsimp only at h1 h2 h3 h4 h5 h6 h7 h8 h9 h10 h11
  rcases (show st = 0 ∨ st = 1 ∨ st = 2 ∨ st = 3 by omega) with rfl | rfl | rfl | rfl
  · have h8 := h8 rfl
    rw [stepP0] at hs
    split at hs
    · rename_i n' hn
      obtain ⟨d1, d2, d3, d4⟩ := digS_some hn
      cases hs
      refine ⟨by omega, d4, fun z => absurd z (by dsimp only; omega), h4, h5, fun z => absurd z (by dsimp only; omega), h7, fun _ => ?_, fun z => absurd z (by dsimp only; omega), fun z => absurd z (by dsimp only; omega), fun z => absurd z (by dsimp only; omega)⟩
      dsimp only
      split <;> omega
    · split at hs
      · rename_i h12
        cases hs
        refine ⟨by dsimp only; omega, by dsimp only; omega, fun _ => ⟨by dsimp only; omega, h2⟩, h4, fun _ => h5 (by omega), fun z => absurd z (by dsimp only; omega), h7, fun z => absurd z (by dsimp only; omega), fun _ => ?_, fun z => absurd z (by dsimp only; omega), fun z => absurd z (by dsimp only; omega)⟩
        rw [if_neg h12.2] at h8
        dsimp only
        rw [if_pos rfl]
        omega
      · cases hs
  · have h9 := h9 rfl
    have h3 := h3 rfl
    rw [stepP1] at hs
    split at hs
    · rename_i n' hn
      obtain ⟨d1, d2, d3, d4⟩ := digS_some hn
      cases hs
      refine ⟨by dsimp only; omega, d4, fun _ => h3, h4, h5, fun z => absurd z (by dsimp only; omega), h7, fun z => absurd z (by dsimp only; omega), fun _ => ?_, fun z => absurd z (by dsimp only; omega), fun z => absurd z (by dsimp only; omega)⟩
      dsimp only
      split at h9 <;> split <;> omega
    · split at hs
      · cases hs
      · rename_i h12
        have hn0 : n ≠ 0 := fun z => h12 (Or.inl z)
        rw [if_neg hn0] at h9
        have hm : ∀ p ∈ cur ++ [(f, n)], (1 ≤ p.1 ∧ p.1 ≤ 60) ∧ 1 ≤ p.2 ∧ p.2 ≤ 60 := by
          intro p hp
          rcases List.mem_append.mp hp with hp | hp
          · exact h4 p hp
          · rw [List.mem_singleton] at hp
            subst hp
            exact ⟨h3, by dsimp only; omega, h2⟩
        have hl := h5 (by omega)
        cases hs
        by_cases hc : c = 43
        · have hl2 : cur.length < 2 := by
            rcases Nat.lt_or_ge cur.length 2 with z | z
            · exact z
            · exact absurd (Or.inr (Or.inr ⟨hc, z⟩)) h12
          rw [if_pos hc]
          refine ⟨by dsimp only; omega, by dsimp only; omega, fun z => absurd z (by dsimp only; omega), hm, fun _ => by dsimp only; rw [List.length_append, List.length_singleton]; omega, fun z => absurd z (by dsimp only; omega), h7, fun _ => ?_, fun z => absurd z (by dsimp only; omega), fun z => absurd z (by dsimp only; omega), fun z => absurd z (by dsimp only; omega)⟩
          dsimp only
          rw [if_pos rfl]
          omega
        · rw [if_neg hc]
          refine ⟨by dsimp only; omega, by dsimp only; omega, fun z => absurd z (by dsimp only; omega), hm, fun z => absurd z (by dsimp only; omega), fun _ => by dsimp only; rw [List.length_append, List.length_singleton]; omega, h7, fun z => absurd z (by dsimp only; omega), fun z => absurd z (by dsimp only; omega), fun _ => by dsimp only; omega, fun z => absurd z (by dsimp only; omega)⟩
  · have h10 := h10 rfl
    have h6 := h6 rfl
    rw [stepP2] at hs
    split at hs
    · rename_i h12
      cases hs
      refine ⟨by dsimp only; omega, h2, fun z => absurd z (by dsimp only; omega), fun p hp => (by cases hp), fun z => absurd z (by dsimp only; omega), fun z => absurd z (by dsimp only; omega), fun rs hrs => ?_, fun z => absurd z (by dsimp only; omega), fun z => absurd z (by dsimp only; omega), fun z => absurd z (by dsimp only; omega), fun _ => by dsimp only; rw [List.length_append, List.length_singleton]; omega⟩
      rcases List.mem_append.mp hrs with hp | hp
      · exact h7 rs hp
      · rw [List.mem_singleton] at hp
        subst hp
        exact ⟨h6, h4, by dsimp only; omega⟩
    · cases hs
  · have h11 := h11 rfl
    rw [stepP3] at hs
    split at hs
    · cases hs
      refine ⟨by dsimp only; omega, by dsimp only; omega, fun z => absurd z (by dsimp only; omega), fun p hp => (by cases hp), fun _ => by dsimp only; simp, fun z => absurd z (by dsimp only; omega), h7, fun _ => ?_, fun z => absurd z (by dsimp only; omega), fun z => absurd z (by dsimp only; omega), fun z => absurd z (by dsimp only; omega)⟩
      dsimp only
      rw [if_pos rfl]
      omega
    · cases hs
theorem PsOk.few {s : PS5} {i : Nat} (h : PsOk s i) (hi : i ≤ 60) : s.2.2.2.2.length ≤ 10 := by
  obtain ⟨h1, h2, h3, h4, h5, h6, h7, h8, h9, h10, h11⟩ := h
  rcases (show s.1 = 0 ∨ s.1 = 1 ∨ s.1 = 2 ∨ s.1 = 3 by omega) with z | z | z | z
  · have := h8 z; omega
  · have := h9 z; omega
  · have := h10 z; omega
  · have := h11 z; omega
def CurRep (mem : Mem) (φ D : Nat) (cur : List (Nat × Nat)) : Prop := mem (φ + 2) D = nI cur.length ∧ ∀ k p, cur[k]? = some p → mem (φ + 4) (D * 3 + k) = nI p.1 ∧ mem (φ + 6) (D * 3 + k) = nI p.2
def FoundRep (mem : Mem) (φ : Nat) (L : List RoomS) : Prop := mem φ 0 = nI L.length ∧ ∀ j rs, L[j]? = some rs → CurRep mem φ j rs.1 ∧ mem (φ + 8) j = nI rs.2
def PRep (mem : Mem) (τ : Nat) (s : PS5) : Prop := mem τ 3 = nI s.1 ∧ mem τ 4 = nI s.2.1 ∧ (s.1 = 1 → mem τ 5 = nI s.2.2.1) ∧ FoundRep mem (τ + 3) s.2.2.2.2 ∧ (s.1 ≤ 2 → CurRep mem (τ + 3) s.2.2.2.2.length s.2.2.2.1)
def TeRep (mem : Mem) (τ : Nat) (txt : List Nat) : Prop := txt.length ≤ 60 ∧ mem τ 1 = nI txt.length ∧ ∀ i c, txt[i]? = some c → mem (τ + 2) i = nI c ∧ c < 65536
theorem FoundRep.mv {mem m : Mem} {φ : Nat} {L : List RoomS} (h : FoundRep mem φ L) (hL : ∀ rs ∈ L, rs.1.length ≤ 3) (h0 : m φ 0 = mem φ 0) (h2 : ∀ j, j < L.length → m (φ + 2) j = mem (φ + 2) j ∧ m (φ + 8) j = mem (φ + 8) j) (h4 : ∀ j, j < L.length * 3 → m (φ + 4) j = mem (φ + 4) j ∧ m (φ + 6) j = mem (φ + 6) j) : FoundRep m φ L := by
  refine ⟨by rw [h0]; exact h.1, fun j rs hj => ?_⟩
  have hjl := (List.getElem?_eq_some_iff.mp hj).1
  have h3 := hL rs (List.mem_of_getElem? hj)
  obtain ⟨⟨a1, a2⟩, a3⟩ := h.2 j rs hj
  refine ⟨⟨by rw [(h2 j hjl).1]; exact a1, fun k p hk => ?_⟩, by rw [(h2 j hjl).2]; exact a3⟩
  have hkl := (List.getElem?_eq_some_iff.mp hk).1
  rw [(h4 _ (by omega)).1, (h4 _ (by omega)).2]
  exact a2 k p hk
section
variable {l : Launch} {g : XG} {sh : Nat → Sh} {mem : Mem} {τ : Nat}
theorem ct_Te_append (hT : LayTe sh τ) {txt : List Nat} (ht : TeRep mem τ txt) {c : Nat} (hc : c < 65536) : Ct l g M_Te_append [rf g τ, .int (nI c)] none sh mem (Ri none sh (fun x m => (60 ≤ txt.length ∧ x = nI 0 ∧ m = mem) ∨ (txt.length < 60 ∧ x = nI 1 ∧ TeRep m τ (txt ++ [c]) ∧ Fr τ (τ + 22) mem m))) := by
  obtain ⟨h1, h2, h3⟩ := ht
  refine x_begin rfl rfl rfl (by decide) rfl ?_
  refine x_aload_n d_Te_append_0 rfl ?_
  refine x_getI hT.f0 rfl fs_Te_27 d_Te_append_1 ?_
  rw [h2]
  refine x_bipush (v := nI 60) d_Te_append_4 (by decide) ?_
  refine x_icmp_lt (tgt := 11) d_Te_append_6 (by decide) (fun c6 => ?_) (fun c6 => ?_)
  · have c6 := nI_lt' (by omega) (by omega) c6
    refine x_aload_n d_Te_append_11 rfl ?_
    refine x_getR hT.f0 rfl fs_Te_14 d_Te_append_12 ?_
    refine x_aload_n d_Te_append_15 rfl ?_
    refine x_getI hT.f0 rfl fs_Te_27 d_Te_append_16 ?_
    rw [h2]
    refine x_iload_n d_Te_append_19 rfl ?_
    refine x_v2v d_Te_append_20 ml_Te_31 v_Rw_put rfl ⟨rfl, rfl⟩ (row_io hT.f1) (Nat.le_of_ble_eq_true rfl) (ct_Rw_put hT.f1 hT.f2 (by omega)) (fun _ hE => ?_)
    subst hE
    refine x_aload_n d_Te_append_23 rfl ?_
    refine x_dup d_Te_append_24 rfl ?_
    refine x_getI hT.f0 rfl fs_Te_27 d_Te_append_25 ?_
    rw [um_o _ _ (show τ ≠ τ + 2 by omega), h2]
    refine x_iconst (v := nI 1) d_Te_append_28 (by decide) ?_
    refine x_iadd d_Te_append_29 ?_
    rw [nI_add]
    refine x_putI hT.f0 rfl ps_Te_27 rfl rfl d_Te_append_30 ?_
    refine x_iconst (v := nI 1) d_Te_append_33 (by decide) ?_
    refine x_iret rfl (by decide) d_Te_append_34 (Nat.zero_le _) (Nat.zero_le _) ?_
    refine ⟨_, rfl, rfl, rfl, Or.inr ⟨c6, rfl, ⟨by rw [List.length_append, List.length_singleton]; omega, by rw [um_eq, List.length_append, List.length_singleton], fun i d hi => ?_⟩, fun o ho => by rw [um_ne _ _ _ (by omega), um_ne _ _ _ (by omega)]⟩⟩
    rw [um_o _ _ (by omega)]
    by_cases hil : i < txt.length
    · rw [List.getElem?_append_left hil] at hi
      rw [um_k _ _ (by omega)]
      exact h3 i d hi
    · have hil2 : i = txt.length := by
        have := (List.getElem?_eq_some_iff.mp hi).1
        rw [List.length_append, List.length_singleton] at this
        omega
      subst hil2
      rw [List.getElem?_append_right (Nat.le_refl _), Nat.sub_self] at hi
      cases hi
      exact ⟨um_eq _ _ _ _, hc⟩
  · have c6 := nI_nlt' (by omega) (by omega) c6
    refine x_iconst (v := nI 0) d_Te_append_9 (by decide) ?_
    refine x_iret rfl (by decide) d_Te_append_10 (Nat.zero_le _) (Nat.zero_le _) ?_
    exact ⟨_, rfl, rfl, rfl, Or.inl ⟨c6, rfl, rfl⟩⟩
theorem ct_Te_beginRoom (hT : LayTe sh τ) {D : Nat} (hD : mem (τ + 3) 0 = nI D) (hD2 : D < 20) : Ct l g M_Te_beginRoom [rf g τ] none sh mem (Rv none sh (fun m => m = um (um (um (um mem (τ + 3 + 2) D (nI 0)) (τ + 3 + 12) D (nI 0)) τ 3 (nI 0)) τ 4 (nI 0))) := by
  refine x_begin rfl rfl rfl (by decide) rfl ?_
  refine x_aload_n d_Te_beginRoom_0 rfl ?_
  refine x_getR hT.f0 rfl fs_Te_23 d_Te_beginRoom_1 ?_
  refine x_v0v d_Te_beginRoom_4 ml_Te_52 v_Rm_begin rfl ⟨rfl, rfl⟩ hT.s3.io (Nat.le_of_ble_eq_true rfl) (ct_Rm_begin hT.s3 hD hD2) (fun _ hE => ?_)
  subst hE
  refine x_aload_n d_Te_beginRoom_7 rfl ?_
  refine x_iconst (v := nI 0) d_Te_beginRoom_8 (by decide) ?_
  refine x_putI hT.f0 rfl ps_Te_49 rfl rfl d_Te_beginRoom_9 ?_
  refine x_aload_n d_Te_beginRoom_12 rfl ?_
  refine x_iconst (v := nI 0) d_Te_beginRoom_13 (by decide) ?_
  refine x_putI hT.f0 rfl ps_Te_55 rfl rfl d_Te_beginRoom_14 ?_
  refine x_vret rfl d_Te_beginRoom_17 (Nat.zero_le _) (Nat.zero_le _) ?_
  exact ⟨rfl, rfl, rfl, rfl⟩
theorem ct_Te_takesDigit (hT : LayTe sh τ) {n c : Nat} (hn : mem τ 4 = nI n) (hn2 : n ≤ 60) (hc : c < 65536) : Ct l g M_Te_takesDigit [rf g τ, .int (nI c)] none sh mem (Ri none sh (fun x m => (digS n c = none ∧ x = nI 0 ∧ m = mem) ∨ ∃ n', digS n c = some n' ∧ x = nI 1 ∧ m = um mem τ 4 (nI n'))) := by
  refine x_begin rfl rfl rfl (by decide) rfl ?_
  refine x_iload_n d_Te_takesDigit_0 rfl ?_
  refine x_bipush (v := nI 48) d_Te_takesDigit_1 (by decide) ?_
  refine x_icmp_lt (tgt := 12) d_Te_takesDigit_3 (by decide) (fun c3 => ?_) (fun c3 => ?_)
  · have c3 := nI_lt' (by omega) (by omega) c3
    have hd : digS n c = none := if_neg (by omega)
    refine x_iconst (v := nI 0) d_Te_takesDigit_12 (by decide) ?_
    refine x_iret rfl (by decide) d_Te_takesDigit_13 (Nat.zero_le _) (Nat.zero_le _) ?_
    exact ⟨_, rfl, rfl, rfl, Or.inl ⟨hd, rfl, rfl⟩⟩
  · have c3 := nI_nlt' (by omega) (by omega) c3
    refine x_iload_n d_Te_takesDigit_6 rfl ?_
    refine x_bipush (v := nI 57) d_Te_takesDigit_7 (by decide) ?_
    refine x_icmp_le (tgt := 14) d_Te_takesDigit_9 (by decide) (fun c9 => ?_) (fun c9 => ?_)
    · have c9 := nI_le' (by omega) (by omega) c9
      refine x_aload_n d_Te_takesDigit_14 rfl ?_
      refine x_getI hT.f0 rfl fs_Te_55 d_Te_takesDigit_15 ?_
      rw [hn]
      refine x_bipush (v := nI 10) d_Te_takesDigit_18 (by decide) ?_
      refine x_imul d_Te_takesDigit_20 ?_
      rw [pk_mul]
      refine x_iload_n d_Te_takesDigit_21 rfl ?_
      refine x_iadd d_Te_takesDigit_22 ?_
      rw [nI_add]
      refine x_bipush (v := nI 48) d_Te_takesDigit_23 (by decide) ?_
      refine x_isub d_Te_takesDigit_25 ?_
      rw [pk_sub (by omega)]
      refine x_istore_n d_Te_takesDigit_26 (by decide) ?_
      refine x_iload_n d_Te_takesDigit_27 rfl ?_
      refine x_iconst (v := nI 1) d_Te_takesDigit_28 (by decide) ?_
      refine x_icmp_lt (tgt := 38) d_Te_takesDigit_29 (by decide) (fun c29 => ?_) (fun c29 => ?_)
      · have c29 := nI_lt' (by omega) (by omega) c29
        have hd : digS n c = none := if_neg (by omega)
        refine x_iconst (v := nI 0) d_Te_takesDigit_38 (by decide) ?_
        refine x_iret rfl (by decide) d_Te_takesDigit_39 (Nat.zero_le _) (Nat.zero_le _) ?_
        exact ⟨_, rfl, rfl, rfl, Or.inl ⟨hd, rfl, rfl⟩⟩
      · have c29 := nI_nlt' (by omega) (by omega) c29
        refine x_iload_n d_Te_takesDigit_32 rfl ?_
        refine x_bipush (v := nI 60) d_Te_takesDigit_33 (by decide) ?_
        refine x_icmp_le (tgt := 40) d_Te_takesDigit_35 (by decide) (fun c35 => ?_) (fun c35 => ?_)
        · have c35 := nI_le' (by omega) (by omega) c35
          have hd : digS n c = some (n * 10 + c - 48) := if_pos (by omega)
          refine x_aload_n d_Te_takesDigit_40 rfl ?_
          refine x_iload_n d_Te_takesDigit_41 rfl ?_
          refine x_putI hT.f0 rfl ps_Te_55 rfl rfl d_Te_takesDigit_42 ?_
          refine x_iconst (v := nI 1) d_Te_takesDigit_45 (by decide) ?_
          refine x_iret rfl (by decide) d_Te_takesDigit_46 (Nat.zero_le _) (Nat.zero_le _) ?_
          exact ⟨_, rfl, rfl, rfl, Or.inr ⟨_, hd, rfl, rfl⟩⟩
        · have c35 := nI_nle' (by omega) (by omega) c35
          have hd : digS n c = none := if_neg (by omega)
          refine x_iconst (v := nI 0) d_Te_takesDigit_38 (by decide) ?_
          refine x_iret rfl (by decide) d_Te_takesDigit_39 (Nat.zero_le _) (Nat.zero_le _) ?_
          exact ⟨_, rfl, rfl, rfl, Or.inl ⟨hd, rfl, rfl⟩⟩
    · have c9 := nI_nle' (by omega) (by omega) c9
      have hd : digS n c = none := if_neg (by omega)
      refine x_iconst (v := nI 0) d_Te_takesDigit_12 (by decide) ?_
      refine x_iret rfl (by decide) d_Te_takesDigit_13 (Nat.zero_le _) (Nat.zero_le _) ?_
      exact ⟨_, rfl, rfl, rfl, Or.inl ⟨hd, rfl, rfl⟩⟩
theorem ct_Te_takesBetweenSizes (hT : LayTe sh τ) {n c : Nat} (hn : mem τ 4 = nI n) (hn2 : n ≤ 60) (hc : c < 65536) : Ct l g M_Te_takesBetweenSizes [rf g τ, .int (nI c)] none sh mem (Ri none sh (fun x m => (¬ (c = 120 ∧ n ≠ 0) ∧ x = nI 0 ∧ m = mem) ∨ ((c = 120 ∧ n ≠ 0) ∧ x = nI 1 ∧ m = um (um (um mem τ 5 (nI n)) τ 4 (nI 0)) τ 3 (nI 1)))) := by
  refine x_begin rfl rfl rfl (by decide) rfl ?_
  refine x_iload_n d_Te_takesBetweenSizes_0 rfl ?_
  refine x_bipush (v := nI 120) d_Te_takesBetweenSizes_1 (by decide) ?_
  refine x_icmp_ne (tgt := 13) d_Te_takesBetweenSizes_3 (by decide) (fun c3 => ?_) (fun c3 => ?_)
  · have c3 := nI_ne' c3
    refine x_iconst (v := nI 0) d_Te_takesBetweenSizes_13 (by decide) ?_
    refine x_iret rfl (by decide) d_Te_takesBetweenSizes_14 (Nat.zero_le _) (Nat.zero_le _) ?_
    exact ⟨_, rfl, rfl, rfl, Or.inl ⟨fun z => c3 z.1, rfl, rfl⟩⟩
  · have c3 := nI_eq' (by omega) (by omega) c3
    refine x_aload_n d_Te_takesBetweenSizes_6 rfl ?_
    refine x_getI hT.f0 rfl fs_Te_55 d_Te_takesBetweenSizes_7 ?_
    rw [hn]
    refine x_if_ne (tgt := 15) d_Te_takesBetweenSizes_10 (by decide) (fun c10 => ?_) (fun c10 => ?_)
    · have c10 : n ≠ 0 := fun z => c10 (by rw [z]; rfl)
      refine x_aload_n d_Te_takesBetweenSizes_15 rfl ?_
      refine x_aload_n d_Te_takesBetweenSizes_16 rfl ?_
      refine x_getI hT.f0 rfl fs_Te_55 d_Te_takesBetweenSizes_17 ?_
      rw [hn]
      refine x_putI hT.f0 rfl ps_Te_73 rfl rfl d_Te_takesBetweenSizes_20 ?_
      refine x_aload_n d_Te_takesBetweenSizes_23 rfl ?_
      refine x_iconst (v := nI 0) d_Te_takesBetweenSizes_24 (by decide) ?_
      refine x_putI hT.f0 rfl ps_Te_55 rfl rfl d_Te_takesBetweenSizes_25 ?_
      refine x_aload_n d_Te_takesBetweenSizes_28 rfl ?_
      refine x_iconst (v := nI 1) d_Te_takesBetweenSizes_29 (by decide) ?_
      refine x_putI hT.f0 rfl ps_Te_49 rfl rfl d_Te_takesBetweenSizes_30 ?_
      refine x_iconst (v := nI 1) d_Te_takesBetweenSizes_33 (by decide) ?_
      refine x_iret rfl (by decide) d_Te_takesBetweenSizes_34 (Nat.zero_le _) (Nat.zero_le _) ?_
      exact ⟨_, rfl, rfl, rfl, Or.inr ⟨⟨c3, c10⟩, rfl, rfl⟩⟩
    · have c10 := nI_eq' (b := 0) (by omega) (by omega) c10
      refine x_iconst (v := nI 0) d_Te_takesBetweenSizes_13 (by decide) ?_
      refine x_iret rfl (by decide) d_Te_takesBetweenSizes_14 (Nat.zero_le _) (Nat.zero_le _) ?_
      exact ⟨_, rfl, rfl, rfl, Or.inl ⟨fun z => z.2 c10, rfl, rfl⟩⟩
theorem ct_Te_takesBehindSizes (hT : LayTe sh τ) {n f c D k : Nat} (hn : mem τ 4 = nI n) (hn2 : n ≤ 60) (hf : mem τ 5 = nI f) (hc : c < 65536) (hD : mem (τ + 3) 0 = nI D) (hD2 : D < 20) (hk : mem (τ + 3 + 2) D = nI k) (hk2 : k ≤ 2) : Ct l g M_Te_takesBehindSizes [rf g τ, .int (nI c)] none sh mem (Ri none sh (fun x m => ((n = 0 ∨ (c ≠ 43 ∧ c ≠ 64) ∨ (c = 43 ∧ 2 ≤ k)) ∧ x = nI 0 ∧ m = mem) ∨ (¬ (n = 0 ∨ (c ≠ 43 ∧ c ≠ 64) ∨ (c = 43 ∧ 2 ≤ k)) ∧ x = nI 1 ∧ m = um (um (um (um (um mem (τ + 3 + 4) (D * 3 + k) (nI f)) (τ + 3 + 6) (D * 3 + k) (nI n)) (τ + 3 + 2) D (nI (k + 1))) τ 4 (nI 0)) τ 3 (nI (if c = 43 then 0 else 2))))) := by
  refine x_begin rfl rfl rfl (by decide) rfl ?_
  refine x_aload_n d_Te_takesBehindSizes_0 rfl ?_
  refine x_getI hT.f0 rfl fs_Te_55 d_Te_takesBehindSizes_1 ?_
  rw [hn]
  refine x_if_eq (tgt := 19) d_Te_takesBehindSizes_4 (by decide) (fun c4 => ?_) (fun c4 => ?_)
  · have c4 := nI_eq' (b := 0) (by omega) (by omega) c4
    refine x_iconst (v := nI 0) d_Te_takesBehindSizes_19 (by decide) ?_
    refine x_iret rfl (by decide) d_Te_takesBehindSizes_20 (Nat.zero_le _) (Nat.zero_le _) ?_
    exact ⟨_, rfl, rfl, rfl, Or.inl ⟨Or.inl c4, rfl, rfl⟩⟩
  · have c4 : n ≠ 0 := fun z => c4 (by rw [z]; rfl)
    refine x_iload_n d_Te_takesBehindSizes_7 rfl ?_
    refine x_bipush (v := nI 43) d_Te_takesBehindSizes_8 (by decide) ?_
    refine x_icmp_eq (tgt := 21) d_Te_takesBehindSizes_10 (by decide) (fun c10 => ?_) (fun c10 => ?_)
    · have c10 := nI_eq' (by omega) (by omega) c10
      refine x_iload_n d_Te_takesBehindSizes_21 rfl ?_
      refine x_bipush (v := nI 43) d_Te_takesBehindSizes_22 (by decide) ?_
      refine x_icmp_ne (tgt := 50) d_Te_takesBehindSizes_24 (by decide) (fun c24 => ?_) (fun c24 => ?_)
      · exact absurd c10 (nI_ne' c24)
      · refine x_aload_n d_Te_takesBehindSizes_27 rfl ?_
        refine x_getR hT.f0 rfl fs_Te_23 d_Te_takesBehindSizes_28 ?_
        refine x_getR hT.s3.f0 rfl fs_Te_76 d_Te_takesBehindSizes_31 ?_
        refine x_aload_n d_Te_takesBehindSizes_34 rfl ?_
        refine x_getR hT.f0 rfl fs_Te_23 d_Te_takesBehindSizes_35 ?_
        refine x_getI hT.s3.f0 rfl fs_Te_35 d_Te_takesBehindSizes_38 ?_
        rw [hD]
        refine x_v1p d_Te_takesBehindSizes_41 ml_Te_41 v_Rw_at rfl ⟨rfl, rfl⟩ (row_io hT.s3.f1) (Nat.le_of_ble_eq_true rfl) (ct_Rw_at hT.s3.f1 hT.s3.f2 (by omega)) ?_
        rw [hk]
        refine x_iconst (v := nI 2) d_Te_takesBehindSizes_44 (by decide) ?_
        refine x_icmp_lt (tgt := 50) d_Te_takesBehindSizes_45 (by decide) (fun c45 => ?_) (fun c45 => ?_)
        · have c45 := nI_lt' (by omega) (by omega) c45
          refine x_aload_n d_Te_takesBehindSizes_50 rfl ?_
          refine x_getR hT.f0 rfl fs_Te_23 d_Te_takesBehindSizes_51 ?_
          refine x_aload_n d_Te_takesBehindSizes_54 rfl ?_
          refine x_getI hT.f0 rfl fs_Te_73 d_Te_takesBehindSizes_55 ?_
          rw [hf]
          refine x_aload_n d_Te_takesBehindSizes_58 rfl ?_
          refine x_getI hT.f0 rfl fs_Te_55 d_Te_takesBehindSizes_59 ?_
          rw [hn]
          refine x_v2v d_Te_takesBehindSizes_62 ml_Te_79 v_Rm_addRectangle rfl ⟨rfl, rfl⟩ hT.s3.io (Nat.le_of_ble_eq_true rfl) (ct_Rm_addRectangle hT.s3 hD hD2 hk (by omega)) (fun _ hE => ?_)
          subst hE
          refine x_aload_n d_Te_takesBehindSizes_65 rfl ?_
          refine x_iconst (v := nI 0) d_Te_takesBehindSizes_66 (by decide) ?_
          refine x_putI hT.f0 rfl ps_Te_55 rfl rfl d_Te_takesBehindSizes_67 ?_
          refine x_aload_n d_Te_takesBehindSizes_70 rfl ?_
          refine x_iload_n d_Te_takesBehindSizes_71 rfl ?_
          refine x_bipush (v := nI 43) d_Te_takesBehindSizes_72 (by decide) ?_
          refine x_icmp_ne (tgt := 81) d_Te_takesBehindSizes_74 (by decide) (fun c74 => ?_) (fun c74 => ?_)
          · exact absurd c10 (nI_ne' c74)
          · refine x_iconst (v := nI 0) d_Te_takesBehindSizes_77 (by decide) ?_
            refine x_goto (tgt := 82) d_Te_takesBehindSizes_78 (by decide) ?_
            refine x_putI hT.f0 rfl ps_Te_49 rfl rfl d_Te_takesBehindSizes_82 ?_
            refine x_iconst (v := nI 1) d_Te_takesBehindSizes_85 (by decide) ?_
            refine x_iret rfl (by decide) d_Te_takesBehindSizes_86 (Nat.zero_le _) (Nat.zero_le _) ?_
            exact ⟨_, rfl, rfl, rfl, Or.inr ⟨by omega, rfl, by first | (rw [if_pos c10]; done) | (rw [if_neg c10]; done)⟩⟩
        · have c45 := nI_nlt' (by omega) (by omega) c45
          refine x_iconst (v := nI 0) d_Te_takesBehindSizes_48 (by decide) ?_
          refine x_iret rfl (by decide) d_Te_takesBehindSizes_49 (Nat.zero_le _) (Nat.zero_le _) ?_
          exact ⟨_, rfl, rfl, rfl, Or.inl ⟨by omega, rfl, rfl⟩⟩
    · have c10 := nI_ne' c10
      refine x_iload_n d_Te_takesBehindSizes_13 rfl ?_
      refine x_bipush (v := nI 64) d_Te_takesBehindSizes_14 (by decide) ?_
      refine x_icmp_eq (tgt := 21) d_Te_takesBehindSizes_16 (by decide) (fun c16 => ?_) (fun c16 => ?_)
      · have c16 := nI_eq' (by omega) (by omega) c16
        refine x_iload_n d_Te_takesBehindSizes_21 rfl ?_
        refine x_bipush (v := nI 43) d_Te_takesBehindSizes_22 (by decide) ?_
        refine x_icmp_ne (tgt := 50) d_Te_takesBehindSizes_24 (by decide) (fun c24 => ?_) (fun c24 => ?_)
        · refine x_aload_n d_Te_takesBehindSizes_50 rfl ?_
          refine x_getR hT.f0 rfl fs_Te_23 d_Te_takesBehindSizes_51 ?_
          refine x_aload_n d_Te_takesBehindSizes_54 rfl ?_
          refine x_getI hT.f0 rfl fs_Te_73 d_Te_takesBehindSizes_55 ?_
          rw [hf]
          refine x_aload_n d_Te_takesBehindSizes_58 rfl ?_
          refine x_getI hT.f0 rfl fs_Te_55 d_Te_takesBehindSizes_59 ?_
          rw [hn]
          refine x_v2v d_Te_takesBehindSizes_62 ml_Te_79 v_Rm_addRectangle rfl ⟨rfl, rfl⟩ hT.s3.io (Nat.le_of_ble_eq_true rfl) (ct_Rm_addRectangle hT.s3 hD hD2 hk (by omega)) (fun _ hE => ?_)
          subst hE
          refine x_aload_n d_Te_takesBehindSizes_65 rfl ?_
          refine x_iconst (v := nI 0) d_Te_takesBehindSizes_66 (by decide) ?_
          refine x_putI hT.f0 rfl ps_Te_55 rfl rfl d_Te_takesBehindSizes_67 ?_
          refine x_aload_n d_Te_takesBehindSizes_70 rfl ?_
          refine x_iload_n d_Te_takesBehindSizes_71 rfl ?_
          refine x_bipush (v := nI 43) d_Te_takesBehindSizes_72 (by decide) ?_
          refine x_icmp_ne (tgt := 81) d_Te_takesBehindSizes_74 (by decide) (fun c74 => ?_) (fun c74 => ?_)
          · refine x_iconst (v := nI 2) d_Te_takesBehindSizes_81 (by decide) ?_
            refine x_putI hT.f0 rfl ps_Te_49 rfl rfl d_Te_takesBehindSizes_82 ?_
            refine x_iconst (v := nI 1) d_Te_takesBehindSizes_85 (by decide) ?_
            refine x_iret rfl (by decide) d_Te_takesBehindSizes_86 (Nat.zero_le _) (Nat.zero_le _) ?_
            exact ⟨_, rfl, rfl, rfl, Or.inr ⟨by omega, rfl, by first | (rw [if_pos c10]; done) | (rw [if_neg c10]; done)⟩⟩
          · exact absurd (nI_eq' (by omega) (by omega) c74) c10
        · exact absurd (nI_eq' (by omega) (by omega) c24) c10
      · have c16 := nI_ne' c16
        refine x_iconst (v := nI 0) d_Te_takesBehindSizes_19 (by decide) ?_
        refine x_iret rfl (by decide) d_Te_takesBehindSizes_20 (Nat.zero_le _) (Nat.zero_le _) ?_
        exact ⟨_, rfl, rfl, rfl, Or.inl ⟨Or.inr (Or.inl ⟨c10, c16⟩), rfl, rfl⟩⟩
theorem ct_Te_takesLight (hT : LayTe sh τ) {c D : Nat} (hc : c < 65536) (hD : mem (τ + 3) 0 = nI D) (hD2 : D < 20) : Ct l g M_Te_takesLight [rf g τ, .int (nI c)] none sh mem (Ri none sh (fun x m => (¬ (48 ≤ c ∧ c ≤ 51) ∧ x = nI 0 ∧ m = mem) ∨ ((48 ≤ c ∧ c ≤ 51) ∧ x = nI 1 ∧ m = um (um (um mem (τ + 3 + 8) D (nI (c - 48))) (τ + 3) 0 (nI (D + 1))) τ 3 (nI 3)))) := by
  refine x_begin rfl rfl rfl (by decide) rfl ?_
  refine x_iload_n d_Te_takesLight_0 rfl ?_
  refine x_bipush (v := nI 48) d_Te_takesLight_1 (by decide) ?_
  refine x_icmp_lt (tgt := 12) d_Te_takesLight_3 (by decide) (fun c3 => ?_) (fun c3 => ?_)
  · have c3 := nI_lt' (by omega) (by omega) c3
    have hd : ¬ (48 ≤ c ∧ c ≤ 51) := by omega
    refine x_iconst (v := nI 0) d_Te_takesLight_12 (by decide) ?_
    refine x_iret rfl (by decide) d_Te_takesLight_13 (Nat.zero_le _) (Nat.zero_le _) ?_
    exact ⟨_, rfl, rfl, rfl, Or.inl ⟨hd, rfl, rfl⟩⟩
  · have c3 := nI_nlt' (by omega) (by omega) c3
    refine x_iload_n d_Te_takesLight_6 rfl ?_
    refine x_bipush (v := nI 51) d_Te_takesLight_7 (by decide) ?_
    refine x_icmp_le (tgt := 14) d_Te_takesLight_9 (by decide) (fun c9 => ?_) (fun c9 => ?_)
    · have c9 := nI_le' (by omega) (by omega) c9
      refine x_aload_n d_Te_takesLight_14 rfl ?_
      refine x_getR hT.f0 rfl fs_Te_23 d_Te_takesLight_15 ?_
      refine x_iload_n d_Te_takesLight_18 rfl ?_
      refine x_bipush (v := nI 48) d_Te_takesLight_19 (by decide) ?_
      refine x_isub d_Te_takesLight_21 ?_
      rw [pk_sub (by omega)]
      refine x_v1v d_Te_takesLight_22 ml_Te_82 v_Rm_finish rfl ⟨rfl, rfl⟩ hT.s3.io (Nat.le_of_ble_eq_true rfl) (ct_Rm_finish hT.s3 hD hD2) (fun _ hE => ?_)
      subst hE
      refine x_aload_n d_Te_takesLight_25 rfl ?_
      refine x_iconst (v := nI 3) d_Te_takesLight_26 (by decide) ?_
      refine x_putI hT.f0 rfl ps_Te_49 rfl rfl d_Te_takesLight_27 ?_
      refine x_iconst (v := nI 1) d_Te_takesLight_30 (by decide) ?_
      refine x_iret rfl (by decide) d_Te_takesLight_31 (Nat.zero_le _) (Nat.zero_le _) ?_
      exact ⟨_, rfl, rfl, rfl, Or.inr ⟨⟨by omega, by omega⟩, rfl, rfl⟩⟩
    · have c9 := nI_nle' (by omega) (by omega) c9
      have hd : ¬ (48 ≤ c ∧ c ≤ 51) := by omega
      refine x_iconst (v := nI 0) d_Te_takesLight_12 (by decide) ?_
      refine x_iret rfl (by decide) d_Te_takesLight_13 (Nat.zero_le _) (Nat.zero_le _) ?_
      exact ⟨_, rfl, rfl, rfl, Or.inl ⟨hd, rfl, rfl⟩⟩
theorem ct_Te_takesBetweenRooms (hT : LayTe sh τ) {c D : Nat} (hc : c < 65536) (hD : mem (τ + 3) 0 = nI D) (hD2 : D < 20) : Ct l g M_Te_takesBetweenRooms [rf g τ, .int (nI c)] none sh mem (Ri none sh (fun x m => (c ≠ 59 ∧ x = nI 0 ∧ m = mem) ∨ (c = 59 ∧ x = nI 1 ∧ m = um (um (um (um mem (τ + 3 + 2) D (nI 0)) (τ + 3 + 12) D (nI 0)) τ 3 (nI 0)) τ 4 (nI 0)))) := by
  refine x_begin rfl rfl rfl (by decide) rfl ?_
  refine x_iload_n d_Te_takesBetweenRooms_0 rfl ?_
  refine x_bipush (v := nI 59) d_Te_takesBetweenRooms_1 (by decide) ?_
  refine x_icmp_eq (tgt := 8) d_Te_takesBetweenRooms_3 (by decide) (fun c3 => ?_) (fun c3 => ?_)
  · have c3 := nI_eq' (by omega) (by omega) c3
    refine x_aload_n d_Te_takesBetweenRooms_8 rfl ?_
    refine x_v0v d_Te_takesBetweenRooms_9 ml_Te_38 v_Te_beginRoom rfl ⟨rfl, rfl⟩ hT.io (Nat.le_of_ble_eq_true rfl) (ct_Te_beginRoom hT hD hD2) (fun _ hE => ?_)
    subst hE
    refine x_iconst (v := nI 1) d_Te_takesBetweenRooms_12 (by decide) ?_
    refine x_iret rfl (by decide) d_Te_takesBetweenRooms_13 (Nat.zero_le _) (Nat.zero_le _) ?_
    exact ⟨_, rfl, rfl, rfl, Or.inr ⟨c3, rfl, rfl⟩⟩
  · have c3 := nI_ne' c3
    refine x_iconst (v := nI 0) d_Te_takesBetweenRooms_6 (by decide) ?_
    refine x_iret rfl (by decide) d_Te_takesBetweenRooms_7 (Nat.zero_le _) (Nat.zero_le _) ?_
    exact ⟨_, rfl, rfl, rfl, Or.inl ⟨c3, rfl, rfl⟩⟩
end
