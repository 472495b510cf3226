/-! the reference: the text, sign by sign -/
def nxB (T : List Nat) (p a b : Nat) : Bool := match T[p]? with
  | some c => decide (a ≤ c) && decide (c ≤ b)
  | none => false
theorem nxB_in {T : List Nat} {p a b c : Nat} (hc : T[p]? = some c) (h1 : a ≤ c) (h2 : c ≤ b) : nxB T p a b = true := by
  unfold nxB
  rw [hc]
  simp [h1, h2]
theorem nxB_of {T : List Nat} {p a b : Nat} (h : nxB T p a b = true) : ∃ c, T[p]? = some c ∧ a ≤ c ∧ c ≤ b := by
  unfold nxB at h
  cases hc : T[p]? with
  | none => rw [hc] at h; cases h
  | some c =>
    rw [hc] at h
    simp only [Bool.and_eq_true, decide_eq_true_eq] at h
    exact ⟨c, rfl, h.1, h.2⟩
theorem nxB_eq {T : List Nat} {p c : Nat} : nxB T p c c = true ↔ T[p]? = some c := by
  constructor
  · intro h
    obtain ⟨d, h1, h2, h3⟩ := nxB_of h
    rw [h1, show d = c by omega]
  · intro h
    exact nxB_in h (Nat.le_refl _) (Nat.le_refl _)
def finP (T : List Nat) : Nat ⊕ PS5 → Nat ⊕ List RoomS
  | .inl i => .inl i
  | .inr s => if s.1 = 3 then .inr s.2.2.2.2 else .inl T.length
def goP (T : List Nat) (i : Nat) (s : PS5) : Nat ⊕ List RoomS := finP T (runP (T.drop i) i s)
theorem goP_0 (T : List Nat) : goP T 0 (0, 0, 0, [], []) = parseP T := by
  unfold goP parseP
  rw [List.drop_zero]
  cases runP T 0 (0, 0, 0, [], []) <;> rfl
theorem goP_end {T : List Nat} {i : Nat} {s : PS5} (h : T[i]? = none) (hi : i ≤ T.length) : goP T i s = if s.1 = 3 then .inr s.2.2.2.2 else .inl i := by
  have h1 := List.getElem?_eq_none_iff.mp h
  have h2 : i = T.length := by omega
  subst h2
  unfold goP
  rw [List.drop_length]
  rfl
theorem goP_at {T : List Nat} {i c : Nat} {s : PS5} (h : T[i]? = some c) : goP T i s = match stepP s c with
    | none => .inl i
    | some s' => goP T (i + 1) s' := by
  obtain ⟨hi, rfl⟩ := List.getElem?_eq_some_iff.mp h
  unfold goP
  rw [List.drop_eq_getElem_cons hi, runP]
  cases stepP s T[i] <;> rfl
theorem goP_no {T : List Nat} {p st f : Nat} {cur : List (Nat × Nat)} {done : List RoomS} (hp : p ≤ T.length) (h : ¬ nxB T p 49 57 = true) (hst : st ≤ 1) : goP T p (st, 0, f, cur, done) = .inl p := by
  cases hc : T[p]? with
  | none => rw [goP_end hc hp, if_neg (by dsimp only; omega)]
  | some c =>
    have hd : digS 0 c = none := if_neg (fun z => h (nxB_in hc (by omega) (by omega)))
    rw [goP_at hc]
    rcases (show st = 0 ∨ st = 1 by omega) with rfl | rfl
    · rw [stepP0, hd]
      dsimp only
      rw [if_neg (fun z => z.2 rfl)]
    · rw [stepP1, hd]
      dsimp only
      rw [if_pos (Or.inl rfl)]
theorem goP_dig {T : List Nat} {p c v w st f : Nat} {cur : List (Nat × Nat)} {done : List RoomS} (hc : T[p]? = some c) (hst : st ≤ 1) (hd : digS v c = some w) : goP T p (st, v, f, cur, done) = goP T (p + 1) (st, w, f, cur, done) := by
  rw [goP_at hc]
  rcases (show st = 0 ∨ st = 1 by omega) with rfl | rfl
  · rw [stepP0, hd]
  · rw [stepP1, hd]
theorem goP_x {T : List Nat} {q v f : Nat} {cur : List (Nat × Nat)} {done : List RoomS} (hq : q ≤ T.length) (hv : 1 ≤ v) (hd : ∀ c, T[q]? = some c → digS v c = none) : (T[q]? = some 120 → goP T q (0, v, f, cur, done) = goP T (q + 1) (1, 0, v, cur, done)) ∧ (¬ T[q]? = some 120 → goP T q (0, v, f, cur, done) = .inl q) := by
  cases hc : T[q]? with
  | none => exact ⟨fun z => (by cases z), fun _ => by rw [goP_end hc hq, if_neg (by dsimp only; omega)]⟩
  | some c =>
    refine ⟨fun z => ?_, fun z => ?_⟩
    · cases z
      rw [goP_at hc, stepP0, hd 120 hc]
      dsimp only
      rw [if_pos ⟨rfl, by omega⟩]
    · have hne : c ≠ 120 := fun y => z (by rw [y])
      rw [goP_at hc, stepP0, hd c hc]
      dsimp only
      rw [if_neg (fun y => hne y.1)]
theorem goP_sep {T : List Nat} {q v f : Nat} {cur : List (Nat × Nat)} {done : List RoomS} (hq : q ≤ T.length) (hv : 1 ≤ v) (hd : ∀ c, T[q]? = some c → digS v c = none) : (T[q]? = some 43 → cur.length < 2 → goP T q (1, v, f, cur, done) = goP T (q + 1) (0, 0, f, cur ++ [(f, v)], done)) ∧ (T[q]? = some 64 → goP T q (1, v, f, cur, done) = goP T (q + 1) (2, 0, f, cur ++ [(f, v)], done)) ∧ ((¬ T[q]? = some 43 ∨ 2 ≤ cur.length) → ¬ T[q]? = some 64 → goP T q (1, v, f, cur, done) = .inl q) := by
  cases hc : T[q]? with
  | none => exact ⟨fun z => (by cases z), fun z => (by cases z), fun _ _ => by rw [goP_end hc hq, if_neg (by dsimp only; omega)]⟩
  | some c =>
    have e : goP T q (1, v, f, cur, done) = match (if v = 0 ∨ (c ≠ 43 ∧ c ≠ 64) ∨ (c = 43 ∧ 2 ≤ cur.length) then none else some (if c = 43 then 0 else 2, 0, f, cur ++ [(f, v)], done) : Option PS5) with
        | none => .inl q
        | some s' => goP T (q + 1) s' := by
      rw [goP_at hc, stepP1, hd c hc]
    refine ⟨fun z h2 => ?_, fun z => ?_, fun z h2 => ?_⟩
    · cases z
      rw [e, if_neg (by omega)]
      rfl
    · cases z
      rw [e, if_neg (by omega)]
      rfl
    · have h3 : c ≠ 64 := fun y => h2 (by rw [y])
      have h4 : c ≠ 43 ∨ 2 ≤ cur.length := by
        rcases z with z | z
        · exact Or.inl (fun y => z (by rw [y]))
        · exact Or.inr z
      rw [e, if_pos (by omega)]
theorem goP_2 {T : List Nat} {q n f : Nat} {cur : List (Nat × Nat)} {done : List RoomS} (hq : q ≤ T.length) : (∀ c, T[q]? = some c → 48 ≤ c → c ≤ 51 → goP T q (2, n, f, cur, done) = goP T (q + 1) (3, n, f, [], done ++ [(cur, c - 48)])) ∧ (¬ nxB T q 48 51 = true → goP T q (2, n, f, cur, done) = .inl q) := by
  refine ⟨fun c hc h1 h2 => ?_, fun h => ?_⟩
  · rw [goP_at hc, stepP2, if_pos ⟨h1, h2⟩]
  · cases hc : T[q]? with
    | none => rw [goP_end hc hq, if_neg (by dsimp only; omega)]
    | some c =>
      rw [goP_at hc, stepP2, if_neg (fun z => h (nxB_in hc z.1 z.2))]
theorem goP_3 {T : List Nat} {q n f : Nat} {done : List RoomS} (hq : q ≤ T.length) : (T[q]? = some 59 → goP T q (3, n, f, [], done) = goP T (q + 1) (0, 0, f, [], done)) ∧ (T[q]? = none → goP T q (3, n, f, [], done) = .inr done) ∧ (¬ T[q]? = some 59 → ¬ T[q]? = none → goP T q (3, n, f, [], done) = .inl q) := by
  refine ⟨fun hc => ?_, fun hc => ?_, fun h1 h2 => ?_⟩
  · rw [goP_at hc, stepP3, if_pos rfl]
  · rw [goP_end hc hq, if_pos rfl]
  · cases hc : T[q]? with
    | none => exact absurd hc h2
    | some c =>
      rw [goP_at hc, stepP3, if_neg (fun z => h1 (by rw [hc, z]))]
theorem stepP_done {s s' : PS5} {c : Nat} (h : stepP s c = some s') : ∃ t, s'.2.2.2.2 = s.2.2.2.2 ++ t := by
  unfold stepP at h
  split at h
  · split at h
    · cases h; exact ⟨[], by simp⟩
    · split at h
      · cases h; exact ⟨[], by simp⟩
      · cases h
  · split at h
    · split at h
      · cases h; exact ⟨[], by simp⟩
      · split at h
        · cases h
        · cases h; exact ⟨[], by simp⟩
    · split at h
      · split at h
        · cases h; exact ⟨_, rfl⟩
        · cases h
      · split at h
        · cases h; exact ⟨[], by simp⟩
        · cases h
theorem runP_done : ∀ (cs : List Nat) (i : Nat) (s s' : PS5), runP cs i s = .inr s' → ∃ t, s'.2.2.2.2 = s.2.2.2.2 ++ t
  | [], i, s, s', h => by
    rw [runP] at h
    cases h
    exact ⟨[], by simp⟩
  | c :: cs, i, s, s', h => by
    rw [runP] at h
    cases hs : stepP s c with
    | none => rw [hs] at h; cases h
    | some s1 =>
      rw [hs] at h
      obtain ⟨t1, e1⟩ := stepP_done hs
      obtain ⟨t2, e2⟩ := runP_done cs (i + 1) s1 s' h
      exact ⟨t1 ++ t2, by rw [e2, e1, List.append_assoc]⟩
theorem goP_done {T : List Nat} {i : Nat} {s : PS5} {L : List RoomS} (h : goP T i s = .inr L) : ∃ t, L = s.2.2.2.2 ++ t := by
  unfold goP at h
  cases hr : runP (T.drop i) i s with
  | inl k => rw [hr] at h; cases h
  | inr s' =>
    rw [hr] at h
    have h : (if s'.1 = 3 then (Sum.inr s'.2.2.2.2 : Nat ⊕ List RoomS) else .inl T.length) = .inr L := h
    split at h
    · cases h
      exact runP_done _ _ _ _ hr
    · cases h
theorem qOf_app {cur : List (Nat × Nat)} {v1 v2 w : Nat} (h1 : 1 ≤ w) (h7 : w < 7) : qOf (cur ++ [(v1, v2)], 0) w = if w = 1 + 2 * cur.length then v1 else if w = 2 + 2 * cur.length then v2 else qOf (cur, 0) w := by
  unfold qOf
  rw [if_neg (show ¬ w = 0 by omega), if_neg (show ¬ w = 7 by omega), if_neg (show ¬ w = 0 by omega), if_neg (show ¬ w = 7 by omega)]
  dsimp only
  by_cases hlt : (w - 1) / 2 < cur.length
  · rw [List.getElem?_append_left hlt, if_neg (show ¬ w = 1 + 2 * cur.length by omega), if_neg (show ¬ w = 2 + 2 * cur.length by omega)]
  · rw [List.getElem?_append_right (by omega)]
    by_cases heq : (w - 1) / 2 = cur.length
    · rw [heq, Nat.sub_self]
      by_cases hodd : w % 2 = 1
      · rw [if_pos hodd, if_pos (show w = 1 + 2 * cur.length by omega)]
        rfl
      · rw [if_neg hodd, if_neg (show ¬ w = 1 + 2 * cur.length by omega), if_pos (show w = 2 + 2 * cur.length by omega)]
        rfl
    · rw [if_neg (show ¬ w = 1 + 2 * cur.length by omega), if_neg (show ¬ w = 2 + 2 * cur.length by omega), List.getElem?_eq_none (l := cur) (by omega), List.getElem?_eq_none (by rw [List.length_singleton]; omega)]
theorem qOf_side {cur : List (Nat × Nat)} {a b w : Nat} (h7 : w < 7) : qOf (cur, a) w = qOf (cur, b) w := by
  unfold qOf
  rw [if_neg (show ¬ w = 7 by omega), if_neg (show ¬ w = 7 by omega)]
def TX (μ : Nat) (mem m : Mem) : Prop := (∀ o, o ≠ μ → o ≠ μ + 7 → m o = mem o) ∧ ∀ k, k ≠ 7 → m μ k = mem μ k
theorem TX.rf {μ : Nat} {mem : Mem} : TX μ mem mem := ⟨fun _ _ _ => rfl, fun _ _ => rfl⟩
theorem TX.tr {μ : Nat} {m1 m2 m3 : Mem} (h : TX μ m1 m2) (k : TX μ m2 m3) : TX μ m1 m3 := ⟨fun o a b => (k.1 o a b).trans (h.1 o a b), fun j a => (k.2 j a).trans (h.2 j a)⟩
theorem TX.pl {μ : Nat} {m : Mem} {x : Int32} : TX μ m (um m μ 7 x) := ⟨fun o a b => um_ne _ _ _ a, fun k hk => um_k _ _ hk⟩
theorem TX.rd {μ k : Nat} {m : Mem} {x : Int32} : TX μ m (um m (μ + 7) k x) := ⟨fun o a b => um_ne _ _ _ b, fun k hk => by rw [um_ne _ _ _ (by omega)]⟩
theorem TX.txt {μ : Nat} {mem m : Mem} {T : List Nat} (h : TX μ mem m) (ht : MTxt mem μ T) : MTxt m μ T := ⟨ht.1, (h.2 9 (by omega)).trans ht.2.1, fun i c hi => by rw [h.1 _ (by omega) (by omega)]; exact ht.2.2 i c hi⟩
theorem TX.fg {μ : Nat} {mem m : Mem} (h : TX μ mem m) : FG μ mem m := ⟨fun o a _ _ _ e => h.1 o a e, fun k a b => h.2 k (by omega)⟩
def SZP (μ : Nat) (mem : Mem) (T : List Nat) (p a : Nat) (x : Int32) (m : Mem) : Prop := TX μ mem m ∧ ((x = nI 0 ∧ m = mem ∧ ∀ st f cur done, st ≤ 1 → goP T p (st, 0, f, cur, done) = .inl p) ∨ ∃ q v, x = nI 1 ∧ p < q ∧ q ≤ T.length ∧ (1 ≤ v ∧ v ≤ 60) ∧ m μ 7 = nI q ∧ (m (μ + 7) a = nI v ∧ ∀ w, w ≠ a → m (μ + 7) w = mem (μ + 7) w) ∧ (∀ c, T[q]? = some c → digS v c = none) ∧ ∀ st f cur done, st ≤ 1 → goP T p (st, 0, f, cur, done) = goP T q (st, v, f, cur, done))
section
variable {l : Launch} {g : XG} {sh : Nat → Sh} {mem : Mem} {μ : Nat} {T : List Nat}
theorem ct_Mo_isNext (hM : LayMo sh μ) (ht : MTxt mem μ T) {p a b : Nat} (hp : mem μ 7 = nI p) (hpl : p ≤ T.length) (ha : a < 65536) (hb : b < 65536) : Ct l g M_Mo_isNext [rf g μ, .int (nI a), .int (nI b)] none sh mem (Pq (.int (bI (nxB T p a b = true))) none sh mem) := by
  obtain ⟨t1, t2, t3⟩ := id ht
  refine x_begin rfl rfl rfl (by decide) rfl ?_
  refine x_aload_n d_Mo_isNext_0 rfl ?_
  refine x_getI hM.f0 rfl fs_Mo_132 d_Mo_isNext_1 ?_
  rw [hp]
  refine x_aload_n d_Mo_isNext_4 rfl ?_
  refine x_getI hM.f0 rfl fs_Mo_175 d_Mo_isNext_5 ?_
  rw [t2]
  refine x_icmp_ge (tgt := 32) d_Mo_isNext_8 (by decide) (fun c8 => ?_) (fun c8 => ?_)
  · have c8 := nI_le' (by omega) (by omega) c8
    have hn : T[p]? = none := List.getElem?_eq_none_iff.mpr c8
    rw [bI_f (show ¬ nxB T p a b = true by unfold nxB; rw [hn]; simp)]
    refine x_iconst (v := nI 0) d_Mo_isNext_32 (by decide) ?_
    refine x_iret rfl (by decide) d_Mo_isNext_33 (Nat.zero_le _) (Nat.zero_le _) ?_
    exact ⟨rfl, rfl, rfl, rfl⟩
  · have c8 := nI_nle' (by omega) (by omega) c8
    have hc := List.getElem?_eq_getElem c8
    obtain ⟨e1, e2⟩ := t3 p _ hc
    generalize T[p] = c at hc e1 e2
    have hx : bI (nI a ≤ nI c ∧ nI c ≤ nI b) = bI (nxB T p a b = true) := bI_c ⟨fun z => nxB_in hc (nI_le' (by omega) (by omega) z.1) (nI_le' (by omega) (by omega) z.2), fun z => by obtain ⟨d, h1, h2, h3⟩ := nxB_of z; rw [hc] at h1; cases h1; exact ⟨nI_le h2 (by omega), nI_le h3 (by omega)⟩⟩
    refine x_aload_n d_Mo_isNext_11 rfl ?_
    refine x_getR hM.f0 rfl fs_Mo_25 d_Mo_isNext_12 ?_
    refine x_aload_n d_Mo_isNext_15 rfl ?_
    refine x_getI hM.f0 rfl fs_Mo_132 d_Mo_isNext_16 ?_
    rw [hp]
    refine x_iald hM.f6 (vp_in_nI (by omega) (by omega)) d_Mo_isNext_19 ?_
    rw [nI_clamp (by omega), e1]
    refine x_iload_n d_Mo_isNext_20 rfl ?_
    refine x_iload_n d_Mo_isNext_21 rfl ?_
    refine x_s3p d_Mo_isNext_22 ml_Mo_35 v_Mo_in rfl ⟨rfl, rfl⟩ rfl (Nat.le_of_ble_eq_true rfl) (ct_Mo_in) ?_
    rw [hx]
    refine x_if_eq (tgt := 32) d_Mo_isNext_25 (by decide) (fun c25 => ?_) (fun c25 => ?_)
    · rw [bI_f (bI_0.mp c25)]
      refine x_iconst (v := nI 0) d_Mo_isNext_32 (by decide) ?_
      refine x_iret rfl (by decide) d_Mo_isNext_33 (Nat.zero_le _) (Nat.zero_le _) ?_
      exact ⟨rfl, rfl, rfl, rfl⟩
    · rw [bI_t (bI_n.mp c25)]
      refine x_iconst (v := nI 1) d_Mo_isNext_28 (by decide) ?_
      refine x_goto (tgt := 33) d_Mo_isNext_29 (by decide) ?_
      refine x_iret rfl (by decide) d_Mo_isNext_33 (Nat.zero_le _) (Nat.zero_le _) ?_
      exact ⟨rfl, rfl, rfl, rfl⟩
theorem ct_Mo_sign (hM : LayMo sh μ) (ht : MTxt mem μ T) {p c : Nat} (hp : mem μ 7 = nI p) (hpl : p ≤ T.length) (hc : c < 65536) : Ct l g M_Mo_sign [rf g μ, .int (nI c)] none sh mem (Ri none sh (fun x m => (T[p]? = some c ∧ x = nI 1 ∧ m = um mem μ 7 (nI (p + 1))) ∨ (¬ T[p]? = some c ∧ x = nI 0 ∧ m = um mem μ 7 (nI p)))) := by
  refine x_begin rfl rfl rfl (by decide) rfl ?_
  refine x_aload_n d_Mo_sign_0 rfl ?_
  refine x_iload_n d_Mo_sign_1 rfl ?_
  refine x_iload_n d_Mo_sign_2 rfl ?_
  refine x_v2p d_Mo_sign_3 ml_Mo_178 v_Mo_isNext rfl ⟨rfl, rfl⟩ hM.io (Nat.le_of_ble_eq_true rfl) (ct_Mo_isNext hM ht hp hpl hc hc) ?_
  refine x_istore_n d_Mo_sign_6 (by decide) ?_
  refine x_aload_n d_Mo_sign_7 rfl ?_
  refine x_dup d_Mo_sign_8 rfl ?_
  refine x_getI hM.f0 rfl fs_Mo_132 d_Mo_sign_9 ?_
  rw [hp]
  refine x_iload_n d_Mo_sign_12 rfl ?_
  refine x_if_eq (tgt := 20) d_Mo_sign_13 (by decide) (fun c13 => ?_) (fun c13 => ?_)
  · have h0 := bI_0.mp c13
    rw [bI_f h0]
    refine x_iconst (v := nI 0) d_Mo_sign_20 (by decide) ?_
    refine x_iadd d_Mo_sign_21 ?_
    rw [nI_add]
    refine x_putI hM.f0 rfl ps_Mo_132 rfl rfl d_Mo_sign_22 ?_
    refine x_iload_n d_Mo_sign_25 rfl ?_
    refine x_iret rfl (by decide) d_Mo_sign_26 (Nat.zero_le _) (Nat.zero_le _) ?_
    exact ⟨_, rfl, rfl, rfl, Or.inr ⟨fun z => h0 (nxB_eq.mpr z), rfl, rfl⟩⟩
  · have h0 := bI_n.mp c13
    rw [bI_t h0]
    refine x_iconst (v := nI 1) d_Mo_sign_16 (by decide) ?_
    refine x_goto (tgt := 21) d_Mo_sign_17 (by decide) ?_
    refine x_iadd d_Mo_sign_21 ?_
    rw [nI_add]
    refine x_putI hM.f0 rfl ps_Mo_132 rfl rfl d_Mo_sign_22 ?_
    refine x_iload_n d_Mo_sign_25 rfl ?_
    refine x_iret rfl (by decide) d_Mo_sign_26 (Nat.zero_le _) (Nat.zero_le _) ?_
    exact ⟨_, rfl, rfl, rfl, Or.inl ⟨nxB_eq.mp h0, rfl, rfl⟩⟩
theorem ct_Mo_size (hM : LayMo sh μ) (ht : MTxt mem μ T) {p a : Nat} (hp : mem μ 7 = nI p) (hpl : p ≤ T.length) (ha : a < 8) : Ct l g M_Mo_size [rf g μ, .int (nI a)] none sh mem (Ri none sh (SZP μ mem T p a)) := by
  obtain ⟨t1, t2, t3⟩ := id ht
  refine x_begin rfl rfl rfl (by decide) rfl ?_
  refine x_aload_n d_Mo_size_0 rfl ?_
  refine x_bipush (v := nI 49) d_Mo_size_1 (by decide) ?_
  refine x_bipush (v := nI 57) d_Mo_size_3 (by decide) ?_
  refine x_v2p d_Mo_size_5 ml_Mo_178 v_Mo_isNext rfl ⟨rfl, rfl⟩ hM.io (Nat.le_of_ble_eq_true rfl) (ct_Mo_isNext hM ht hp hpl (by omega) (by omega)) ?_
  refine x_if_ne (tgt := 13) d_Mo_size_8 (by decide) (fun c8 => ?_) (fun c8 => ?_)
  · obtain ⟨c, hc, hc1, hc2⟩ := nxB_of (bI_n.mp c8)
    have hpl2 : p < T.length := (List.getElem?_eq_some_iff.mp hc).1
    obtain ⟨e1, e2⟩ := t3 p c hc
    have hd0 : digS 0 c = some (c - 48) := (if_pos (by omega)).trans (by rw [Nat.zero_mul, Nat.zero_add])
    refine x_aload_n d_Mo_size_13 rfl ?_
    refine x_getR hM.f0 rfl fs_Mo_25 d_Mo_size_14 ?_
    refine x_aload_n d_Mo_size_17 rfl ?_
    refine x_getI hM.f0 rfl fs_Mo_132 d_Mo_size_18 ?_
    rw [hp]
    refine x_iald hM.f6 (vp_in_nI (by omega) (by omega)) d_Mo_size_21 ?_
    rw [nI_clamp (by omega), e1]
    refine x_bipush (v := nI 48) d_Mo_size_22 (by decide) ?_
    refine x_isub d_Mo_size_24 ?_
    rw [pk_sub (by omega)]
    refine x_istore_n d_Mo_size_25 (by decide) ?_
    refine x_aload_n d_Mo_size_26 rfl ?_
    refine x_dup d_Mo_size_27 rfl ?_
    refine x_getI hM.f0 rfl fs_Mo_132 d_Mo_size_28 ?_
    rw [hp]
    refine x_iconst (v := nI 1) d_Mo_size_31 (by decide) ?_
    refine x_iadd d_Mo_size_32 ?_
    rw [nI_add]
    refine x_putI hM.f0 rfl ps_Mo_132 rfl rfl d_Mo_size_33 ?_
    refine up_ind T.length (P := fun q => ∀ (m : Mem) (v : Nat), p < q → (1 ≤ v ∧ v ≤ 60) → (∀ o, o ≠ μ → m o = mem o) → (∀ k, k ≠ 7 → m μ k = mem μ k) → m μ 7 = nI q → (∀ st f cur done, st ≤ 1 → goP T p (st, 0, f, cur, done) = goP T q (st, v, f, cur, done)) → X l g M_Mo_size (XF g (Ri none sh (SZP μ mem T p a)) M_Mo_size) 36 [some (rf g μ), some (.int (nI a)), some (.int (nI v))] [] none sh m 0 0) (fun q hq ih m v hpq hv hm1 hm2 hm3 hg => ?_) (p + 1) (by omega) _ (c - 48) (by omega) (by omega) (fun o ho => um_ne _ _ _ ho) (fun k hk => um_k _ _ hk) (um_eq _ _ _ _) (fun st f cur done hst => goP_dig hc hst hd0)
    have hT : TX μ mem m := ⟨fun o h1 h2 => hm1 o h1, hm2⟩
    have ht' := hT.txt ht
    refine x_aload_n d_Mo_size_36 rfl ?_
    refine x_bipush (v := nI 48) d_Mo_size_37 (by decide) ?_
    refine x_bipush (v := nI 57) d_Mo_size_39 (by decide) ?_
    refine x_v2p d_Mo_size_41 ml_Mo_178 v_Mo_isNext rfl ⟨rfl, rfl⟩ hM.io (Nat.le_of_ble_eq_true rfl) (ct_Mo_isNext hM ht' hm3 hq (by omega) (by omega)) ?_
    refine x_if_eq (tgt := 100) d_Mo_size_44 (by decide) (fun c44 => ?_) (fun c44 => ?_)
    · have h0 := bI_0.mp c44
      have hd : ∀ c, T[q]? = some c → digS v c = none := fun c hc => if_neg (fun z => h0 (nxB_in hc z.1.1 z.1.2))
      refine x_aload_n d_Mo_size_100 rfl ?_
      refine x_getR hM.f0 rfl fs_Mo_28 d_Mo_size_101 ?_
      refine x_iload_n d_Mo_size_104 rfl ?_
      refine x_iload_n d_Mo_size_105 rfl ?_
      refine x_iast hM.f7 (vp_in_nI (by omega) (by omega)) d_Mo_size_106 ?_
      rw [nI_clamp (by omega)]
      refine x_iconst (v := nI 1) d_Mo_size_107 (by decide) ?_
      refine x_iret rfl (by decide) d_Mo_size_108 (Nat.zero_le _) (Nat.zero_le _) ?_
      exact ⟨_, rfl, rfl, rfl, hT.tr TX.rd, Or.inr ⟨q, v, rfl, hpq, hq, hv, by rw [um_ne _ _ _ (by omega)]; exact hm3, ⟨um_eq _ _ _ _, fun w hw => by rw [um_k _ _ hw, hm1 _ (by omega)]⟩, hd, hg⟩⟩
    · obtain ⟨d, hd, hd1, hd2⟩ := nxB_of (bI_n.mp c44)
      obtain ⟨e3, e4⟩ := ht'.2.2 q d hd
      have hql : q < T.length := (List.getElem?_eq_some_iff.mp hd).1
      refine x_bipush (v := nI 10) d_Mo_size_47 (by decide) ?_
      refine x_iload_n d_Mo_size_49 rfl ?_
      refine x_imul d_Mo_size_50 ?_
      rw [pk_mul]
      refine x_aload_n d_Mo_size_51 rfl ?_
      refine x_getR hM.f0 rfl fs_Mo_25 d_Mo_size_52 ?_
      refine x_aload_n d_Mo_size_55 rfl ?_
      refine x_getI hM.f0 rfl fs_Mo_132 d_Mo_size_56 ?_
      rw [hm3]
      refine x_iald hM.f6 (vp_in_nI (by omega) (by omega)) d_Mo_size_59 ?_
      rw [nI_clamp (by omega), e3]
      refine x_iadd d_Mo_size_60 ?_
      rw [nI_add]
      refine x_bipush (v := nI 48) d_Mo_size_61 (by decide) ?_
      refine x_isub d_Mo_size_63 ?_
      rw [pk_sub (by omega)]
      refine x_bipush (v := nI 60) d_Mo_size_64 (by decide) ?_
      refine x_icmp_gt (tgt := 100) d_Mo_size_66 (by decide) (fun c66 => ?_) (fun c66 => ?_)
      · have c66 := nI_lt' (by omega) (by omega) c66
        have hd : ∀ c, T[q]? = some c → digS v c = none := fun x hx => by rw [hd] at hx; cases hx; exact if_neg (by omega)
        refine x_aload_n d_Mo_size_100 rfl ?_
        refine x_getR hM.f0 rfl fs_Mo_28 d_Mo_size_101 ?_
        refine x_iload_n d_Mo_size_104 rfl ?_
        refine x_iload_n d_Mo_size_105 rfl ?_
        refine x_iast hM.f7 (vp_in_nI (by omega) (by omega)) d_Mo_size_106 ?_
        rw [nI_clamp (by omega)]
        refine x_iconst (v := nI 1) d_Mo_size_107 (by decide) ?_
        refine x_iret rfl (by decide) d_Mo_size_108 (Nat.zero_le _) (Nat.zero_le _) ?_
        exact ⟨_, rfl, rfl, rfl, hT.tr TX.rd, Or.inr ⟨q, v, rfl, hpq, hq, hv, by rw [um_ne _ _ _ (by omega)]; exact hm3, ⟨um_eq _ _ _ _, fun w hw => by rw [um_k _ _ hw, hm1 _ (by omega)]⟩, hd, hg⟩⟩
      · have c66 := nI_nlt' (by omega) (by omega) c66
        have hd9 : digS v d = some (10 * v + d - 48) := (if_pos (by omega)).trans (by rw [Nat.mul_comm])
        refine x_bipush (v := nI 10) d_Mo_size_69 (by decide) ?_
        refine x_iload_n d_Mo_size_71 rfl ?_
        refine x_imul d_Mo_size_72 ?_
        rw [pk_mul]
        refine x_aload_n d_Mo_size_73 rfl ?_
        refine x_getR hM.f0 rfl fs_Mo_25 d_Mo_size_74 ?_
        refine x_aload_n d_Mo_size_77 rfl ?_
        refine x_getI hM.f0 rfl fs_Mo_132 d_Mo_size_78 ?_
        rw [hm3]
        refine x_iald hM.f6 (vp_in_nI (by omega) (by omega)) d_Mo_size_81 ?_
        rw [nI_clamp (by omega), e3]
        refine x_iadd d_Mo_size_82 ?_
        rw [nI_add]
        refine x_bipush (v := nI 48) d_Mo_size_83 (by decide) ?_
        refine x_isub d_Mo_size_85 ?_
        rw [pk_sub (by omega)]
        refine x_istore_n d_Mo_size_86 (by decide) ?_
        refine x_aload_n d_Mo_size_87 rfl ?_
        refine x_dup d_Mo_size_88 rfl ?_
        refine x_getI hM.f0 rfl fs_Mo_132 d_Mo_size_89 ?_
        rw [hm3]
        refine x_iconst (v := nI 1) d_Mo_size_92 (by decide) ?_
        refine x_iadd d_Mo_size_93 ?_
        rw [nI_add]
        refine x_putI hM.f0 rfl ps_Mo_132 rfl rfl d_Mo_size_94 ?_
        refine x_goto (tgt := 36) d_Mo_size_97 (by decide) ?_
        exact ih hql _ _ (by omega) (by omega) (fun o ho => by rw [um_ne _ _ _ ho]; exact hm1 o ho) (fun k hk => by rw [um_k _ _ hk]; exact hm2 k hk) (um_eq _ _ _ _) (fun st f cur done hst => (hg st f cur done hst).trans (goP_dig hd hst hd9))
  · have h0 := bI_0.mp c8
    refine x_iconst (v := nI 0) d_Mo_size_11 (by decide) ?_
    refine x_iret rfl (by decide) d_Mo_size_12 (Nat.zero_le _) (Nat.zero_le _) ?_
    exact ⟨_, rfl, rfl, rfl, TX.rf, Or.inl ⟨rfl, rfl, fun st f cur done hst => goP_no hpl h0 hst⟩⟩
end
