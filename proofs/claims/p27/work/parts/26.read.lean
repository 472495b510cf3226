/-! RoomText.takes, RoomText.read -/
def TF (τ : Nat) (mem m : Mem) : Prop := (∀ o, o ≠ τ → (o < τ + 3 ∨ τ + 22 ≤ o) → m o = mem o) ∧ m τ 1 = mem τ 1
theorem TF.tr {τ : Nat} {m1 m2 m3 : Mem} (h : TF τ m1 m2) (k : TF τ m2 m3) : TF τ m1 m3 := ⟨fun o h1 h2 => (k.1 o h1 h2).trans (h.1 o h1 h2), k.2.trans h.2⟩
theorem TF.te {τ : Nat} {m1 m2 : Mem} {txt : List Nat} (h : TF τ m1 m2) (k : TeRep m1 τ txt) : TeRep m2 τ txt := ⟨k.1, by rw [h.2]; exact k.2.1, fun i c hi => by rw [h.1 _ (by omega) (by omega)]; exact k.2.2 i c hi⟩
theorem CurRep.mv {mem m : Mem} {φ D : Nat} {cur : List (Nat × Nat)} (h : CurRep mem φ D cur) (h2 : m (φ + 2) D = mem (φ + 2) D) (h4 : ∀ k, k < cur.length → m (φ + 4) (D * 3 + k) = mem (φ + 4) (D * 3 + k) ∧ m (φ + 6) (D * 3 + k) = mem (φ + 6) (D * 3 + k)) : CurRep m φ D cur := ⟨by rw [h2]; exact h.1, fun k p hk => by
  have hkl := (List.getElem?_eq_some_iff.mp hk).1
  rw [(h4 k hkl).1, (h4 k hkl).2]
  exact h.2 k p hk⟩
theorem FoundRep.all {mem m : Mem} {φ : Nat} {L : List RoomS} (h : FoundRep mem φ L) (hm : ∀ o, φ ≤ o → o < φ + 19 → m o = mem o) : FoundRep m φ L := ⟨by rw [hm _ (by omega) (by omega)]; exact h.1, fun j rs hj => ⟨⟨by rw [hm _ (by omega) (by omega)]; exact (h.2 j rs hj).1.1, fun k p hk => by rw [hm _ (by omega) (by omega), hm _ (by omega) (by omega)]; exact (h.2 j rs hj).1.2 k p hk⟩, by rw [hm _ (by omega) (by omega)]; exact (h.2 j rs hj).2⟩⟩
def readI (p : Nat ⊕ List RoomS) : Int32 := match p with
  | .inl i => nI i
  | .inr _ => -5
section
variable {l : Launch} {g : XG} {sh : Nat → Sh} {mem : Mem} {τ : Nat}
theorem ct_Te_takes (hT : LayTe sh τ) {s : PS5} {i c : Nat} (hp : PRep mem τ s) (ho : PsOk s i) (hi : i < 60) (hc : c < 65536) : Ct l g M_Te_takes [rf g τ, .int (nI c)] none sh mem (Ri none sh (fun x m => (stepP s c = none ∧ x = nI 0 ∧ m = mem) ∨ ∃ s', stepP s c = some s' ∧ x = nI 1 ∧ PRep m τ s' ∧ TF τ mem m)) := by
  have hD10 := ho.few (by omega)
  obtain ⟨st, n, f, cur, done⟩ := s
  obtain ⟨p1, p2, p3, p4, p5⟩ := hp
  obtain ⟨h1, h2, h3, h4, h5, h6, h7, h8⟩ := ho
  dsimp only at p1 p2 p3 p4 p5 h1 h2 h3 h4 h5 h6 h7 hD10
  have hD := p4.1
  have h7' : ∀ rs ∈ done, rs.1.length ≤ 3 := fun rs hrs => (h7 rs hrs).1.2
  refine x_begin rfl rfl rfl (by decide) rfl ?_
  refine x_aload_n d_Te_takes_0 rfl ?_
  refine x_getI hT.f0 rfl fs_Te_49 d_Te_takes_1 ?_
  rw [p1]
  rcases (show st = 0 ∨ st = 1 ∨ st = 2 ∨ st = 3 by omega) with rfl | rfl | rfl | rfl
  · refine x_tableIn (off := 28) (tgt := 32) d_Te_takes_4 (by decide) (by decide) (by decide) (by decide) ?_
    have hs := stepP0 n f c cur done
    have p5 := p5 (by omega)
    refine x_aload_n d_Te_takes_32 rfl ?_
    refine x_iload_n d_Te_takes_33 rfl ?_
    refine x_v1i d_Te_takes_34 ml_Te_58 v_Te_takesDigit rfl ⟨rfl, rfl⟩ hT.io (Nat.le_of_ble_eq_true rfl) (ct_Te_takesDigit hT p2 h2 hc) (fun r34 mem34 h34 => ?_)
    refine x_if_ne (tgt := 48) d_Te_takes_37 (by decide) (fun c37 => ?_) (fun c37 => ?_)
    · rcases h34 with ⟨q1, q2, q3⟩ | ⟨n', q1, q2, q3⟩
      · rw [q2] at c37
        exact absurd rfl c37
      · rw [q1] at hs
        refine x_iconst (v := nI 1) d_Te_takes_48 (by decide) ?_
        refine x_goto (tgt := 53) d_Te_takes_49 (by decide) ?_
        refine x_iret rfl (by decide) d_Te_takes_53 (Nat.zero_le _) (Nat.zero_le _) ?_
        exact ⟨_, rfl, rfl, rfl, Or.inr ⟨_, hs, rfl, by subst q3; exact ⟨by rw [um_k _ _ (by omega)]; exact p1, um_eq _ _ _ _, fun z => absurd z (by dsimp only; omega), p4.all (fun o h1 h2 => um_ne _ _ _ (by omega)), fun _ => p5.mv (um_o _ _ (by omega)) (fun k hk => ⟨um_o _ _ (by omega), um_o _ _ (by omega)⟩)⟩, by subst q3; exact ⟨fun o h1 h2 => um_ne _ _ _ h1, um_k _ _ (by omega)⟩⟩⟩
    · rcases h34 with ⟨q1, q2, q3⟩ | ⟨n', q1, q2, q3⟩
      · rw [q1] at hs
        subst q3
        refine x_aload_n d_Te_takes_40 rfl ?_
        refine x_iload_n d_Te_takes_41 rfl ?_
        refine x_v1i d_Te_takes_42 ml_Te_61 v_Te_takesBetweenSizes rfl ⟨rfl, rfl⟩ hT.io (Nat.le_of_ble_eq_true rfl) (ct_Te_takesBetweenSizes hT p2 h2 hc) (fun r42 mem42 h42 => ?_)
        refine x_if_eq (tgt := 52) d_Te_takes_45 (by decide) (fun c45 => ?_) (fun c45 => ?_)
        · rcases h42 with ⟨z1, z2, z3⟩ | ⟨z1, z2, z3⟩
          · dsimp only at hs
            rw [if_neg z1] at hs
            refine x_iconst (v := nI 0) d_Te_takes_52 (by decide) ?_
            refine x_iret rfl (by decide) d_Te_takes_53 (Nat.zero_le _) (Nat.zero_le _) ?_
            exact ⟨_, rfl, rfl, rfl, Or.inl ⟨hs, rfl, z3⟩⟩
          · rw [z2] at c45
            exact absurd c45 (by decide)
        · rcases h42 with ⟨z1, z2, z3⟩ | ⟨z1, z2, z3⟩
          · rw [z2] at c45
            exact absurd rfl c45
          · dsimp only at hs
            rw [if_pos z1] at hs
            refine x_iconst (v := nI 1) d_Te_takes_48 (by decide) ?_
            refine x_goto (tgt := 53) d_Te_takes_49 (by decide) ?_
            refine x_iret rfl (by decide) d_Te_takes_53 (Nat.zero_le _) (Nat.zero_le _) ?_
            exact ⟨_, rfl, rfl, rfl, Or.inr ⟨_, hs, rfl, by subst z3; exact ⟨um_eq _ _ _ _, by rw [um_k _ _ (by omega), um_eq], fun _ => by rw [um_k _ _ (by omega), um_k _ _ (by omega), um_eq], p4.all (fun o h1 h2 => by rw [um_ne _ _ _ (by omega), um_ne _ _ _ (by omega), um_ne _ _ _ (by omega)]), fun _ => p5.mv (by rw [um_o _ _ (by omega), um_o _ _ (by omega), um_o _ _ (by omega)]) (fun k hk => ⟨by rw [um_o _ _ (by omega), um_o _ _ (by omega), um_o _ _ (by omega)], by rw [um_o _ _ (by omega), um_o _ _ (by omega), um_o _ _ (by omega)]⟩)⟩, by subst z3; exact ⟨fun o h1 h2 => by rw [um_ne _ _ _ h1, um_ne _ _ _ h1, um_ne _ _ _ h1], by rw [um_k _ _ (by omega), um_k _ _ (by omega), um_k _ _ (by omega)]⟩⟩⟩
      · rw [q2] at c37
        exact absurd c37 (by decide)
  · refine x_tableIn (off := 50) (tgt := 54) d_Te_takes_4 (by decide) (by decide) (by decide) (by decide) ?_
    have hs := stepP1 n f c cur done
    have p5 := p5 (by omega)
    have p3 := p3 rfl
    have h5 := h5 (by omega)
    refine x_aload_n d_Te_takes_54 rfl ?_
    refine x_iload_n d_Te_takes_55 rfl ?_
    refine x_v1i d_Te_takes_56 ml_Te_58 v_Te_takesDigit rfl ⟨rfl, rfl⟩ hT.io (Nat.le_of_ble_eq_true rfl) (ct_Te_takesDigit hT p2 h2 hc) (fun r56 mem56 h56 => ?_)
    refine x_if_ne (tgt := 70) d_Te_takes_59 (by decide) (fun c59 => ?_) (fun c59 => ?_)
    · rcases h56 with ⟨q1, q2, q3⟩ | ⟨n', q1, q2, q3⟩
      · rw [q2] at c59
        exact absurd rfl c59
      · rw [q1] at hs
        refine x_iconst (v := nI 1) d_Te_takes_70 (by decide) ?_
        refine x_goto (tgt := 75) d_Te_takes_71 (by decide) ?_
        refine x_iret rfl (by decide) d_Te_takes_75 (Nat.zero_le _) (Nat.zero_le _) ?_
        exact ⟨_, rfl, rfl, rfl, Or.inr ⟨_, hs, rfl, by subst q3; exact ⟨by rw [um_k _ _ (by omega)]; exact p1, um_eq _ _ _ _, fun _ => by rw [um_k _ _ (by omega)]; exact p3, p4.all (fun o h1 h2 => um_ne _ _ _ (by omega)), fun _ => p5.mv (um_o _ _ (by omega)) (fun k hk => ⟨um_o _ _ (by omega), um_o _ _ (by omega)⟩)⟩, by subst q3; exact ⟨fun o h1 h2 => um_ne _ _ _ h1, um_k _ _ (by omega)⟩⟩⟩
    · rcases h56 with ⟨q1, q2, q3⟩ | ⟨n', q1, q2, q3⟩
      · rw [q1] at hs
        subst q3
        refine x_aload_n d_Te_takes_62 rfl ?_
        refine x_iload_n d_Te_takes_63 rfl ?_
        refine x_v1i d_Te_takes_64 ml_Te_64 v_Te_takesBehindSizes rfl ⟨rfl, rfl⟩ hT.io (Nat.le_of_ble_eq_true rfl) (ct_Te_takesBehindSizes hT p2 h2 p3 hc hD (by omega) p5.1 h5) (fun r64 mem64 h64 => ?_)
        refine x_if_eq (tgt := 74) d_Te_takes_67 (by decide) (fun c67 => ?_) (fun c67 => ?_)
        · rcases h64 with ⟨z1, z2, z3⟩ | ⟨z1, z2, z3⟩
          · dsimp only at hs
            rw [if_pos z1] at hs
            refine x_iconst (v := nI 0) d_Te_takes_74 (by decide) ?_
            refine x_iret rfl (by decide) d_Te_takes_75 (Nat.zero_le _) (Nat.zero_le _) ?_
            exact ⟨_, rfl, rfl, rfl, Or.inl ⟨hs, rfl, z3⟩⟩
          · rw [z2] at c67
            exact absurd c67 (by decide)
        · rcases h64 with ⟨z1, z2, z3⟩ | ⟨z1, z2, z3⟩
          · rw [z2] at c67
            exact absurd rfl c67
          · dsimp only at hs
            rw [if_neg z1] at hs
            refine x_iconst (v := nI 1) d_Te_takes_70 (by decide) ?_
            refine x_goto (tgt := 75) d_Te_takes_71 (by decide) ?_
            refine x_iret rfl (by decide) d_Te_takes_75 (Nat.zero_le _) (Nat.zero_le _) ?_
            refine ⟨_, rfl, rfl, rfl, Or.inr ⟨_, hs, rfl, ?_, ?_⟩⟩
            · subst z3
              refine ⟨um_eq _ _ _ _, by rw [um_k _ _ (by omega), um_eq], fun z => ?_, ?_, fun _ => ⟨?_, fun k p hk => ?_⟩⟩
              · dsimp only at z
                split at z <;> cases z
              · refine p4.mv h7' ?_ (fun j hj => ⟨?_, ?_⟩) (fun j hj => ⟨?_, ?_⟩)
                · rw [um_o _ _ (by omega), um_o _ _ (by omega), um_o _ _ (by omega), um_o _ _ (by omega), um_o _ _ (by omega)]
                · rw [um_o _ _ (by omega), um_o _ _ (by omega), um_k _ _ (by omega), um_o _ _ (by omega), um_o _ _ (by omega)]
                · rw [um_o _ _ (by omega), um_o _ _ (by omega), um_o _ _ (by omega), um_o _ _ (by omega), um_o _ _ (by omega)]
                · rw [um_o _ _ (by omega), um_o _ _ (by omega), um_o _ _ (by omega), um_o _ _ (by omega), um_k _ _ (by omega)]
                · rw [um_o _ _ (by omega), um_o _ _ (by omega), um_o _ _ (by omega), um_k _ _ (by omega), um_o _ _ (by omega)]
              · dsimp only
                rw [um_o _ _ (by omega), um_o _ _ (by omega), um_eq, List.length_append, List.length_singleton]
              · dsimp only at hk ⊢
                by_cases hkl : k < cur.length
                · rw [List.getElem?_append_left hkl] at hk
                  have h9 := p5.2 k p hk
                  rw [um_o _ _ (by omega), um_o _ _ (by omega), um_o _ _ (by omega), um_o _ _ (by omega), um_k _ _ (by omega), um_o _ _ (by omega), um_o _ _ (by omega), um_o _ _ (by omega), um_k _ _ (by omega), um_o _ _ (by omega)]
                  exact h9
                · have hk2 : k = cur.length := by
                    have := (List.getElem?_eq_some_iff.mp hk).1
                    rw [List.length_append, List.length_singleton] at this
                    omega
                  subst hk2
                  rw [List.getElem?_append_right (Nat.le_refl _), Nat.sub_self] at hk
                  cases hk
                  exact ⟨by rw [um_o _ _ (by omega), um_o _ _ (by omega), um_o _ _ (by omega), um_o _ _ (by omega), um_eq], by rw [um_o _ _ (by omega), um_o _ _ (by omega), um_o _ _ (by omega), um_eq]⟩
            · subst z3
              exact ⟨fun o h1 h2 => by rw [um_ne _ _ _ h1, um_ne _ _ _ h1, um_ne _ _ _ (by omega), um_ne _ _ _ (by omega), um_ne _ _ _ (by omega)], by rw [um_k _ _ (by omega), um_k _ _ (by omega), um_o _ _ (by omega), um_o _ _ (by omega), um_o _ _ (by omega)]⟩
      · rw [q2] at c59
        exact absurd c59 (by decide)
  · refine x_tableIn (off := 72) (tgt := 76) d_Te_takes_4 (by decide) (by decide) (by decide) (by decide) ?_
    have hs := stepP2 n f c cur done
    have p5 := p5 (by omega)
    have h6 := h6 rfl
    refine x_aload_n d_Te_takes_76 rfl ?_
    refine x_iload_n d_Te_takes_77 rfl ?_
    refine x_v1i d_Te_takes_78 ml_Te_67 v_Te_takesLight rfl ⟨rfl, rfl⟩ hT.io (Nat.le_of_ble_eq_true rfl) (ct_Te_takesLight hT hc hD (by omega)) (fun r78 mem78 h78 => ?_)
    refine x_iret rfl (by rcases h78 with ⟨-, h, -⟩ | ⟨-, h, -⟩ <;> rw [h] <;> decide) d_Te_takes_81 (Nat.zero_le _) (Nat.zero_le _) ?_
    rcases h78 with ⟨z1, z2, z3⟩ | ⟨z1, z2, z3⟩
    · rw [if_neg z1] at hs
      exact ⟨_, rfl, rfl, rfl, Or.inl ⟨hs, z2, z3⟩⟩
    · rw [if_pos z1] at hs
      refine ⟨_, rfl, rfl, rfl, Or.inr ⟨_, hs, z2, ?_, ?_⟩⟩
      · subst z3
        refine ⟨um_eq _ _ _ _, by rw [um_k _ _ (by omega), um_o _ _ (by omega), um_o _ _ (by omega)]; exact p2, fun z => absurd z (by dsimp only; omega), ⟨?_, fun j rs hj => ?_⟩, fun z => absurd z (by dsimp only; omega)⟩
        · dsimp only
          rw [um_o _ _ (by omega), um_eq, List.length_append, List.length_singleton]
        · dsimp only at hj
          by_cases hjl : j < done.length
          · rw [List.getElem?_append_left hjl] at hj
            obtain ⟨e1, e2⟩ := p4.2 j rs hj
            refine ⟨e1.mv (by rw [um_o _ _ (by omega), um_o _ _ (by omega), um_o _ _ (by omega)]) (fun k hk => ⟨by rw [um_o _ _ (by omega), um_o _ _ (by omega), um_o _ _ (by omega)], by rw [um_o _ _ (by omega), um_o _ _ (by omega), um_o _ _ (by omega)]⟩), by rw [um_o _ _ (by omega), um_o _ _ (by omega), um_k _ _ (by omega)]; exact e2⟩
          · have hj2 : j = done.length := by
              have := (List.getElem?_eq_some_iff.mp hj).1
              rw [List.length_append, List.length_singleton] at this
              omega
            subst hj2
            rw [List.getElem?_append_right (Nat.le_refl _), Nat.sub_self] at hj
            cases hj
            refine ⟨p5.mv (by rw [um_o _ _ (by omega), um_o _ _ (by omega), um_o _ _ (by omega)]) (fun k hk => ⟨by rw [um_o _ _ (by omega), um_o _ _ (by omega), um_o _ _ (by omega)], by rw [um_o _ _ (by omega), um_o _ _ (by omega), um_o _ _ (by omega)]⟩), by rw [um_o _ _ (by omega), um_o _ _ (by omega), um_eq]⟩
      · subst z3
        exact ⟨fun o h1 h2 => by rw [um_ne _ _ _ h1, um_ne _ _ _ (by omega), um_ne _ _ _ (by omega)], by rw [um_k _ _ (by omega), um_o _ _ (by omega), um_o _ _ (by omega)]⟩
  · refine x_tableOut (tgt := 82) d_Te_takes_4 (by decide) (by decide) ?_
    have hs := stepP3 n f c cur done
    refine x_aload_n d_Te_takes_82 rfl ?_
    refine x_iload_n d_Te_takes_83 rfl ?_
    refine x_v1i d_Te_takes_84 ml_Te_70 v_Te_takesBetweenRooms rfl ⟨rfl, rfl⟩ hT.io (Nat.le_of_ble_eq_true rfl) (ct_Te_takesBetweenRooms hT hc hD (by omega)) (fun r84 mem84 h84 => ?_)
    refine x_iret rfl (by rcases h84 with ⟨-, h, -⟩ | ⟨-, h, -⟩ <;> rw [h] <;> decide) d_Te_takes_87 (Nat.zero_le _) (Nat.zero_le _) ?_
    rcases h84 with ⟨z1, z2, z3⟩ | ⟨z1, z2, z3⟩
    · rw [if_neg z1] at hs
      exact ⟨_, rfl, rfl, rfl, Or.inl ⟨hs, z2, z3⟩⟩
    · rw [if_pos z1] at hs
      refine ⟨_, rfl, rfl, rfl, Or.inr ⟨_, hs, z2, ?_, ?_⟩⟩
      · subst z3
        refine ⟨by rw [um_k _ _ (by omega), um_eq], um_eq _ _ _ _, fun z => absurd z (by dsimp only; omega), ?_, fun _ => ⟨?_, fun k p hk => (by cases hk)⟩⟩
        · refine p4.mv h7' ?_ (fun j hj => ⟨?_, ?_⟩) (fun j hj => ⟨?_, ?_⟩)
          · rw [um_o _ _ (by omega), um_o _ _ (by omega), um_o _ _ (by omega), um_o _ _ (by omega)]
          · rw [um_o _ _ (by omega), um_o _ _ (by omega), um_o _ _ (by omega), um_k _ _ (by omega)]
          · rw [um_o _ _ (by omega), um_o _ _ (by omega), um_o _ _ (by omega), um_o _ _ (by omega)]
          · rw [um_o _ _ (by omega), um_o _ _ (by omega), um_o _ _ (by omega), um_o _ _ (by omega)]
          · rw [um_o _ _ (by omega), um_o _ _ (by omega), um_o _ _ (by omega), um_o _ _ (by omega)]
        · dsimp only
          rw [um_o _ _ (by omega), um_o _ _ (by omega), um_o _ _ (by omega), um_eq]
          rfl
      · subst z3
        exact ⟨fun o h1 h2 => by rw [um_ne _ _ _ h1, um_ne _ _ _ h1, um_ne _ _ _ (by omega), um_ne _ _ _ (by omega)], by rw [um_k _ _ (by omega), um_k _ _ (by omega), um_o _ _ (by omega), um_o _ _ (by omega)]⟩
theorem ct_Te_read (hT : LayTe sh τ) {txt : List Nat} (ht : TeRep mem τ txt) : Ct l g M_Te_read [rf g τ] none sh mem (Ri none sh (fun x m => TF τ mem m ∧ x = readI (parseP txt) ∧ (∀ i, parseP txt = .inl i → i ≤ 60) ∧ ∀ L, parseP txt = .inr L → FoundRep m (τ + 3) L ∧ L.length ≤ 10 ∧ ∀ rs ∈ L, RsOk rs)) := by
  have hlen := ht.1
  refine x_begin rfl rfl rfl (by decide) rfl ?_
  refine x_aload_n d_Te_read_0 rfl ?_
  refine x_getR hT.f0 rfl fs_Te_23 d_Te_read_1 ?_
  refine x_iconst (v := nI 0) d_Te_read_4 (by decide) ?_
  refine x_putI hT.s3.f0 rfl ps_Te_35 rfl rfl d_Te_read_5 ?_
  refine x_aload_n d_Te_read_8 rfl ?_
  refine x_v0v d_Te_read_9 ml_Te_38 v_Te_beginRoom rfl ⟨rfl, rfl⟩ hT.io (Nat.le_of_ble_eq_true rfl) (ct_Te_beginRoom hT (D := 0) (um_eq _ _ _ _) (by omega)) (fun _ hE => ?_)
  subst hE
  refine x_iconst (v := nI 0) d_Te_read_12 (by decide) ?_
  refine x_istore_n d_Te_read_13 (by decide) ?_
  refine up_ind txt.length (P := fun i => ∀ (m : Mem) (s : PS5), PRep m τ s → PsOk s i → runP txt 0 (0, 0, 0, [], []) = runP (txt.drop i) i s → TF τ mem m → X l g M_Te_read (XF g (Ri none sh (fun x m => TF τ mem m ∧ x = readI (parseP txt) ∧ (∀ i, parseP txt = .inl i → i ≤ 60) ∧ ∀ L, parseP txt = .inr L → FoundRep m (τ + 3) L ∧ L.length ≤ 10 ∧ ∀ rs ∈ L, RsOk rs)) M_Te_read) 14 [some (rf g τ), some (.int (nI i))] [] none sh m 0 0) (fun i hi ih m s hp ho hr hf => ?_) 0 (Nat.zero_le _) _ (0, 0, 0, [], []) ?_ ?_ rfl ?_
  · have hte := hf.te ht
    refine x_iload_n d_Te_read_14 rfl ?_
    refine x_aload_n d_Te_read_15 rfl ?_
    refine x_getI hT.f0 rfl fs_Te_27 d_Te_read_16 ?_
    rw [hte.2.1]
    refine x_icmp_ge (tgt := 45) d_Te_read_19 (by decide) (fun c19 => ?_) (fun c19 => ?_)
    · have hi2 : i = txt.length := by have := nI_le' (by omega) (by omega) c19; omega
      rw [hi2, List.drop_length] at hr
      have hpp : parseP txt = if s.1 = 3 then .inr s.2.2.2.2 else .inl txt.length := by
        unfold parseP
        rw [hr]
        rfl
      refine x_aload_n d_Te_read_45 rfl ?_
      refine x_getI hT.f0 rfl fs_Te_49 d_Te_read_46 ?_
      rw [hp.1]
      refine x_iconst (v := nI 3) d_Te_read_49 (by decide) ?_
      refine x_icmp_ne (tgt := 58) d_Te_read_50 (by decide) (fun c50 => ?_) (fun c50 => ?_)
      · have c50 := nI_ne' c50
        rw [if_neg c50] at hpp
        refine x_aload_n d_Te_read_58 rfl ?_
        refine x_getI hT.f0 rfl fs_Te_27 d_Te_read_59 ?_
        rw [hte.2.1]
        refine x_iret rfl rfl d_Te_read_62 (Nat.zero_le _) (Nat.zero_le _) ?_
        exact ⟨_, rfl, rfl, rfl, hf, by rw [hpp]; rfl, fun j hj => by rw [hpp] at hj; cases hj; omega, fun L hL => by rw [hpp] at hL; cases hL⟩
      · have c50 := nI_eq' (by have := ho.1; omega) (by omega) c50
        rw [if_pos c50] at hpp
        refine x_bipush (v := -5) d_Te_read_53 (by decide) ?_
        refine x_goto (tgt := 62) d_Te_read_55 (by decide) ?_
        refine x_iret rfl rfl d_Te_read_62 (Nat.zero_le _) (Nat.zero_le _) ?_
        exact ⟨_, rfl, rfl, rfl, hf, by rw [hpp]; rfl, fun j hj => (by rw [hpp] at hj; cases hj), fun L hL => by rw [hpp] at hL; cases hL; exact ⟨hp.2.2.2.1, ho.few (by omega), ho.2.2.2.2.2.2.1⟩⟩
    · have hi3 := nI_nle' (by omega) (by omega) c19
      have hch := hte.2.2 i _ (List.getElem?_eq_getElem hi3)
      rw [List.drop_eq_getElem_cons hi3, runP] at hr
      refine x_aload_n d_Te_read_22 rfl ?_
      refine x_aload_n d_Te_read_23 rfl ?_
      refine x_getR hT.f0 rfl fs_Te_14 d_Te_read_24 ?_
      refine x_iload_n d_Te_read_27 rfl ?_
      refine x_v1p d_Te_read_28 ml_Te_41 v_Rw_at rfl ⟨rfl, rfl⟩ (row_io hT.f1) (Nat.le_of_ble_eq_true rfl) (ct_Rw_at hT.f1 hT.f2 (by omega)) ?_
      rw [hch.1]
      refine x_v1i d_Te_read_31 ml_Te_45 v_Te_takes rfl ⟨rfl, rfl⟩ hT.io (Nat.le_of_ble_eq_true rfl) (ct_Te_takes hT hp ho (by omega) hch.2) (fun r31 mem31 h31 => ?_)
      refine x_if_ne (tgt := 39) d_Te_read_34 (by decide) (fun c34 => ?_) (fun c34 => ?_)
      · rcases h31 with ⟨q1, q2, q3⟩ | ⟨s', q1, q2, q3, q4⟩
        · rw [q2] at c34
          exact absurd rfl c34
        · rw [q1] at hr
          refine x_iinc d_Te_read_39 rfl (by first | exact inc1 _ | rfl) (by decide) ?_
          refine x_goto (tgt := 14) d_Te_read_42 (by decide) ?_
          exact ih hi3 mem31 s' q3 (ho.step q1) hr (hf.tr q4)
      · rcases h31 with ⟨q1, q2, q3⟩ | ⟨s', q1, q2, q3, q4⟩
        · rw [q1] at hr
          have hpp : parseP txt = .inl i := by
            unfold parseP
            rw [hr]
          subst q3
          refine x_iload_n d_Te_read_37 rfl ?_
          refine x_iret rfl rfl d_Te_read_38 (Nat.zero_le _) (Nat.zero_le _) ?_
          exact ⟨_, rfl, rfl, rfl, hf, by rw [hpp]; rfl, fun j hj => by rw [hpp] at hj; cases hj; omega, fun L hL => by rw [hpp] at hL; cases hL⟩
        · rw [q2] at c34
          exact absurd c34 (by decide)
  · refine ⟨by rw [um_k _ _ (by omega), um_eq], um_eq _ _ _ _, fun z => absurd z (by dsimp only; omega), ⟨?_, fun j rs hj => (by cases hj)⟩, fun _ => ⟨?_, fun k p hk => (by cases hk)⟩⟩
    · rw [um_o _ _ (by omega), um_o _ _ (by omega), um_o _ _ (by omega), um_o _ _ (by omega), um_eq]
      rfl
    · rw [um_o _ _ (by omega), um_o _ _ (by omega), um_o _ _ (by omega)]
      exact um_eq _ _ _ _
  · refine ⟨by dsimp only; omega, by dsimp only; omega, fun z => absurd z (by dsimp only; omega), fun p hp => (by cases hp), fun _ => by dsimp only; simp, fun z => absurd z (by dsimp only; omega), fun p hp => (by cases hp), fun _ => by simp, fun z => absurd z (by dsimp only; omega), fun z => absurd z (by dsimp only; omega), fun z => absurd z (by dsimp only; omega)⟩
  · exact ⟨fun o h1 h2 => by rw [um_ne _ _ _ h1, um_ne _ _ _ h1, um_ne _ _ _ (by omega), um_ne _ _ _ (by omega), um_ne _ _ _ (by omega)], by rw [um_k _ _ (by omega), um_k _ _ (by omega), um_o _ _ (by omega), um_o _ _ (by omega), um_o _ _ (by omega)]⟩
end
