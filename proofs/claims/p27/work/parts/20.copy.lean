/-! copies: cell by cell -/
theorem cpRo_in (mem : Mem) {a b : Nat} (hd : a + 17 ≤ b ∨ b + 17 ≤ a) : cpRo mem a b b 0 = mem a 0 ∧ (∀ j, j < 12 → cpRo mem a b (b + 2) j = mem (a + 2) j) ∧ (∀ j, j < 12 → cpRo mem a b (b + 4) j = mem (a + 4) j) ∧ (∀ j, j < 12 → cpRo mem a b (b + 6) j = mem (a + 6) j) ∧ (∀ j, j < 12 → cpRo mem a b (b + 8) j = mem (a + 8) j) ∧ (∀ j, j < 12 → cpRo mem a b (b + 10) j = mem (a + 10) j) ∧ (∀ j, j < 12 → cpRo mem a b (b + 12) j = mem (a + 12) j) ∧ (∀ j, j < 12 → cpRo mem a b (b + 14) j = mem (a + 14) j) ∧ (∀ j, j < 12 → cpRo mem a b (b + 16) j = mem (a + 16) j) := by
  unfold cpRo
  refine ⟨?_, fun j hj => ?_, fun j hj => ?_, fun j hj => ?_, fun j hj => ?_, fun j hj => ?_, fun j hj => ?_, fun j hj => ?_, fun j hj => ?_⟩
  · rw [cpm_o _ (show b ≠ b + 16 by omega), cpm_o _ (show b ≠ b + 14 by omega), cpm_o _ (show b ≠ b + 12 by omega), cpm_o _ (show b ≠ b + 10 by omega), cpm_o _ (show b ≠ b + 8 by omega), cpm_o _ (show b ≠ b + 6 by omega), cpm_o _ (show b ≠ b + 4 by omega), cpm_o _ (show b ≠ b + 2 by omega), um_eq]
  · rw [cpm_o _ (show b + 2 ≠ b + 16 by omega), cpm_o _ (show b + 2 ≠ b + 14 by omega), cpm_o _ (show b + 2 ≠ b + 12 by omega), cpm_o _ (show b + 2 ≠ b + 10 by omega), cpm_o _ (show b + 2 ≠ b + 8 by omega), cpm_o _ (show b + 2 ≠ b + 6 by omega), cpm_o _ (show b + 2 ≠ b + 4 by omega), cpm_in _ hj, um_o _ _ (show a + 2 ≠ b by omega)]
  · rw [cpm_o _ (show b + 4 ≠ b + 16 by omega), cpm_o _ (show b + 4 ≠ b + 14 by omega), cpm_o _ (show b + 4 ≠ b + 12 by omega), cpm_o _ (show b + 4 ≠ b + 10 by omega), cpm_o _ (show b + 4 ≠ b + 8 by omega), cpm_o _ (show b + 4 ≠ b + 6 by omega), cpm_in _ hj, cpm_o _ (show a + 4 ≠ b + 2 by omega), um_o _ _ (show a + 4 ≠ b by omega)]
  · rw [cpm_o _ (show b + 6 ≠ b + 16 by omega), cpm_o _ (show b + 6 ≠ b + 14 by omega), cpm_o _ (show b + 6 ≠ b + 12 by omega), cpm_o _ (show b + 6 ≠ b + 10 by omega), cpm_o _ (show b + 6 ≠ b + 8 by omega), cpm_in _ hj, cpm_o _ (show a + 6 ≠ b + 4 by omega), cpm_o _ (show a + 6 ≠ b + 2 by omega), um_o _ _ (show a + 6 ≠ b by omega)]
  · rw [cpm_o _ (show b + 8 ≠ b + 16 by omega), cpm_o _ (show b + 8 ≠ b + 14 by omega), cpm_o _ (show b + 8 ≠ b + 12 by omega), cpm_o _ (show b + 8 ≠ b + 10 by omega), cpm_in _ hj, cpm_o _ (show a + 8 ≠ b + 6 by omega), cpm_o _ (show a + 8 ≠ b + 4 by omega), cpm_o _ (show a + 8 ≠ b + 2 by omega), um_o _ _ (show a + 8 ≠ b by omega)]
  · rw [cpm_o _ (show b + 10 ≠ b + 16 by omega), cpm_o _ (show b + 10 ≠ b + 14 by omega), cpm_o _ (show b + 10 ≠ b + 12 by omega), cpm_in _ hj, cpm_o _ (show a + 10 ≠ b + 8 by omega), cpm_o _ (show a + 10 ≠ b + 6 by omega), cpm_o _ (show a + 10 ≠ b + 4 by omega), cpm_o _ (show a + 10 ≠ b + 2 by omega), um_o _ _ (show a + 10 ≠ b by omega)]
  · rw [cpm_o _ (show b + 12 ≠ b + 16 by omega), cpm_o _ (show b + 12 ≠ b + 14 by omega), cpm_in _ hj, cpm_o _ (show a + 12 ≠ b + 10 by omega), cpm_o _ (show a + 12 ≠ b + 8 by omega), cpm_o _ (show a + 12 ≠ b + 6 by omega), cpm_o _ (show a + 12 ≠ b + 4 by omega), cpm_o _ (show a + 12 ≠ b + 2 by omega), um_o _ _ (show a + 12 ≠ b by omega)]
  · rw [cpm_o _ (show b + 14 ≠ b + 16 by omega), cpm_in _ hj, cpm_o _ (show a + 14 ≠ b + 12 by omega), cpm_o _ (show a + 14 ≠ b + 10 by omega), cpm_o _ (show a + 14 ≠ b + 8 by omega), cpm_o _ (show a + 14 ≠ b + 6 by omega), cpm_o _ (show a + 14 ≠ b + 4 by omega), cpm_o _ (show a + 14 ≠ b + 2 by omega), um_o _ _ (show a + 14 ≠ b by omega)]
  · rw [cpm_in _ hj, cpm_o _ (show a + 16 ≠ b + 14 by omega), cpm_o _ (show a + 16 ≠ b + 12 by omega), cpm_o _ (show a + 16 ≠ b + 10 by omega), cpm_o _ (show a + 16 ≠ b + 8 by omega), cpm_o _ (show a + 16 ≠ b + 6 by omega), cpm_o _ (show a + 16 ≠ b + 4 by omega), cpm_o _ (show a + 16 ≠ b + 2 by omega), um_o _ _ (show a + 16 ≠ b by omega)]
theorem cpRo_fr (mem : Mem) (a b : Nat) : Fr b (b + 17) mem (cpRo mem a b) := by
  intro o ho
  unfold cpRo
  rw [cpm_o _ (show o ≠ b + 16 by omega), cpm_o _ (show o ≠ b + 14 by omega), cpm_o _ (show o ≠ b + 12 by omega), cpm_o _ (show o ≠ b + 10 by omega), cpm_o _ (show o ≠ b + 8 by omega), cpm_o _ (show o ≠ b + 6 by omega), cpm_o _ (show o ≠ b + 4 by omega), cpm_o _ (show o ≠ b + 2 by omega), um_ne _ _ _ (show o ≠ b by omega)]
theorem cpOf_in (mem : Mem) {a b : Nat} (hd : a + 9 ≤ b ∨ b + 9 ≤ a) : cpOf mem a b b 0 = mem a 0 ∧ cpOf mem a b b 1 = mem a 1 ∧ (∀ j, j < 60 → cpOf mem a b (b + 2) j = mem (a + 2) j) ∧ (∀ j, j < 60 → cpOf mem a b (b + 4) j = mem (a + 4) j) ∧ (∀ j, j < 60 → cpOf mem a b (b + 6) j = mem (a + 6) j) ∧ (∀ j, j < 60 → cpOf mem a b (b + 8) j = mem (a + 8) j) := by
  unfold cpOf
  refine ⟨?_, ?_, fun j hj => ?_, fun j hj => ?_, fun j hj => ?_, fun j hj => ?_⟩
  · rw [cpm_o _ (show b ≠ b + 8 by omega), cpm_o _ (show b ≠ b + 6 by omega), cpm_o _ (show b ≠ b + 4 by omega), cpm_o _ (show b ≠ b + 2 by omega), um_k _ _ (show (0 : Nat) ≠ 1 by decide), um_eq]
  · rw [cpm_o _ (show b ≠ b + 8 by omega), cpm_o _ (show b ≠ b + 6 by omega), cpm_o _ (show b ≠ b + 4 by omega), cpm_o _ (show b ≠ b + 2 by omega), um_eq]
  · rw [cpm_o _ (show b + 2 ≠ b + 8 by omega), cpm_o _ (show b + 2 ≠ b + 6 by omega), cpm_o _ (show b + 2 ≠ b + 4 by omega), cpm_in _ hj, um_o _ _ (show a + 2 ≠ b by omega), um_o _ _ (show a + 2 ≠ b by omega)]
  · rw [cpm_o _ (show b + 4 ≠ b + 8 by omega), cpm_o _ (show b + 4 ≠ b + 6 by omega), cpm_in _ hj, cpm_o _ (show a + 4 ≠ b + 2 by omega), um_o _ _ (show a + 4 ≠ b by omega), um_o _ _ (show a + 4 ≠ b by omega)]
  · rw [cpm_o _ (show b + 6 ≠ b + 8 by omega), cpm_in _ hj, cpm_o _ (show a + 6 ≠ b + 4 by omega), cpm_o _ (show a + 6 ≠ b + 2 by omega), um_o _ _ (show a + 6 ≠ b by omega), um_o _ _ (show a + 6 ≠ b by omega)]
  · rw [cpm_in _ hj, cpm_o _ (show a + 8 ≠ b + 6 by omega), cpm_o _ (show a + 8 ≠ b + 4 by omega), cpm_o _ (show a + 8 ≠ b + 2 by omega), um_o _ _ (show a + 8 ≠ b by omega), um_o _ _ (show a + 8 ≠ b by omega)]
theorem cpOf_fr (mem : Mem) (a b : Nat) : Fr b (b + 9) mem (cpOf mem a b) := by
  intro o ho
  unfold cpOf
  rw [cpm_o _ (show o ≠ b + 8 by omega), cpm_o _ (show o ≠ b + 6 by omega), cpm_o _ (show o ≠ b + 4 by omega), cpm_o _ (show o ≠ b + 2 by omega), um_ne _ _ _ (show o ≠ b by omega), um_ne _ _ _ (show o ≠ b by omega)]
theorem cpRm_in (mem : Mem) {a b : Nat} (hd : a + 19 ≤ b ∨ b + 19 ≤ a) : cpRm mem a b b 0 = mem a 0 ∧ (∀ j, j < 20 → cpRm mem a b (b + 2) j = mem (a + 2) j) ∧ (∀ j, j < 60 → cpRm mem a b (b + 4) j = mem (a + 4) j) ∧ (∀ j, j < 60 → cpRm mem a b (b + 6) j = mem (a + 6) j) ∧ (∀ j, j < 20 → cpRm mem a b (b + 8) j = mem (a + 8) j) ∧ (∀ j, j < 20 → cpRm mem a b (b + 10) j = mem (a + 10) j) ∧ (∀ j, j < 20 → cpRm mem a b (b + 12) j = mem (a + 12) j) ∧ (∀ j, j < 20 → cpRm mem a b (b + 14) j = mem (a + 14) j) ∧ (∀ j, j < 20 → cpRm mem a b (b + 16) j = mem (a + 16) j) ∧ (∀ j, j < 720 → cpRm mem a b (b + 18) j = mem (a + 18) j) := by
  unfold cpRm
  refine ⟨?_, fun j hj => ?_, fun j hj => ?_, fun j hj => ?_, fun j hj => ?_, fun j hj => ?_, fun j hj => ?_, fun j hj => ?_, fun j hj => ?_, fun j hj => ?_⟩
  · rw [cpm_o _ (show b ≠ b + 18 by omega), cpm_o _ (show b ≠ b + 16 by omega), cpm_o _ (show b ≠ b + 14 by omega), cpm_o _ (show b ≠ b + 12 by omega), cpm_o _ (show b ≠ b + 10 by omega), cpm_o _ (show b ≠ b + 8 by omega), cpm_o _ (show b ≠ b + 6 by omega), cpm_o _ (show b ≠ b + 4 by omega), cpm_o _ (show b ≠ b + 2 by omega), um_eq]
  · rw [cpm_o _ (show b + 2 ≠ b + 18 by omega), cpm_o _ (show b + 2 ≠ b + 16 by omega), cpm_o _ (show b + 2 ≠ b + 14 by omega), cpm_o _ (show b + 2 ≠ b + 12 by omega), cpm_o _ (show b + 2 ≠ b + 10 by omega), cpm_o _ (show b + 2 ≠ b + 8 by omega), cpm_o _ (show b + 2 ≠ b + 6 by omega), cpm_o _ (show b + 2 ≠ b + 4 by omega), cpm_in _ hj, um_o _ _ (show a + 2 ≠ b by omega)]
  · rw [cpm_o _ (show b + 4 ≠ b + 18 by omega), cpm_o _ (show b + 4 ≠ b + 16 by omega), cpm_o _ (show b + 4 ≠ b + 14 by omega), cpm_o _ (show b + 4 ≠ b + 12 by omega), cpm_o _ (show b + 4 ≠ b + 10 by omega), cpm_o _ (show b + 4 ≠ b + 8 by omega), cpm_o _ (show b + 4 ≠ b + 6 by omega), cpm_in _ hj, cpm_o _ (show a + 4 ≠ b + 2 by omega), um_o _ _ (show a + 4 ≠ b by omega)]
  · rw [cpm_o _ (show b + 6 ≠ b + 18 by omega), cpm_o _ (show b + 6 ≠ b + 16 by omega), cpm_o _ (show b + 6 ≠ b + 14 by omega), cpm_o _ (show b + 6 ≠ b + 12 by omega), cpm_o _ (show b + 6 ≠ b + 10 by omega), cpm_o _ (show b + 6 ≠ b + 8 by omega), cpm_in _ hj, cpm_o _ (show a + 6 ≠ b + 4 by omega), cpm_o _ (show a + 6 ≠ b + 2 by omega), um_o _ _ (show a + 6 ≠ b by omega)]
  · rw [cpm_o _ (show b + 8 ≠ b + 18 by omega), cpm_o _ (show b + 8 ≠ b + 16 by omega), cpm_o _ (show b + 8 ≠ b + 14 by omega), cpm_o _ (show b + 8 ≠ b + 12 by omega), cpm_o _ (show b + 8 ≠ b + 10 by omega), cpm_in _ hj, cpm_o _ (show a + 8 ≠ b + 6 by omega), cpm_o _ (show a + 8 ≠ b + 4 by omega), cpm_o _ (show a + 8 ≠ b + 2 by omega), um_o _ _ (show a + 8 ≠ b by omega)]
  · rw [cpm_o _ (show b + 10 ≠ b + 18 by omega), cpm_o _ (show b + 10 ≠ b + 16 by omega), cpm_o _ (show b + 10 ≠ b + 14 by omega), cpm_o _ (show b + 10 ≠ b + 12 by omega), cpm_in _ hj, cpm_o _ (show a + 10 ≠ b + 8 by omega), cpm_o _ (show a + 10 ≠ b + 6 by omega), cpm_o _ (show a + 10 ≠ b + 4 by omega), cpm_o _ (show a + 10 ≠ b + 2 by omega), um_o _ _ (show a + 10 ≠ b by omega)]
  · rw [cpm_o _ (show b + 12 ≠ b + 18 by omega), cpm_o _ (show b + 12 ≠ b + 16 by omega), cpm_o _ (show b + 12 ≠ b + 14 by omega), cpm_in _ hj, cpm_o _ (show a + 12 ≠ b + 10 by omega), cpm_o _ (show a + 12 ≠ b + 8 by omega), cpm_o _ (show a + 12 ≠ b + 6 by omega), cpm_o _ (show a + 12 ≠ b + 4 by omega), cpm_o _ (show a + 12 ≠ b + 2 by omega), um_o _ _ (show a + 12 ≠ b by omega)]
  · rw [cpm_o _ (show b + 14 ≠ b + 18 by omega), cpm_o _ (show b + 14 ≠ b + 16 by omega), cpm_in _ hj, cpm_o _ (show a + 14 ≠ b + 12 by omega), cpm_o _ (show a + 14 ≠ b + 10 by omega), cpm_o _ (show a + 14 ≠ b + 8 by omega), cpm_o _ (show a + 14 ≠ b + 6 by omega), cpm_o _ (show a + 14 ≠ b + 4 by omega), cpm_o _ (show a + 14 ≠ b + 2 by omega), um_o _ _ (show a + 14 ≠ b by omega)]
  · rw [cpm_o _ (show b + 16 ≠ b + 18 by omega), cpm_in _ hj, cpm_o _ (show a + 16 ≠ b + 14 by omega), cpm_o _ (show a + 16 ≠ b + 12 by omega), cpm_o _ (show a + 16 ≠ b + 10 by omega), cpm_o _ (show a + 16 ≠ b + 8 by omega), cpm_o _ (show a + 16 ≠ b + 6 by omega), cpm_o _ (show a + 16 ≠ b + 4 by omega), cpm_o _ (show a + 16 ≠ b + 2 by omega), um_o _ _ (show a + 16 ≠ b by omega)]
  · rw [cpm_in _ hj, cpm_o _ (show a + 18 ≠ b + 16 by omega), cpm_o _ (show a + 18 ≠ b + 14 by omega), cpm_o _ (show a + 18 ≠ b + 12 by omega), cpm_o _ (show a + 18 ≠ b + 10 by omega), cpm_o _ (show a + 18 ≠ b + 8 by omega), cpm_o _ (show a + 18 ≠ b + 6 by omega), cpm_o _ (show a + 18 ≠ b + 4 by omega), cpm_o _ (show a + 18 ≠ b + 2 by omega), um_o _ _ (show a + 18 ≠ b by omega)]
theorem cpRm_fr (mem : Mem) (a b : Nat) : Fr b (b + 19) mem (cpRm mem a b) := by
  intro o ho
  unfold cpRm
  rw [cpm_o _ (show o ≠ b + 18 by omega), cpm_o _ (show o ≠ b + 16 by omega), cpm_o _ (show o ≠ b + 14 by omega), cpm_o _ (show o ≠ b + 12 by omega), cpm_o _ (show o ≠ b + 10 by omega), cpm_o _ (show o ≠ b + 8 by omega), cpm_o _ (show o ≠ b + 6 by omega), cpm_o _ (show o ≠ b + 4 by omega), cpm_o _ (show o ≠ b + 2 by omega), um_ne _ _ _ (show o ≠ b by omega)]
def BL (mem : Mem) (β : Nat) (R : RS) (ld : Nat → Nat) : Prop := SetRep mem β R ∧ mem β 4 = nI (R 3) ∧ RoRep mem (β + 3) R ld ∧ OfRep mem (β + 20) (EL R) (R 1) ∧ mem (β + 29) 0 = nI (R 2) ∧ ∀ i, i < R 2 → RoomRep mem (β + 29) R i
/-- the same in other cells: what is read is the same -/
theorem BookRep.cp {mem m : Mem} {α β : Nat} {R : RS} (hI : Inv R) (hb : BookRep mem α R) (h4 : m β 4 = mem α 4) (hS : ∀ j, j < 5 → m (β + 2) j = mem (α + 2) j) (r0 : m (β + 3) 0 = mem (α + 3) 0) (rr : ∀ d j, d < 8 → j < 12 → m (β + 3 + (2 + 2 * d)) j = mem (α + 3 + (2 + 2 * d)) j) (o0 : m (β + 20) 0 = mem (α + 20) 0) (o1 : m (β + 20) 1 = mem (α + 20) 1) (oo : ∀ d j, d < 4 → j < 60 → m (β + 20 + (2 + 2 * d)) j = mem (α + 20 + (2 + 2 * d)) j) (q0 : m (β + 29) 0 = mem (α + 29) 0) (q20 : ∀ d j, (d = 0 ∨ 3 ≤ d ∧ d < 8) → j < 20 → m (β + 29 + (2 + 2 * d)) j = mem (α + 29 + (2 + 2 * d)) j) (q60 : ∀ d j, (d = 1 ∨ d = 2) → j < 60 → m (β + 29 + (2 + 2 * d)) j = mem (α + 29 + (2 + 2 * d)) j) (q720 : ∀ j, j < 720 → m (β + 29 + 18) j = mem (α + 29 + 18) j) : BookRep m β R := by
  obtain ⟨b1, b2, b3, b4, b5, b6⟩ := hb
  obtain ⟨⟨i1, i2, i3⟩, -, -, -, i13, -, -⟩ := hI
  refine ⟨fun k hk => by rw [hS k hk]; exact b1 k hk, by rw [h4]; exact b2, ⟨by rw [r0]; exact b3.1, fun r hr => ?_⟩, ?_, by rw [q0]; exact b5, fun i hi => ?_⟩
  · obtain ⟨c1, c2, c3, c4, c5, c6, c7, c8⟩ := b3.2 r hr
    exact ⟨(rr 0 r (by omega) hr).trans c1, (rr 1 r (by omega) hr).trans c2, (rr 2 r (by omega) hr).trans c3, (rr 3 r (by omega) hr).trans c4, (rr 4 r (by omega) hr).trans c5, (rr 5 r (by omega) hr).trans c6, (rr 6 r (by omega) hr).trans c7, (rr 7 r (by omega) hr).trans c8⟩
  · obtain ⟨d1, d2, d3, d4, d5⟩ := b4
    refine ⟨d1, d2, by rw [o0]; exact d3, by rw [o1]; exact d4, fun j hj => ?_⟩
    obtain ⟨e0, e1, e2, e3, e4⟩ := d5 j hj
    exact ⟨e0, (oo 0 j (by omega) (by omega)).trans e1, (oo 1 j (by omega) (by omega)).trans e2, (oo 2 j (by omega) (by omega)).trans e3, (oo 3 j (by omega) (by omega)).trans e4⟩
  · obtain ⟨⟨g1, g2, g3, g4, g5⟩, p2, p3⟩ := b6 i hi
    have h3 := g2.1.2.1
    refine ⟨⟨g1, g2, (q20 0 i (by omega) g1).trans g3, fun k hk => ⟨(q60 1 _ (by omega) (by omega)).trans (g4 k hk).1, (q60 2 _ (by omega) (by omega)).trans (g4 k hk).2⟩, (q20 3 i (by omega) g1).trans g5⟩, fun z => (q20 5 i (by omega) g1).trans (p2 z), fun z => ?_⟩
    obtain ⟨⟨u1, u2, u3, u4, u5⟩, v1, v2, v3⟩ := p3 z
    refine ⟨⟨(q20 5 i (by omega) g1).trans u1, (q20 6 i (by omega) g1).trans u2, u3, u4, u5⟩, (q20 4 i (by omega) g1).trans v1, (q20 7 i (by omega) g1).trans v2, fun s hs => ?_⟩
    have h36 := stripsN_le g2 u3 u4
    exact (q720 _ (by omega)).trans (v3 s hs)
/-- nothing of the book is written -/
theorem BookRep.mv {mem m : Mem} {β : Nat} {R : RS} (hI : Inv R) (hb : BookRep mem β R) (hm : ∀ o, β ≤ o → o < β + 48 → m o = mem o) : BookRep m β R := hb.cp hI (by rw [hm _ (by omega) (by omega)]) (fun j _ => by rw [hm _ (by omega) (by omega)]) (by rw [hm _ (by omega) (by omega)]) (fun d j h _ => by rw [hm _ (by omega) (by omega)]) (by rw [hm _ (by omega) (by omega)]) (by rw [hm _ (by omega) (by omega)]) (fun d j h _ => by rw [hm _ (by omega) (by omega)]) (by rw [hm _ (by omega) (by omega)]) (fun d j h _ => by rw [hm _ (by omega) (by omega)]) (fun d j h _ => by rw [hm _ (by omega) (by omega)]) (fun j _ => by rw [hm _ (by omega) (by omega)])
def cpBk (mem : Mem) (α β : Nat) : Mem := um (cpRm (cpOf (cpRo (cpm mem (α + 2) (β + 2) 5) (α + 3) (β + 3)) (α + 20) (β + 20)) (α + 29) (β + 29)) β 4 (mem α 4)
theorem cpBk_fr (mem : Mem) (α β : Nat) : Fr β (β + 48) mem (cpBk mem α β) := by
  intro o ho
  unfold cpBk
  rw [um_ne _ _ _ (by omega), cpRm_fr _ _ _ _ (by omega), cpOf_fr _ _ _ _ (by omega), cpRo_fr _ _ _ _ (by omega), cpm_o _ (by omega)]
theorem cpBk_rep {mem : Mem} {α β : Nat} (hd : α + 48 ≤ β ∨ β + 48 ≤ α) {R : RS} (hI : Inv R) (hb : BookRep mem α R) : BookRep (cpBk mem α β) β R := by
  have f1 : ∀ o, o ≠ β + 2 → cpm mem (α + 2) (β + 2) 5 o = mem o := fun o h => cpm_o _ h
  have f2 : ∀ o, o ≠ β + 2 → (o < β + 3 ∨ β + 20 ≤ o) → cpRo (cpm mem (α + 2) (β + 2) 5) (α + 3) (β + 3) o = mem o := fun o h h2 => (cpRo_fr _ _ _ o (by omega)).trans (f1 o h)
  have f3 : ∀ o, o ≠ β + 2 → (o < β + 3 ∨ β + 29 ≤ o) → cpOf (cpRo (cpm mem (α + 2) (β + 2) 5) (α + 3) (β + 3)) (α + 20) (β + 20) o = mem o := fun o h h2 => (cpOf_fr _ _ _ o (by omega)).trans (f2 o h (by omega))
  obtain ⟨r0, r1, r2, r3, r4, r5, r6, r7, r8⟩ := cpRo_in (cpm mem (α + 2) (β + 2) 5) (a := α + 3) (b := β + 3) (by omega)
  obtain ⟨o0, o1, o2, o3, o4, o5⟩ := cpOf_in (cpRo (cpm mem (α + 2) (β + 2) 5) (α + 3) (β + 3)) (a := α + 20) (b := β + 20) (by omega)
  obtain ⟨q0, q1, q2, q3, q4, q5, q6, q7, q8, q9⟩ := cpRm_in (cpOf (cpRo (cpm mem (α + 2) (β + 2) 5) (α + 3) (β + 3)) (α + 20) (β + 20)) (a := α + 29) (b := β + 29) (by omega)
  have top : ∀ o, o ≠ β → cpBk mem α β o = cpRm (cpOf (cpRo (cpm mem (α + 2) (β + 2) 5) (α + 3) (β + 3)) (α + 20) (β + 20)) (α + 29) (β + 29) o := fun o h => um_ne _ _ _ h
  have t2 : ∀ o, o ≠ β → (o < β + 29 ∨ β + 48 ≤ o) → cpBk mem α β o = cpOf (cpRo (cpm mem (α + 2) (β + 2) 5) (α + 3) (β + 3)) (α + 20) (β + 20) o := fun o h h2 => (top o h).trans (cpRm_fr _ _ _ o (by omega))
  have t3 : ∀ o, o ≠ β → (o < β + 20 ∨ β + 48 ≤ o) → cpBk mem α β o = cpRo (cpm mem (α + 2) (β + 2) 5) (α + 3) (β + 3) o := fun o h h2 => (t2 o h (by omega)).trans (cpOf_fr _ _ _ o (by omega))
  have t4 : ∀ o, o ≠ β → (o < β + 3 ∨ β + 48 ≤ o) → cpBk mem α β o = cpm mem (α + 2) (β + 2) 5 o := fun o h h2 => (t3 o h (by omega)).trans (cpRo_fr _ _ _ o (by omega))
  refine hb.cp hI (um_eq _ _ _ _) (fun j hj => ?_) ?_ (fun d j hd2 hj => ?_) ?_ ?_ (fun d j hd2 hj => ?_) ?_ (fun d j hd2 hj => ?_) (fun d j hd2 hj => ?_) (fun j hj => ?_)
  · rw [t4 _ (by omega) (by omega), cpm_in _ hj]
  · rw [t3 _ (by omega) (by omega), r0, f1 _ (by omega)]
  · rw [t3 _ (by omega) (by omega)]
    rcases (show d = 0 ∨ d = 1 ∨ d = 2 ∨ d = 3 ∨ d = 4 ∨ d = 5 ∨ d = 6 ∨ d = 7 by omega) with rfl | rfl | rfl | rfl | rfl | rfl | rfl | rfl
    · rw [r1 j hj, f1 _ (by omega)]
    · rw [r2 j hj, f1 _ (by omega)]
    · rw [r3 j hj, f1 _ (by omega)]
    · rw [r4 j hj, f1 _ (by omega)]
    · rw [r5 j hj, f1 _ (by omega)]
    · rw [r6 j hj, f1 _ (by omega)]
    · rw [r7 j hj, f1 _ (by omega)]
    · rw [r8 j hj, f1 _ (by omega)]
  · rw [t2 _ (by omega) (by omega), o0, f2 _ (by omega) (by omega)]
  · rw [t2 _ (by omega) (by omega), o1, f2 _ (by omega) (by omega)]
  · rw [t2 _ (by omega) (by omega)]
    rcases (show d = 0 ∨ d = 1 ∨ d = 2 ∨ d = 3 by omega) with rfl | rfl | rfl | rfl
    · rw [o2 j hj, f2 _ (by omega) (by omega)]
    · rw [o3 j hj, f2 _ (by omega) (by omega)]
    · rw [o4 j hj, f2 _ (by omega) (by omega)]
    · rw [o5 j hj, f2 _ (by omega) (by omega)]
  · rw [top _ (by omega), q0, f3 _ (by omega) (by omega)]
  · rw [top _ (by omega)]
    rcases (show d = 0 ∨ d = 3 ∨ d = 4 ∨ d = 5 ∨ d = 6 ∨ d = 7 by omega) with rfl | rfl | rfl | rfl | rfl | rfl
    · rw [q1 j hj, f3 _ (by omega) (by omega)]
    · rw [q4 j hj, f3 _ (by omega) (by omega)]
    · rw [q5 j hj, f3 _ (by omega) (by omega)]
    · rw [q6 j hj, f3 _ (by omega) (by omega)]
    · rw [q7 j hj, f3 _ (by omega) (by omega)]
    · rw [q8 j hj, f3 _ (by omega) (by omega)]
  · rw [top _ (by omega)]
    rcases hd2 with rfl | rfl
    · rw [q2 j hj, f3 _ (by omega) (by omega)]
    · rw [q3 j hj, f3 _ (by omega) (by omega)]
  · rw [top _ (by omega), q9 j hj, f3 _ (by omega) (by omega)]
section
variable {l : Launch} {g : XG} {sh : Nat → Sh} {mem : Mem} {α β : Nat}
theorem ct_Bk_copyFrom (hB : LayBk sh β) (hA : LayBk sh α) (hd : α + 48 ≤ β ∨ β + 48 ≤ α) : Ct l g M_Bk_copyFrom [rf g β, rf g α] none sh mem (Rv none sh (fun m => Fr β (β + 48) mem m ∧ ∀ R, Inv R → BookRep mem α R → BookRep m β R)) := by
  refine x_begin rfl rfl rfl (by decide) rfl ?_
  refine x_aload_n d_Bk_copyFrom_0 rfl ?_
  refine x_getR hB.f0 rfl fs_Bk_14 d_Bk_copyFrom_1 ?_
  refine x_aload_n d_Bk_copyFrom_4 rfl ?_
  refine x_getR hA.f0 rfl fs_Bk_14 d_Bk_copyFrom_5 ?_
  refine x_v1v d_Bk_copyFrom_8 ml_Bk_45 v_Rw_copyFrom rfl ⟨rfl, rfl⟩ (row_io hB.f1) (Nat.le_of_ble_eq_true rfl) (ct_Rw_copyFrom hB.f1 hB.f2 hA.f1 hA.f2 (by omega)) (fun _ hE => ?_)
  subst hE
  refine x_aload_n d_Bk_copyFrom_11 rfl ?_
  refine x_getR hB.f0 rfl fs_Bk_23 d_Bk_copyFrom_12 ?_
  refine x_aload_n d_Bk_copyFrom_15 rfl ?_
  refine x_getR hA.f0 rfl fs_Bk_23 d_Bk_copyFrom_16 ?_
  refine x_v1v d_Bk_copyFrom_19 ml_Bk_49 v_Ro_copyFrom rfl ⟨rfl, rfl⟩ hB.s3.io (Nat.le_of_ble_eq_true rfl) (ct_Ro_copyFrom hB.s3 hA.s3) (fun _ hE => ?_)
  subst hE
  refine x_aload_n d_Bk_copyFrom_22 rfl ?_
  refine x_getR hB.f0 rfl fs_Bk_30 d_Bk_copyFrom_23 ?_
  refine x_aload_n d_Bk_copyFrom_26 rfl ?_
  refine x_getR hA.f0 rfl fs_Bk_30 d_Bk_copyFrom_27 ?_
  refine x_v1v d_Bk_copyFrom_30 ml_Bk_52 v_Of_copyFrom rfl ⟨rfl, rfl⟩ hB.s20.io (Nat.le_of_ble_eq_true rfl) (ct_Of_copyFrom hB.s20 hA.s20 (by omega)) (fun _ hE => ?_)
  subst hE
  refine x_aload_n d_Bk_copyFrom_33 rfl ?_
  refine x_getR hB.f0 rfl fs_Bk_37 d_Bk_copyFrom_34 ?_
  refine x_aload_n d_Bk_copyFrom_37 rfl ?_
  refine x_getR hA.f0 rfl fs_Bk_37 d_Bk_copyFrom_38 ?_
  refine x_v1v d_Bk_copyFrom_41 ml_Bk_55 v_Rm_copyFrom rfl ⟨rfl, rfl⟩ hB.s29.io (Nat.le_of_ble_eq_true rfl) (ct_Rm_copyFrom hB.s29 hA.s29) (fun _ hE => ?_)
  subst hE
  refine x_aload_n d_Bk_copyFrom_44 rfl ?_
  refine x_aload_n d_Bk_copyFrom_45 rfl ?_
  refine x_getI hA.f0 rfl fs_Bk_58 d_Bk_copyFrom_46 ?_
  rw [cpRm_fr _ _ _ α (by omega), cpOf_fr _ _ _ α (by omega), cpRo_fr _ _ _ α (by omega), cpm_o _ (show α ≠ β + 2 by omega)]
  refine x_putI hB.f0 rfl ps_Bk_58 rfl rfl d_Bk_copyFrom_49 ?_
  refine x_vret rfl d_Bk_copyFrom_52 (Nat.zero_le _) (Nat.zero_le _) ?_
  exact ⟨rfl, rfl, rfl, cpBk_fr _ _ _, fun R hI hb => cpBk_rep hd hI hb⟩
end
