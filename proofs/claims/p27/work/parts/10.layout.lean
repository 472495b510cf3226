def lay_Ro (ρ i : Nat) : Sh :=
  if i = 0 then .inl (4, [none, some (some (ρ + 1)), some (some (ρ + 3)), some (some (ρ + 5)), some (some (ρ + 7)), some (some (ρ + 9)), some (some (ρ + 11)), some (some (ρ + 13)), some (some (ρ + 15))]) else
  if i = 1 then .inl (7, [some (some (ρ + 2))]) else
  if i = 2 then .inr (.inl 12) else
  if i = 3 then .inl (7, [some (some (ρ + 4))]) else
  if i = 4 then .inr (.inl 12) else
  if i = 5 then .inl (7, [some (some (ρ + 6))]) else
  if i = 6 then .inr (.inl 12) else
  if i = 7 then .inl (7, [some (some (ρ + 8))]) else
  if i = 8 then .inr (.inl 12) else
  if i = 9 then .inl (7, [some (some (ρ + 10))]) else
  if i = 10 then .inr (.inl 12) else
  if i = 11 then .inl (7, [some (some (ρ + 12))]) else
  if i = 12 then .inr (.inl 12) else
  if i = 13 then .inl (7, [some (some (ρ + 14))]) else
  if i = 14 then .inr (.inl 12) else
  if i = 15 then .inl (7, [some (some (ρ + 16))]) else
  if i = 16 then .inr (.inl 12) else
  sh0
def LayRo (sh : Nat → Sh) (ρ : Nat) : Prop := ∀ i, i < 17 → sh (ρ + i) = lay_Ro ρ i
theorem LayRo.f0 {sh : Nat → Sh} {ρ : Nat} (h : LayRo sh ρ) : sh ρ = .inl (4, [none, some (some (ρ + 1)), some (some (ρ + 3)), some (some (ρ + 5)), some (some (ρ + 7)), some (some (ρ + 9)), some (some (ρ + 11)), some (some (ρ + 13)), some (some (ρ + 15))]) := h 0 (by decide)
theorem LayRo.f1 {sh : Nat → Sh} {ρ : Nat} (h : LayRo sh ρ) : sh (ρ + 1) = .inl (7, [some (some (ρ + 2))]) := h 1 (by decide)
theorem LayRo.f2 {sh : Nat → Sh} {ρ : Nat} (h : LayRo sh ρ) : sh (ρ + 2) = .inr (.inl 12) := h 2 (by decide)
theorem LayRo.f3 {sh : Nat → Sh} {ρ : Nat} (h : LayRo sh ρ) : sh (ρ + 3) = .inl (7, [some (some (ρ + 4))]) := h 3 (by decide)
theorem LayRo.f4 {sh : Nat → Sh} {ρ : Nat} (h : LayRo sh ρ) : sh (ρ + 4) = .inr (.inl 12) := h 4 (by decide)
theorem LayRo.f5 {sh : Nat → Sh} {ρ : Nat} (h : LayRo sh ρ) : sh (ρ + 5) = .inl (7, [some (some (ρ + 6))]) := h 5 (by decide)
theorem LayRo.f6 {sh : Nat → Sh} {ρ : Nat} (h : LayRo sh ρ) : sh (ρ + 6) = .inr (.inl 12) := h 6 (by decide)
theorem LayRo.f7 {sh : Nat → Sh} {ρ : Nat} (h : LayRo sh ρ) : sh (ρ + 7) = .inl (7, [some (some (ρ + 8))]) := h 7 (by decide)
theorem LayRo.f8 {sh : Nat → Sh} {ρ : Nat} (h : LayRo sh ρ) : sh (ρ + 8) = .inr (.inl 12) := h 8 (by decide)
theorem LayRo.f9 {sh : Nat → Sh} {ρ : Nat} (h : LayRo sh ρ) : sh (ρ + 9) = .inl (7, [some (some (ρ + 10))]) := h 9 (by decide)
theorem LayRo.f10 {sh : Nat → Sh} {ρ : Nat} (h : LayRo sh ρ) : sh (ρ + 10) = .inr (.inl 12) := h 10 (by decide)
theorem LayRo.f11 {sh : Nat → Sh} {ρ : Nat} (h : LayRo sh ρ) : sh (ρ + 11) = .inl (7, [some (some (ρ + 12))]) := h 11 (by decide)
theorem LayRo.f12 {sh : Nat → Sh} {ρ : Nat} (h : LayRo sh ρ) : sh (ρ + 12) = .inr (.inl 12) := h 12 (by decide)
theorem LayRo.f13 {sh : Nat → Sh} {ρ : Nat} (h : LayRo sh ρ) : sh (ρ + 13) = .inl (7, [some (some (ρ + 14))]) := h 13 (by decide)
theorem LayRo.f14 {sh : Nat → Sh} {ρ : Nat} (h : LayRo sh ρ) : sh (ρ + 14) = .inr (.inl 12) := h 14 (by decide)
theorem LayRo.f15 {sh : Nat → Sh} {ρ : Nat} (h : LayRo sh ρ) : sh (ρ + 15) = .inl (7, [some (some (ρ + 16))]) := h 15 (by decide)
theorem LayRo.f16 {sh : Nat → Sh} {ρ : Nat} (h : LayRo sh ρ) : sh (ρ + 16) = .inr (.inl 12) := h 16 (by decide)
theorem LayRo.io {sh : Nat → Sh} {ρ : Nat} (h : LayRo sh ρ) : IsObj sh ρ "CarpetCounter$Rolls" := ⟨_, _, h.f0, List.cons_ne_nil _ _, rfl⟩
def lay_Of (ρ i : Nat) : Sh :=
  if i = 0 then .inl (3, [none, none, some (some (ρ + 1)), some (some (ρ + 3)), some (some (ρ + 5)), some (some (ρ + 7))]) else
  if i = 1 then .inl (7, [some (some (ρ + 2))]) else
  if i = 2 then .inr (.inl 60) else
  if i = 3 then .inl (7, [some (some (ρ + 4))]) else
  if i = 4 then .inr (.inl 60) else
  if i = 5 then .inl (7, [some (some (ρ + 6))]) else
  if i = 6 then .inr (.inl 60) else
  if i = 7 then .inl (7, [some (some (ρ + 8))]) else
  if i = 8 then .inr (.inl 60) else
  sh0
def LayOf (sh : Nat → Sh) (ρ : Nat) : Prop := ∀ i, i < 9 → sh (ρ + i) = lay_Of ρ i
theorem LayOf.f0 {sh : Nat → Sh} {ρ : Nat} (h : LayOf sh ρ) : sh ρ = .inl (3, [none, none, some (some (ρ + 1)), some (some (ρ + 3)), some (some (ρ + 5)), some (some (ρ + 7))]) := h 0 (by decide)
theorem LayOf.f1 {sh : Nat → Sh} {ρ : Nat} (h : LayOf sh ρ) : sh (ρ + 1) = .inl (7, [some (some (ρ + 2))]) := h 1 (by decide)
theorem LayOf.f2 {sh : Nat → Sh} {ρ : Nat} (h : LayOf sh ρ) : sh (ρ + 2) = .inr (.inl 60) := h 2 (by decide)
theorem LayOf.f3 {sh : Nat → Sh} {ρ : Nat} (h : LayOf sh ρ) : sh (ρ + 3) = .inl (7, [some (some (ρ + 4))]) := h 3 (by decide)
theorem LayOf.f4 {sh : Nat → Sh} {ρ : Nat} (h : LayOf sh ρ) : sh (ρ + 4) = .inr (.inl 60) := h 4 (by decide)
theorem LayOf.f5 {sh : Nat → Sh} {ρ : Nat} (h : LayOf sh ρ) : sh (ρ + 5) = .inl (7, [some (some (ρ + 6))]) := h 5 (by decide)
theorem LayOf.f6 {sh : Nat → Sh} {ρ : Nat} (h : LayOf sh ρ) : sh (ρ + 6) = .inr (.inl 60) := h 6 (by decide)
theorem LayOf.f7 {sh : Nat → Sh} {ρ : Nat} (h : LayOf sh ρ) : sh (ρ + 7) = .inl (7, [some (some (ρ + 8))]) := h 7 (by decide)
theorem LayOf.f8 {sh : Nat → Sh} {ρ : Nat} (h : LayOf sh ρ) : sh (ρ + 8) = .inr (.inl 60) := h 8 (by decide)
theorem LayOf.io {sh : Nat → Sh} {ρ : Nat} (h : LayOf sh ρ) : IsObj sh ρ "CarpetCounter$Offcuts" := ⟨_, _, h.f0, List.cons_ne_nil _ _, rfl⟩
def lay_Rm (ρ i : Nat) : Sh :=
  if i = 0 then .inl (6, [none, some (some (ρ + 1)), some (some (ρ + 3)), some (some (ρ + 5)), some (some (ρ + 7)), some (some (ρ + 9)), some (some (ρ + 11)), some (some (ρ + 13)), some (some (ρ + 15)), some (some (ρ + 17))]) else
  if i = 1 then .inl (7, [some (some (ρ + 2))]) else
  if i = 2 then .inr (.inl 20) else
  if i = 3 then .inl (7, [some (some (ρ + 4))]) else
  if i = 4 then .inr (.inl 60) else
  if i = 5 then .inl (7, [some (some (ρ + 6))]) else
  if i = 6 then .inr (.inl 60) else
  if i = 7 then .inl (7, [some (some (ρ + 8))]) else
  if i = 8 then .inr (.inl 20) else
  if i = 9 then .inl (7, [some (some (ρ + 10))]) else
  if i = 10 then .inr (.inl 20) else
  if i = 11 then .inl (7, [some (some (ρ + 12))]) else
  if i = 12 then .inr (.inl 20) else
  if i = 13 then .inl (7, [some (some (ρ + 14))]) else
  if i = 14 then .inr (.inl 20) else
  if i = 15 then .inl (7, [some (some (ρ + 16))]) else
  if i = 16 then .inr (.inl 20) else
  if i = 17 then .inl (7, [some (some (ρ + 18))]) else
  if i = 18 then .inr (.inl 720) else
  sh0
def LayRm (sh : Nat → Sh) (ρ : Nat) : Prop := ∀ i, i < 19 → sh (ρ + i) = lay_Rm ρ i
theorem LayRm.f0 {sh : Nat → Sh} {ρ : Nat} (h : LayRm sh ρ) : sh ρ = .inl (6, [none, some (some (ρ + 1)), some (some (ρ + 3)), some (some (ρ + 5)), some (some (ρ + 7)), some (some (ρ + 9)), some (some (ρ + 11)), some (some (ρ + 13)), some (some (ρ + 15)), some (some (ρ + 17))]) := h 0 (by decide)
theorem LayRm.f1 {sh : Nat → Sh} {ρ : Nat} (h : LayRm sh ρ) : sh (ρ + 1) = .inl (7, [some (some (ρ + 2))]) := h 1 (by decide)
theorem LayRm.f2 {sh : Nat → Sh} {ρ : Nat} (h : LayRm sh ρ) : sh (ρ + 2) = .inr (.inl 20) := h 2 (by decide)
theorem LayRm.f3 {sh : Nat → Sh} {ρ : Nat} (h : LayRm sh ρ) : sh (ρ + 3) = .inl (7, [some (some (ρ + 4))]) := h 3 (by decide)
theorem LayRm.f4 {sh : Nat → Sh} {ρ : Nat} (h : LayRm sh ρ) : sh (ρ + 4) = .inr (.inl 60) := h 4 (by decide)
theorem LayRm.f5 {sh : Nat → Sh} {ρ : Nat} (h : LayRm sh ρ) : sh (ρ + 5) = .inl (7, [some (some (ρ + 6))]) := h 5 (by decide)
theorem LayRm.f6 {sh : Nat → Sh} {ρ : Nat} (h : LayRm sh ρ) : sh (ρ + 6) = .inr (.inl 60) := h 6 (by decide)
theorem LayRm.f7 {sh : Nat → Sh} {ρ : Nat} (h : LayRm sh ρ) : sh (ρ + 7) = .inl (7, [some (some (ρ + 8))]) := h 7 (by decide)
theorem LayRm.f8 {sh : Nat → Sh} {ρ : Nat} (h : LayRm sh ρ) : sh (ρ + 8) = .inr (.inl 20) := h 8 (by decide)
theorem LayRm.f9 {sh : Nat → Sh} {ρ : Nat} (h : LayRm sh ρ) : sh (ρ + 9) = .inl (7, [some (some (ρ + 10))]) := h 9 (by decide)
theorem LayRm.f10 {sh : Nat → Sh} {ρ : Nat} (h : LayRm sh ρ) : sh (ρ + 10) = .inr (.inl 20) := h 10 (by decide)
theorem LayRm.f11 {sh : Nat → Sh} {ρ : Nat} (h : LayRm sh ρ) : sh (ρ + 11) = .inl (7, [some (some (ρ + 12))]) := h 11 (by decide)
theorem LayRm.f12 {sh : Nat → Sh} {ρ : Nat} (h : LayRm sh ρ) : sh (ρ + 12) = .inr (.inl 20) := h 12 (by decide)
theorem LayRm.f13 {sh : Nat → Sh} {ρ : Nat} (h : LayRm sh ρ) : sh (ρ + 13) = .inl (7, [some (some (ρ + 14))]) := h 13 (by decide)
theorem LayRm.f14 {sh : Nat → Sh} {ρ : Nat} (h : LayRm sh ρ) : sh (ρ + 14) = .inr (.inl 20) := h 14 (by decide)
theorem LayRm.f15 {sh : Nat → Sh} {ρ : Nat} (h : LayRm sh ρ) : sh (ρ + 15) = .inl (7, [some (some (ρ + 16))]) := h 15 (by decide)
theorem LayRm.f16 {sh : Nat → Sh} {ρ : Nat} (h : LayRm sh ρ) : sh (ρ + 16) = .inr (.inl 20) := h 16 (by decide)
theorem LayRm.f17 {sh : Nat → Sh} {ρ : Nat} (h : LayRm sh ρ) : sh (ρ + 17) = .inl (7, [some (some (ρ + 18))]) := h 17 (by decide)
theorem LayRm.f18 {sh : Nat → Sh} {ρ : Nat} (h : LayRm sh ρ) : sh (ρ + 18) = .inr (.inl 720) := h 18 (by decide)
theorem LayRm.io {sh : Nat → Sh} {ρ : Nat} (h : LayRm sh ρ) : IsObj sh ρ "CarpetCounter$Rooms" := ⟨_, _, h.f0, List.cons_ne_nil _ _, rfl⟩
def lay_Bk (ρ i : Nat) : Sh :=
  if i = 0 then .inl (0, [some (some (ρ + 1)), some (some (ρ + 3)), some (some (ρ + 20)), some (some (ρ + 29)), none, none, none]) else
  if i = 1 then .inl (7, [some (some (ρ + 2))]) else
  if i = 2 then .inr (.inl 5) else
  if i < 20 then lay_Ro (ρ + 3) (i - 3) else
  if i < 29 then lay_Of (ρ + 20) (i - 20) else
  if i < 48 then lay_Rm (ρ + 29) (i - 29) else
  sh0
def LayBk (sh : Nat → Sh) (ρ : Nat) : Prop := ∀ i, i < 48 → sh (ρ + i) = lay_Bk ρ i
theorem LayBk.f0 {sh : Nat → Sh} {ρ : Nat} (h : LayBk sh ρ) : sh ρ = .inl (0, [some (some (ρ + 1)), some (some (ρ + 3)), some (some (ρ + 20)), some (some (ρ + 29)), none, none, none]) := h 0 (by decide)
theorem LayBk.f1 {sh : Nat → Sh} {ρ : Nat} (h : LayBk sh ρ) : sh (ρ + 1) = .inl (7, [some (some (ρ + 2))]) := h 1 (by decide)
theorem LayBk.f2 {sh : Nat → Sh} {ρ : Nat} (h : LayBk sh ρ) : sh (ρ + 2) = .inr (.inl 5) := h 2 (by decide)
theorem LayBk.s3 {sh : Nat → Sh} {ρ : Nat} (h : LayBk sh ρ) : LayRo sh (ρ + 3) := by
  intro i hi
  have h1 := h (3 + i) (by omega)
  rw [show ρ + (3 + i) = ρ + 3 + i by omega] at h1
  rw [h1]
  unfold lay_Bk
  rw [if_neg (show ¬ 3 + i = 0 by omega), if_neg (show ¬ 3 + i = 1 by omega), if_neg (show ¬ 3 + i = 2 by omega), if_pos (show 3 + i < 20 by omega), show 3 + i - 3 = i by omega]
theorem LayBk.s20 {sh : Nat → Sh} {ρ : Nat} (h : LayBk sh ρ) : LayOf sh (ρ + 20) := by
  intro i hi
  have h1 := h (20 + i) (by omega)
  rw [show ρ + (20 + i) = ρ + 20 + i by omega] at h1
  rw [h1]
  unfold lay_Bk
  rw [if_neg (show ¬ 20 + i = 0 by omega), if_neg (show ¬ 20 + i = 1 by omega), if_neg (show ¬ 20 + i = 2 by omega), if_neg (show ¬ 20 + i < 20 by omega), if_pos (show 20 + i < 29 by omega), show 20 + i - 20 = i by omega]
theorem LayBk.s29 {sh : Nat → Sh} {ρ : Nat} (h : LayBk sh ρ) : LayRm sh (ρ + 29) := by
  intro i hi
  have h1 := h (29 + i) (by omega)
  rw [show ρ + (29 + i) = ρ + 29 + i by omega] at h1
  rw [h1]
  unfold lay_Bk
  rw [if_neg (show ¬ 29 + i = 0 by omega), if_neg (show ¬ 29 + i = 1 by omega), if_neg (show ¬ 29 + i = 2 by omega), if_neg (show ¬ 29 + i < 20 by omega), if_neg (show ¬ 29 + i < 29 by omega), if_pos (show 29 + i < 48 by omega), show 29 + i - 29 = i by omega]
theorem LayBk.io {sh : Nat → Sh} {ρ : Nat} (h : LayBk sh ρ) : IsObj sh ρ "CarpetCounter$Book" := ⟨_, _, h.f0, List.cons_ne_nil _ _, rfl⟩
def lay_Hi (ρ i : Nat) : Sh :=
  if i = 0 then .inl (2, [some (some (ρ + 1)), none, none]) else
  if i = 1 then .inr (.inr (4, fun j => if j < 4 then some (ρ + 2 + 48 * j) else none)) else
  if i < 194 then lay_Bk (ρ + 2 + 48 * ((i - 2) / 48)) ((i - 2) % 48) else
  sh0
def LayHi (sh : Nat → Sh) (ρ : Nat) : Prop := ∀ i, i < 194 → sh (ρ + i) = lay_Hi ρ i
theorem LayHi.f0 {sh : Nat → Sh} {ρ : Nat} (h : LayHi sh ρ) : sh ρ = .inl (2, [some (some (ρ + 1)), none, none]) := h 0 (by decide)
theorem LayHi.f1 {sh : Nat → Sh} {ρ : Nat} (h : LayHi sh ρ) : sh (ρ + 1) = .inr (.inr (4, fun j => if j < 4 then some (ρ + 2 + 48 * j) else none)) := h 1 (by decide)
theorem LayHi.bk {sh : Nat → Sh} {ρ : Nat} (h : LayHi sh ρ) (j : Nat) (hj : j < 4) : LayBk sh (ρ + 2 + 48 * j) := by
  intro i hi
  have h1 := h (2 + 48 * j + i) (by omega)
  rw [show ρ + (2 + 48 * j + i) = ρ + 2 + 48 * j + i by omega] at h1
  rw [h1]
  unfold lay_Hi
  rw [if_neg (show ¬ 2 + 48 * j + i = 0 by omega), if_neg (show ¬ 2 + 48 * j + i = 1 by omega), if_pos (show 2 + 48 * j + i < 194 by omega), show (2 + 48 * j + i - 2) / 48 = j by omega, show (2 + 48 * j + i - 2) % 48 = i by omega]
theorem LayHi.io {sh : Nat → Sh} {ρ : Nat} (h : LayHi sh ρ) : IsObj sh ρ "CarpetCounter$History" := ⟨_, _, h.f0, List.cons_ne_nil _ _, rfl⟩
def lay_Te (ρ i : Nat) : Sh :=
  if i = 0 then .inl (5, [some (some (ρ + 1)), none, some (some (ρ + 3)), none, none, none]) else
  if i = 1 then .inl (7, [some (some (ρ + 2))]) else
  if i = 2 then .inr (.inl 60) else
  if i < 22 then lay_Rm (ρ + 3) (i - 3) else
  sh0
def LayTe (sh : Nat → Sh) (ρ : Nat) : Prop := ∀ i, i < 22 → sh (ρ + i) = lay_Te ρ i
theorem LayTe.f0 {sh : Nat → Sh} {ρ : Nat} (h : LayTe sh ρ) : sh ρ = .inl (5, [some (some (ρ + 1)), none, some (some (ρ + 3)), none, none, none]) := h 0 (by decide)
theorem LayTe.f1 {sh : Nat → Sh} {ρ : Nat} (h : LayTe sh ρ) : sh (ρ + 1) = .inl (7, [some (some (ρ + 2))]) := h 1 (by decide)
theorem LayTe.f2 {sh : Nat → Sh} {ρ : Nat} (h : LayTe sh ρ) : sh (ρ + 2) = .inr (.inl 60) := h 2 (by decide)
theorem LayTe.s3 {sh : Nat → Sh} {ρ : Nat} (h : LayTe sh ρ) : LayRm sh (ρ + 3) := by
  intro i hi
  have h1 := h (3 + i) (by omega)
  rw [show ρ + (3 + i) = ρ + 3 + i by omega] at h1
  rw [h1]
  unfold lay_Te
  rw [if_neg (show ¬ 3 + i = 0 by omega), if_neg (show ¬ 3 + i = 1 by omega), if_neg (show ¬ 3 + i = 2 by omega), if_pos (show 3 + i < 22 by omega), show 3 + i - 3 = i by omega]
theorem LayTe.io {sh : Nat → Sh} {ρ : Nat} (h : LayTe sh ρ) : IsObj sh ρ "CarpetCounter$RoomText" := ⟨_, _, h.f0, List.cons_ne_nil _ _, rfl⟩
def lay_Ch (ρ i : Nat) : Sh :=
  if i = 0 then .inl (1, [none, none, none, none, none]) else
  sh0
def LayCh (sh : Nat → Sh) (ρ : Nat) : Prop := ∀ i, i < 1 → sh (ρ + i) = lay_Ch ρ i
theorem LayCh.f0 {sh : Nat → Sh} {ρ : Nat} (h : LayCh sh ρ) : sh ρ = .inl (1, [none, none, none, none, none]) := h 0 (by decide)
theorem LayCh.io {sh : Nat → Sh} {ρ : Nat} (h : LayCh sh ρ) : IsObj sh ρ "CarpetCounter$Choice" := ⟨_, _, h.f0, List.cons_ne_nil _ _, rfl⟩
def lay_Cc (ρ i : Nat) : Sh :=
  if i = 0 then .inl (8, [some (some (ρ + 1)), some (some (ρ + 49)), some (some (ρ + 97)), some (some (ρ + 145)), some (some (ρ + 193)), some (some (ρ + 387)), some (some (ρ + 409)), none]) else
  if i < 49 then lay_Bk (ρ + 1) (i - 1) else
  if i < 97 then lay_Bk (ρ + 49) (i - 49) else
  if i < 145 then lay_Bk (ρ + 97) (i - 97) else
  if i < 193 then lay_Bk (ρ + 145) (i - 145) else
  if i < 387 then lay_Hi (ρ + 193) (i - 193) else
  if i < 409 then lay_Te (ρ + 387) (i - 387) else
  if i < 410 then lay_Ch (ρ + 409) (i - 409) else
  sh0
def LayCc (sh : Nat → Sh) (ρ : Nat) : Prop := ∀ i, i < 410 → sh (ρ + i) = lay_Cc ρ i
theorem LayCc.f0 {sh : Nat → Sh} {ρ : Nat} (h : LayCc sh ρ) : sh ρ = .inl (8, [some (some (ρ + 1)), some (some (ρ + 49)), some (some (ρ + 97)), some (some (ρ + 145)), some (some (ρ + 193)), some (some (ρ + 387)), some (some (ρ + 409)), none]) := h 0 (by decide)
theorem LayCc.s1 {sh : Nat → Sh} {ρ : Nat} (h : LayCc sh ρ) : LayBk sh (ρ + 1) := by
  intro i hi
  have h1 := h (1 + i) (by omega)
  rw [show ρ + (1 + i) = ρ + 1 + i by omega] at h1
  rw [h1]
  unfold lay_Cc
  rw [if_neg (show ¬ 1 + i = 0 by omega), if_pos (show 1 + i < 49 by omega), show 1 + i - 1 = i by omega]
theorem LayCc.s49 {sh : Nat → Sh} {ρ : Nat} (h : LayCc sh ρ) : LayBk sh (ρ + 49) := by
  intro i hi
  have h1 := h (49 + i) (by omega)
  rw [show ρ + (49 + i) = ρ + 49 + i by omega] at h1
  rw [h1]
  unfold lay_Cc
  rw [if_neg (show ¬ 49 + i = 0 by omega), if_neg (show ¬ 49 + i < 49 by omega), if_pos (show 49 + i < 97 by omega), show 49 + i - 49 = i by omega]
theorem LayCc.s97 {sh : Nat → Sh} {ρ : Nat} (h : LayCc sh ρ) : LayBk sh (ρ + 97) := by
  intro i hi
  have h1 := h (97 + i) (by omega)
  rw [show ρ + (97 + i) = ρ + 97 + i by omega] at h1
  rw [h1]
  unfold lay_Cc
  rw [if_neg (show ¬ 97 + i = 0 by omega), if_neg (show ¬ 97 + i < 49 by omega), if_neg (show ¬ 97 + i < 97 by omega), if_pos (show 97 + i < 145 by omega), show 97 + i - 97 = i by omega]
theorem LayCc.s145 {sh : Nat → Sh} {ρ : Nat} (h : LayCc sh ρ) : LayBk sh (ρ + 145) := by
  intro i hi
  have h1 := h (145 + i) (by omega)
  rw [show ρ + (145 + i) = ρ + 145 + i by omega] at h1
  rw [h1]
  unfold lay_Cc
  rw [if_neg (show ¬ 145 + i = 0 by omega), if_neg (show ¬ 145 + i < 49 by omega), if_neg (show ¬ 145 + i < 97 by omega), if_neg (show ¬ 145 + i < 145 by omega), if_pos (show 145 + i < 193 by omega), show 145 + i - 145 = i by omega]
theorem LayCc.s193 {sh : Nat → Sh} {ρ : Nat} (h : LayCc sh ρ) : LayHi sh (ρ + 193) := by
  intro i hi
  have h1 := h (193 + i) (by omega)
  rw [show ρ + (193 + i) = ρ + 193 + i by omega] at h1
  rw [h1]
  unfold lay_Cc
  rw [if_neg (show ¬ 193 + i = 0 by omega), if_neg (show ¬ 193 + i < 49 by omega), if_neg (show ¬ 193 + i < 97 by omega), if_neg (show ¬ 193 + i < 145 by omega), if_neg (show ¬ 193 + i < 193 by omega), if_pos (show 193 + i < 387 by omega), show 193 + i - 193 = i by omega]
theorem LayCc.s387 {sh : Nat → Sh} {ρ : Nat} (h : LayCc sh ρ) : LayTe sh (ρ + 387) := by
  intro i hi
  have h1 := h (387 + i) (by omega)
  rw [show ρ + (387 + i) = ρ + 387 + i by omega] at h1
  rw [h1]
  unfold lay_Cc
  rw [if_neg (show ¬ 387 + i = 0 by omega), if_neg (show ¬ 387 + i < 49 by omega), if_neg (show ¬ 387 + i < 97 by omega), if_neg (show ¬ 387 + i < 145 by omega), if_neg (show ¬ 387 + i < 193 by omega), if_neg (show ¬ 387 + i < 387 by omega), if_pos (show 387 + i < 409 by omega), show 387 + i - 387 = i by omega]
theorem LayCc.s409 {sh : Nat → Sh} {ρ : Nat} (h : LayCc sh ρ) : LayCh sh (ρ + 409) := by
  intro i hi
  have h1 := h (409 + i) (by omega)
  rw [show ρ + (409 + i) = ρ + 409 + i by omega] at h1
  rw [h1]
  unfold lay_Cc
  rw [if_neg (show ¬ 409 + i = 0 by omega), if_neg (show ¬ 409 + i < 49 by omega), if_neg (show ¬ 409 + i < 97 by omega), if_neg (show ¬ 409 + i < 145 by omega), if_neg (show ¬ 409 + i < 193 by omega), if_neg (show ¬ 409 + i < 387 by omega), if_neg (show ¬ 409 + i < 409 by omega), if_pos (show 409 + i < 410 by omega), show 409 + i - 409 = i by omega]
theorem LayCc.io {sh : Nat → Sh} {ρ : Nat} (h : LayCc sh ρ) : IsObj sh ρ "CarpetCounter" := ⟨_, _, h.f0, List.cons_ne_nil _ _, rfl⟩
theorem row_io {sh : Nat → Sh} {o a : Nat} (h : sh o = .inl (7, [some (some a)])) : IsObj sh o "CarpetCounter$Row" := ⟨_, _, h, List.cons_ne_nil _ _, rfl⟩
